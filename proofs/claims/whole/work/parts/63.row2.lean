/-- the class's state in a run: tables, nodes, plans, combinations -/
def Rc (q r : QS) (S T N I C cap : Nat) (cr : Nat → Nat → Nat) (P1 P2 : Nat → Prop) : Prop := SOk r S ∧ SimT q r S T ∧ SimN q r S T N ∧ Pl q r N I P1 P2 ∧ CC q C cr ∧ (∀ c, c < C → ∀ t, t < T → cr c t < tR r t) ∧ C ≤ cap ∧ cap ≤ 2000 ∧ qF q 12 = nI cap ∧ qC q = cap
theorem Rc.vr {q q' r : QS} {S T N I C cap : Nat} {cr : Nat → Nat → Nat} {P1 P2 : Nat → Prop} (h : OnVR q q') (hk : KC r N q q') (hr : Rc q r S T N I C cap cr P1 P2) : Rc q' r S T N I C cap cr P1 P2 := by
  obtain ⟨a1, a2, a3, a4, a5, a6, a7, a8, a9, a10⟩ := hr
  exact ⟨a1, h.run.T a1 a2, h.run.N a1 hk a3, a4.keep (fun k hk => h.1 k (by omega) (by omega)) (fun k _ => by rw [h.2.2.1]), fun c hc => by rw [h.1 50 (by decide) (by decide)]; exact a5 c hc, a6, a7, a8, by rw [h.2.2.1]; exact a9, by rw [h.2.2.2]; exact a10⟩
theorem goTo_vr {q q' : QS} (h1 : ∀ k, k ≠ 46 → qI q' k = qI q k) (h2 : qL q' = qL q) (h3 : qF q' = qF q) (h4 : qC q' = qC q) : OnVR q q' := ⟨fun k _ b => h1 k b, fun k _ => by rw [h2], h3, h4⟩
theorem agc_loop {S T N I C cap A : Nat} {q0 r : QS} {cr : Nat → Nat → Nat} {P1 P2 : Nat → Prop} {ag : Nat → Nat} (hR : Rc q0 r S T N I C cap cr P1 P2) (hA : A ≤ 200) (h13 : qF q0 13 = nI A) (hag : ∀ j, j < A → qI q0 48 j = nI (ag j) ∧ ag j < N ∧ P2 (ag j) ∧ isA r (ag j)) (hmo : ∀ j j', j < j' → j' < A → ag j < ag j') :
    ∀ (l : List Nat) (fu : Nat) (q : QS) (c : Int32) (i : Nat) (acc : Nat → Vl), OnVR q0 q → KC r N q0 q → Chain (qI q0 51) c l → (∀ x, x ∈ l → x < C) → i + l.length ≤ cap → l.length < fu → (∀ j, j < A → VC q 2 (ag j) (acc (ag j)) ∧ AgOk (nK r (ag j)) (nT r (ag j)) (acc (ag j))) → ∃ q', f_X6_workOutAggregates_33 fu q c (nI i) = some q' ∧ OnVR q q' ∧ KC r N q q' ∧ ∀ j, j < A → VC q' 2 (ag j) (l.foldl (fun a c => agf (nK r (ag j)) a (evi r (cr c) (nA r (ag j)))) (acc (ag j))) := by
  obtain ⟨hS, hT0, hN0, hPl0, hCC0, hrv, hCc, hc2, h12, hqC⟩ := id hR
  have h200 := hN0.1
  have hrch1 := hPl0.2.2.2.1
  intro l
  induction l with
  | nil =>
    intro fu q c i acc ho hk hch hl hcap hf hd
    cases fu with
    | zero => simp at hf
    | succ fu =>
      rw [f_X6_workOutAggregates_33, f_X6_workOutAggregates_33_b, show c = -1 from hch]
      refine ⟨q, ?_, OnVR.rfl, KC.rfl, fun j hj => (hd j hj).1⟩
      split
      · rfl
      · rw [if_pos rfl]
  | cons x l ih =>
    intro fu q c i acc ho hk hch hl hcap hf hd
    cases fu with
    | zero => simp at hf
    | succ fu =>
      obtain ⟨h1, h2⟩ := hch
      have hxC := hl x (List.mem_cons_self ..)
      simp only [List.length_cons] at hcap hf
      obtain ⟨cc1, cc2⟩ := hCC0 x hxC
      rw [f_X6_workOutAggregates_33, f_X6_workOutAggregates_33_b, ho.2.2.1, h12, if_neg (nI_ge (by omega) (by omega)), h1, if_neg (nI_neg (by omega)), ho.2.2.2, hqC, rd_nI (show x < cap by omega) (by omega), Option.bind_some, ho.1 50 (by decide) (by decide), cc1]
      obtain ⟨q1, a1, a2, a3, a4, a5, a6⟩ := c_goTo (q := q) (ρ := cr x) cc2
      rw [a1, Option.bind_some]
      have o1 := goTo_vr a2 a3 a4 a5
      have k1 : KC r N q q1 := KC.of (a2 7 (by decide)) (by rw [a3])
      have hR1 := hR.vr (ho.trans o1) (hk.trans k1)
      obtain ⟨-, hT1, hN1, hPl1, -⟩ := id hR1
      have hcol : ∀ k, k < N → nK r k = 4 → nA r k < T := fun k hk h4 => ((hN1.2.2.2 k hk).2.2.2.2.2.2.2.2.2.2.2.1 h4).2.1
      obtain ⟨q2, b1, b2, b3, b4⟩ := c_work (u := 1) (ρ := cr x) (α := fun _ => vNull) hS hT1 hN1 hPl1.2.2.1 hrch1.clo (fun k hk _ h4 => a6 _ (by have := hcol k hk h4; have := hT1.1; omega)) (fun k hk _ h4 => hrv x hxC _ (hcol k hk h4)) (fun k hk hp h5 h9 => absurd ⟨h5, h9⟩ (parts_na hN1 hrch1 k hk hp))
      rw [b1, Option.bind_some]
      have k2 : KC r N q1 q2 := fun k y hk4 hkN hy => b4 k y (Or.inr (Or.inl hk4)) hkN hy
      have hR2 := hR1.vr b2.vr k2
      have hN2 := hR2.2.2.1
      have o2 := (ho.trans o1).trans b2.vr
      have hpart : ∀ j, j < A → nK r (ag j) ≠ 5 → nA r (ag j) < N ∧ P1 (nA r (ag j)) := fun j hj h5 => by
        obtain ⟨g1, g2, g3, g4⟩ := hag j hj
        have h6 : 6 ≤ nK r (ag j) := by have := g4.1; omega
        have hlt := ((hN1.2.2.2 _ g2).2.2.2.2.2.2.2.2.2.2.2.2.2 h6).1
        exact ⟨by omega, hrch1.1 _ ⟨ag j, g2, g3, h6, g4.2, rfl⟩⟩
      obtain ⟨q3, d1, d2, d3, d4⟩ := agd_loop (K := f_X6_workOutAggregates_108 (f_X6_workOutAggregates_33 fu)) (x2 := nI x) (x3 := nI i) (ρ := cr x) (acc := acc) hN2 hA (by rw [o2.2.2.1]; exact h13) (fun j hj => ⟨by rw [o2.1 48 (by decide) (by decide)]; exact (hag j hj).1, (hag j hj).2.1, (hag j hj).2.2.2⟩) hmo (fun j hj => (hd j hj).2) (fun j hj h5 => ⟨evi_ty hS hT1 hN1 hrch1.clo (fun k hk hp => parts_na hN1 hrch1 k hk hp) (hrv x hxC) _ (hpart j hj h5).1 (hpart j hj h5).2, parts_na hN1 hrch1 _ (hpart j hj h5).1 (hpart j hj h5).2⟩) FU q2 0 OnV.rfl (Nat.zero_le _) (by show A - 0 < 100000; omega) (fun j hj => by
        obtain ⟨g1, g2, g3, g4⟩ := hag j hj
        rw [if_neg (by omega)]
        refine b4 _ _ (Or.inr (Or.inr g4)) g2 ?_
        exact VC_congr (v := 2) (a2 7 (by decide)) (by rw [a3]) (hd j hj).1) (fun j hj h5 => b3 _ (hpart j hj h5).1 (hpart j hj h5).2)
      have d1' : f_X6_workOutAggregates_79 (f_X6_workOutAggregates_108 (f_X6_workOutAggregates_33 fu)) FU q2 (nI x) (nI i) 0 = f_X6_workOutAggregates_108 (f_X6_workOutAggregates_33 fu) q3 (nI x) (nI i) := d1
      rw [d1']
      unfold f_X6_workOutAggregates_108
      have o3 := o2.trans d2.vr
      have k3 : KC r N q2 q3 := fun k y hk4 hkN hy => d4 k y hkN (fun z => by have := z.1; omega) hy
      rw [o3.2.2.2, hqC, rd_nI (show x < cap by omega) (by omega), Option.bind_some, o3.1 51 (by decide) (by decide), nI_1]
      have hag3 : ∀ j, j < A → AgOk (nK r (ag j)) (nT r (ag j)) (agf (nK r (ag j)) (acc (ag j)) (evi r (cr x) (nA r (ag j)))) := fun j hj => by
        obtain ⟨g1, g2, g3, g4⟩ := hag j hj
        obtain ⟨t1, t2, t3⟩ := agg_ty (hN1.2.2.2 _ g2) g4
        exact agf_ok g4.1 t1 t2 t3 (hd j hj).2 (fun h5 => evi_ty hS hT1 hN1 hrch1.clo (fun k hk hp => parts_na hN1 hrch1 k hk hp) (hrv x hxC) _ (hpart j hj h5).1 (hpart j hj h5).2)
      obtain ⟨q', e1, e2, e3, e4⟩ := ih fu q3 (qI q0 51 x) (i + 1) (fun k => agf (nK r k) (acc k) (evi r (cr x) (nA r k))) o3 (((hk.trans k1).trans k2).trans k3) h2 (fun y hy => hl y (List.mem_cons_of_mem _ hy)) (by omega) (by omega) (fun j hj => ⟨d3 j hj, hag3 j hj⟩)
      exact ⟨q', e1, ((o1.trans b2.vr).trans d2.vr).trans e2, ((k1.trans k2).trans k3).trans e3, e4⟩
/-- the values of a row stand in the room -/
def RowV (q r : QS) (cr : Nat → Nat → Nat) (I row : Nat) (l : List Nat) : Prop := ∀ j, j < I → VC q 4 (row * 8 + j) (val r cr l (itn r j))
/-- what working a row out may change in the class -/
def OnW (q q' : QS) : Prop := (∀ k, k ≠ 7 → k ≠ 13 → k ≠ 46 → qI q' k = qI q k) ∧ (∀ k, k ≠ 8 → k ≠ 14 → qL q' k = qL q k) ∧ qF q' = qF q ∧ qC q' = qC q
theorem OnW.rfl {q : QS} : OnW q q := ⟨fun _ _ _ _ => Eq.refl _, fun _ _ _ => Eq.refl _, Eq.refl _, Eq.refl _⟩
theorem OnW.trans {q q1 q2 : QS} (h : OnW q q1) (g : OnW q1 q2) : OnW q q2 := ⟨fun k a b c => (g.1 k a b c).trans (h.1 k a b c), fun k a b => (g.2.1 k a b).trans (h.2.1 k a b), g.2.2.1.trans h.2.2.1, g.2.2.2.trans h.2.2.2⟩
theorem OnVR.w {q q' : QS} (h : OnVR q q') : OnW q q' := ⟨fun k a _ b => h.1 k a b, fun k a _ => h.2.1 k a, h.2.2.1, h.2.2.2⟩
theorem Oc.w {i : Nat} {q q' : QS} (h : Oc 4 i q q') : OnW q q' := ⟨fun k _ a _ => h.1 k a, fun k _ a => h.2.2.1 k a, h.2.2.2.2.1, h.2.2.2.2.2⟩
theorem OnW.run {q q' : QS} (h : OnW q q') : RunC q q' := ⟨fun k a b _ c _ _ => h.1 k a b c, fun k a b => h.2.1 k a b, fun k _ _ _ => by rw [h.2.2.1]⟩
theorem Rc.w {q q' r : QS} {S T N I C cap : Nat} {cr : Nat → Nat → Nat} {P1 P2 : Nat → Prop} (h : OnW q q') (hk : KC r N q q') (hr : Rc q r S T N I C cap cr P1 P2) : Rc q' r S T N I C cap cr P1 P2 := by
  obtain ⟨a1, a2, a3, a4, a5, a6, a7, a8, a9, a10⟩ := hr
  exact ⟨a1, h.run.T a1 a2, h.run.N a1 hk a3, a4.keep (fun k hk => h.1 k (by omega) (by omega) (by omega)) (fun k _ => by rw [h.2.2.1]), fun c hc => by rw [h.1 50 (by decide) (by decide) (by decide)]; exact a5 c hc, a6, a7, a8, by rw [h.2.2.1]; exact a9, by rw [h.2.2.2]; exact a10⟩
theorem cop_loop {I cap row : Nat} {it : Nat → Nat} {x : Nat → Vl} (hrow : row < cap) (hcap : cap ≤ 2000) (hI : I ≤ 8) (fu : Nat) : ∀ (q : QS) (j : Nat), qC q = cap → qF q 6 = nI I → (∀ j, j < I → qI q 39 j = nI (it j) ∧ it j < 200 ∧ VC q 2 (it j) (x j) ∧ vOk (x j)) → j ≤ I → I - j < fu → (∀ j', j' < j → VC q 4 (row * 8 + j') (x j')) → ∃ q', f_X6_workOutRow_56 fu q (nI row) (nI j) = some q' ∧ OnW q q' ∧ qI q' 7 = qI q 7 ∧ qL q' 8 = qL q 8 ∧ (∀ j', j' < I → VC q' 4 (row * 8 + j') (x j')) ∧ ∀ p z, p / 8 ≠ row → VC q 4 p z → VC q' 4 p z := by
  induction fu with
  | zero => intro q j _ _ _ _ h; omega
  | succ fu ih =>
    intro q j hC h6 hit hj hf hd
    rw [f_X6_workOutRow_56, f_X6_workOutRow_56_b, h6]
    by_cases he : j = I
    · subst he
      rw [if_pos (nI_le (Nat.le_refl _) (by omega))]
      exact ⟨q, rfl, OnW.rfl, rfl, rfl, hd, fun _ _ _ h => h⟩
    · obtain ⟨i1', i2', i3', i4'⟩ := hit j (by omega)
      unfold f_X5_placeOf f_X5_placeOf_0
      rw [if_neg (nI_ge (by omega) (by omega)), nI_lit8, nI_add, Option.bind_some, rd_nI (by omega) (by decide), Option.bind_some, i1', nI_1]
      have v4 : vN q 4 = cap * 8 := by rw [← hC]; rfl
      obtain ⟨q1, a1, a2, a3⟩ := v_copy (q := q) (v := 4) (u := 2) (i := row * 8 + j) (j := it j) i3' (vOk_k i4') (by rw [v4]; omega) (by rw [v4]; omega) (show it j < 200 from i2') (by show 200 < 20000; decide)
      rw [a1, Option.bind_some]
      obtain ⟨q', b1, b2, b3, b4, b5, b6⟩ := ih q1 (j + 1) (by rw [a3.2.2.2.2.2]; exact hC) (by rw [a3.2.2.2.2.1]; exact h6) (fun j' hj' => by
          obtain ⟨c1, c2, c3, c4⟩ := hit j' hj'
          exact ⟨by rw [a3.1 39 (by decide)]; exact c1, c2, c3.other a3 (Or.inl (by decide)), c4⟩) (by omega) (by omega) (fun j' hj' => by
          by_cases e : j' = j
          · subst e; exact a2
          · exact (hd j' (by omega)).other a3 (Or.inr (by omega)))
      exact ⟨q', b1, a3.w.trans b2, by rw [b3, a3.1 7 (by decide)], by rw [b4, a3.2.2.1 8 (by decide)], b5, fun p z hp hz => b6 p z hp (hz.other a3 (Or.inr (by omega)))⟩
theorem c_row {S T N I G O C cap row : Nat} {q r : QS} {cr : Nat → Nat → Nat} {P1 P2 : Nat → Prop} {l : List Nat} (hR : Rc q r S T N I C cap cr P1 P2) (hQ : SimQ q r N I G O) (hrow : row < cap) (hch : Chain (qI q 51) (qI q 52 row) l) (hl : ∀ x, x ∈ l → x < C) (hlen : l.length ≤ cap) (hemp : l = [] → ∀ k, k < N → P2 k → nK r k ≠ 4) : ∃ q', f_X6_workOutRow q (nI row) = some q' ∧ OnW q q' ∧ KC r N q q' ∧ RowV q' r cr I row l ∧ (∀ p z, p / 8 ≠ row → VC q 4 p z → VC q' 4 p z) ∧ ∀ j, j < I → Ty (nT r (itn r j)) (val r cr l (itn r j)) := by
  obtain ⟨hS, hT, hN, hPl, hCC, hrv, hCc, hc2, h12, hqC⟩ := id hR
  obtain ⟨p1, p2, p3, p4, A, ag, g1, g2, g3, g4, g5⟩ := id hPl
  have h200 := hN.1
  have hI8 := hQ.1
  unfold f_X6_workOutRow f_X6_workOutRow_0
  rw [hqC, rd_nI hrow (by omega), Option.bind_some, g2]
  have hhead : qI q 52 row = -1 ∧ l = [] ∨ ∃ c l', l = c :: l' ∧ qI q 52 row = nI c := by
    cases l with
    | nil => exact Or.inl ⟨hch, rfl⟩
    | cons c l' => exact Or.inr ⟨c, l', rfl, hch.1⟩
  have hcol : ∀ k, k < N → nK r k = 4 → nA r k < T := fun k hk h4 => ((hN.2.2.2 k hk).2.2.2.2.2.2.2.2.2.2.2.1 h4).2.1
  have hagp : ∀ j, j < A → nK r (ag j) ≠ 5 → nA r (ag j) < N ∧ P1 (nA r (ag j)) := fun j hj h5 => by
    obtain ⟨-, z2, z3, z4, z5⟩ := g3 j hj
    have h6 : 6 ≤ nK r (ag j) := by omega
    have hlt := ((hN.2.2.2 _ z2).2.2.2.2.2.2.2.2.2.2.2.2.2 h6).1
    exact ⟨by omega, p4.1 _ ⟨ag j, z2, z3, h6, z5, rfl⟩⟩
  have hagv : ∀ k, k < N → P2 k → isA r k → AgOk (nK r k) (nT r k) (agv r cr l k) := fun k hk hp ha => agv_ok (hN.2.2.2 k hk) ha (fun c hc h5 => by
    obtain ⟨j, j1, j2⟩ := g5 k hk hp ha.1 ha.2
    have := hagp j j1 (by rw [j2]; exact h5)
    rw [j2] at this
    exact evi_ty hS hT hN p4.clo (fun k hk hp => parts_na hN p4 k hk hp) (hrv c (hl c hc)) _ this.1 this.2)
  have hrow2 : ∀ k, k < N → P2 k → rowAt r (hdr cr l) k := fun k hk hp h4 => by
    cases l with
    | nil => exact absurd h4 (hemp rfl k hk hp)
    | cons c l => exact hrv c (hl c (List.mem_cons_self ..)) _ (hcol k hk h4)
  -- behind the aggregates
  have h22 : ∀ q1, OnVR q q1 → KC r N q q1 → (∀ k, k < N → P2 k → isA r k → VC q1 2 k (agv r cr l k)) → ∃ q', f_X6_workOutRow_22 q1 (nI row) (qI q 52 row) = some q' ∧ OnW q q' ∧ KC r N q q' ∧ RowV q' r cr I row l ∧ (∀ p z, p / 8 ≠ row → VC q 4 p z → VC q' 4 p z) := by
    intro q1 o1 k1 hv
    have h43 : ∀ q2, OnVR q1 q2 → qI q2 7 = qI q1 7 → qL q2 8 = qL q1 8 → (∀ k, k < N → P2 k → nK r k = 4 → qI q2 46 (nA r k) = nI (hdr cr l (nA r k))) → ∃ q', f_X6_workOutRow_43 q2 (nI row) = some q' ∧ OnW q q' ∧ KC r N q q' ∧ RowV q' r cr I row l ∧ (∀ p z, p / 8 ≠ row → VC q 4 p z → VC q' 4 p z) := by
      intro q2 o2 e7 e8 hrw
      have k2 : KC r N q1 q2 := KC.of e7 e8
      have hR2 := hR.vr (o1.trans o2) (k1.trans k2)
      obtain ⟨-, hT2, hN2, hPl2, -⟩ := id hR2
      unfold f_X6_workOutRow_43
      obtain ⟨q3, b1, b2, b3, b4⟩ := c_work (u := 2) (ρ := hdr cr l) (α := agv r cr l) hS hT2 hN2 hPl2.1 p2.clo hrw hrow2 (fun k hk hp h5 h9 => ⟨(hagv k hk hp ⟨h5, h9⟩).2, VC_congr (v := 2) e7 e8 (hv k hk hp ⟨h5, h9⟩)⟩)
      rw [b1, Option.bind_some]
      have o3 := (o1.trans o2).trans b2.vr
      have k3 : KC r N q2 q3 := fun k y hk4 hkN hy => b4 k y (Or.inr (Or.inl hk4)) hkN hy
      have hQ3 := o3.run.Q hQ
      obtain ⟨q4, d1, d2, d3, d4, d5, d6⟩ := cop_loop (it := itn r) (x := fun j => val r cr l (itn r j)) hrow hc2 hI8 FU q3 0 (by rw [o3.2.2.2]; exact hqC) hQ3.2.1 (fun j hj => by
          obtain ⟨y1, y2, y3⟩ := hQ3.2.2.2.1 j hj
          have hP : P2 (itn r j) := p2.1 _ ⟨j, hj, rfl⟩
          refine ⟨by rw [y3]; exact y2, show itn r j < 200 from (by have : itn r j < N := y1; omega), b3 _ y1 hP, ?_⟩
          exact (ev_ty hS hT hN p2.clo hrow2 (fun k hk hp h5 h9 => (hagv k hk hp ⟨h5, h9⟩).2) 200 _ (by have : itn r j < N := y1; omega) y1 hP).1) (Nat.zero_le _) (by show I - 0 < 100000; omega) (fun j' h => by omega)
      refine ⟨q4, d1, o3.w.trans d2, ((k1.trans k2).trans k3).trans (KC.of d3 d4), d5, fun p z hp hz => d6 p z hp ?_⟩
      exact VC_congr (v := 4) (o3.1 13 (by decide) (by decide)) (o3.2.1 14 (by decide)) hz
    unfold f_X6_workOutRow_22
    rcases hhead with ⟨z1, z2⟩ | ⟨c, l', z1, z2⟩
    · rw [z1, if_pos rfl]
      exact h43 q1 OnVR.rfl rfl rfl (fun k hk hp h4 => absurd h4 (hemp z2 k hk hp))
    · subst z1
      have hcC := hl c (List.mem_cons_self ..)
      obtain ⟨cc1, cc2⟩ := hCC c hcC
      rw [z2, if_neg (nI_neg (by omega)), o1.2.2.2, hqC, rd_nI (show c < cap by omega) (by omega), Option.bind_some, o1.1 50 (by decide) (by decide), cc1]
      obtain ⟨q2, a1, a2, a3, a4, a5, a6⟩ := c_goTo (q := q1) (ρ := cr c) cc2
      rw [a1, Option.bind_some]
      exact h43 q2 (goTo_vr a2 a3 a4 a5) (a2 7 (by decide)) (by rw [a3]) (fun k hk hp h4 => a6 _ (by have := hcol k hk h4; have := hT.1; omega))
  have hTy : ∀ j, j < I → Ty (nT r (itn r j)) (val r cr l (itn r j)) := fun j hj => by
    obtain ⟨y1, -⟩ := hQ.2.2.2.1 j hj
    exact ev_ty hS hT hN p2.clo hrow2 (fun k hk hp h5 h9 => (hagv k hk hp ⟨h5, h9⟩).2) 200 _ (by have : itn r j < N := y1; omega) y1 (p2.1 _ ⟨j, hj, rfl⟩)
  by_cases hA0 : A = 0
  · subst hA0
    rw [if_pos (by decide)]
    obtain ⟨q', c1, c2, c3, c4, c5⟩ := h22 q OnVR.rfl KC.rfl (fun k hk hp ha => by
      obtain ⟨j, j1, -⟩ := g5 k hk hp ha.1 ha.2
      omega)
    exact ⟨q', c1, c2, c3, c4, c5, hTy⟩
  · rw [if_neg (show ¬ nI A ≤ (0 : Int32) from nI_ge (a := 0) (by omega) (by omega))]
    unfold f_X6_workOutAggregates f_X6_workOutAggregates_0
    have hag' : ∀ j, j < A → qI q 48 j = nI (ag j) ∧ ag j < N ∧ isA r (ag j) := fun j hj => ⟨(g3 j hj).1, (g3 j hj).2.1, (g3 j hj).2.2.2⟩
    obtain ⟨q1, a1, a2, a3, a4⟩ := ags_loop (K := f_X6_workOutAggregates_29) (x1 := qI q 52 row) hN g1 g2 hag' g4 FU q 0 OnV.rfl (Nat.zero_le _) (by show A - 0 < 100000; omega) (fun j' h => by omega)
    have a1' : f_X6_workOutAggregates_2 f_X6_workOutAggregates_29 FU q (qI q 52 row) 0 = f_X6_workOutAggregates_29 q1 (qI q 52 row) := a1
    rw [a1']
    unfold f_X6_workOutAggregates_29
    have k1 : KC r N q q1 := fun k y hk4 hkN hy => a4 k y hkN (fun z => by have := z.1; omega) hy
    obtain ⟨q2, b1, b2, b3, b4⟩ := agc_loop hR g1 g2 (fun j hj => ⟨(g3 j hj).1, (g3 j hj).2.1, (g3 j hj).2.2.1, (g3 j hj).2.2.2⟩) g4 l FU q1 (qI q 52 row) 0 (fun k => ag0 (nK r k)) a2.vr k1 hch hl (by omega) (by show l.length < 100000; omega) (fun j hj => ⟨a3 j hj, ag0_ok (fun h6 => (agg_ty (hN.2.2.2 _ (g3 j hj).2.1) (g3 j hj).2.2.2).1 (by omega))⟩)
    have b1' : f_X6_workOutAggregates_33 FU q1 (qI q 52 row) 0 = some q2 := b1
    rw [b1', Option.bind_some]
    obtain ⟨q', c1, c2, c3, c4, c5⟩ := h22 q2 (a2.vr.trans b2) (k1.trans b3) (fun k hk hp ha => by
      obtain ⟨j, j1, j2⟩ := g5 k hk hp ha.1 ha.2
      have := b4 j j1
      rw [j2] at this
      exact this)
    exact ⟨q', c1, c2, c3, c4, c5, hTy⟩
