/-! what a run may change in the class, but for the answer -/
def RunC (q q' : QS) : Prop := (∀ k, k ≠ 7 → k ≠ 13 → (k < 16 ∨ 24 < k) → k ≠ 46 → k ≠ 48 → (k < 50 ∨ 57 < k) → qI q' k = qI q k) ∧ (∀ k, k ≠ 8 → k ≠ 14 → qL q' k = qL q k) ∧ ∀ k, (k < 3 ∨ 5 < k) → k ≠ 12 → k ≠ 13 → qF q' k = qF q k
theorem RunC.rfl {q : QS} : RunC q q := ⟨fun _ _ _ _ _ _ _ => Eq.refl _, fun _ _ _ => Eq.refl _, fun _ _ _ _ => Eq.refl _⟩
theorem RunC.trans {q q1 q2 : QS} (h : RunC q q1) (g : RunC q1 q2) : RunC q q2 := ⟨fun k a b c d e f => (g.1 k a b c d e f).trans (h.1 k a b c d e f), fun k a b => (g.2.1 k a b).trans (h.2.1 k a b), fun k a b c => (g.2.2 k a b c).trans (h.2.2 k a b c)⟩
theorem OnV.run {q q' : QS} (h : OnV q q') : RunC q q' := ⟨fun k a _ _ _ _ _ => h.1 k a, fun k a _ => h.2.1 k a, fun k _ _ _ => by rw [h.2.2.1]⟩
theorem OnPl.run {u : Nat} {q q' : QS} (hu : u < 3) (h : OnPl u q q') : RunC q q' := ⟨fun k _ _ c _ _ _ => h.1 k (by omega) (by omega), fun k _ _ => by rw [h.2.1], fun k a _ _ => h.2.2.1 k (by omega)⟩
theorem RunC.T {q q' r : QS} {S T : Nat} (hS : SOk r S) (h : RunC q q') (hT : SimT q r S T) : SimT q' r S T := hT.congr hS (fun s _ => ⟨Eq.refl _, Eq.refl _, Eq.refl _, Eq.refl _, Eq.refl _⟩) (Eq.refl _) (h.2.2 14 (by decide) (by decide) (by decide)) (Eq.refl _) (Eq.refl _) (Eq.refl _) (Eq.refl _) (h.1 26 (by decide) (by decide) (by decide) (by decide) (by decide) (by decide)) (h.1 27 (by decide) (by decide) (by decide) (by decide) (by decide) (by decide)) (h.1 28 (by decide) (by decide) (by decide) (by decide) (by decide) (by decide)) (h.1 4 (by decide) (by decide) (by decide) (by decide) (by decide) (by decide)) (h.2.1 5 (by decide) (by decide))
/-- constants stay -/
def KC (r : QS) (N : Nat) (q q' : QS) : Prop := ∀ k x, nK r k < 4 → k < N → VC q 2 k x → VC q' 2 k x
theorem KC.rfl {r : QS} {N : Nat} {q : QS} : KC r N q q := fun _ _ _ _ h => h
theorem KC.trans {r : QS} {N : Nat} {q q1 q2 : QS} (h : KC r N q q1) (g : KC r N q1 q2) : KC r N q q2 := fun k x a b c => g k x a b (h k x a b c)
theorem KC.of {r : QS} {N : Nat} {q q' : QS} (h7 : qI q' 7 = qI q 7) (h8 : qL q' 8 = qL q 8) : KC r N q q' := fun k x _ _ c => VC_congr (v := 2) h7 h8 c
theorem RunC.N {q q' r : QS} {S T N : Nat} (hS : SOk r S) (h : RunC q q') (hk : KC r N q q') (hN : SimN q r S T N) : SimN q' r S T N := ⟨hN.1, by rw [h.2.2 2 (by decide) (by decide) (by decide)]; exact hN.2.1, hN.2.2.1, fun i hi => (hN.2.2.2 i hi).val (fun k h1 h2 => by rw [h.1 k (by omega) (by omega) (by omega) (by omega) (by omega) (by omega)]) (fun hh => hk i _ hh hi ((hN.2.2.2 i hi).cons hS hh).2.2.1) hS⟩
theorem SameN.rfl {r : QS} : SameN r r := ⟨Eq.refl _, Eq.refl _, Eq.refl _, Eq.refl _, Eq.refl _, Eq.refl _, Eq.refl _, Eq.refl _⟩
theorem RunC.Q {q q' r : QS} {N I G O : Nat} (h : RunC q q') (hQ : SimQ q r N I G O) : SimQ q' r N I G O := hQ.congr SameN.rfl (fun _ _ _ => Eq.refl _) (fun k h1 h2 => h.2.2 k (by omega) (by omega) (by omega)) (fun _ _ _ => Eq.refl _) (fun k h1 h2 => h.1 k (by omega) (by omega) (by omega) (by omega) (by omega) (by omega))
theorem PlanOk.keep {q q' : QS} {u N : Nat} {P : Nat → Prop} (h1 : qI q' (17 + 3 * u) = qI q (17 + 3 * u)) (h2 : qF q' (3 + u) = qF q (3 + u)) (h : PlanOk q u P N) : PlanOk q' u P N := by
  unfold PlanOk at h ⊢
  rw [h1, h2]; exact h
theorem Rch.iff {r : QS} {J J' P : Nat → Prop} {N : Nat} (h : Rch r J P N) (hJ : ∀ k, J k ↔ J' k) : Rch r J' P N := ⟨fun k hk => h.1 k ((hJ k).mpr hk), h.2.1, fun k hk => (h.2.2 k hk).imp (hJ k).mp id⟩
/-- item j's node -/
def itn (r : QS) (j : Nat) : Nat := nt (qI r 26 j)
theorem it_loop {S T N I G O : Nat} {q0 r : QS} {K : QS → Option QS} (hN : SimN q0 r S T N) (hQ : SimQ q0 r N I G O) (fu : Nat) : ∀ (q : QS) (j : Nat), OnPl 2 q0 q → j ≤ I → I - j < fu → N01 q 2 → ∃ q', f_X6_planItems_9 K fu q (nI j) = K q' ∧ OnPl 2 q q' ∧ N01 q' 2 ∧ ∀ k, Nd q' 2 k ↔ (Nd q 2 k ∨ ∃ j', j ≤ j' ∧ j' < I ∧ k = itn r j') := by
  have h200 := hN.1
  have h8 := hQ.1
  induction fu with
  | zero => intro q j _ _ h; omega
  | succ fu ih =>
    intro q j ho hj hf h01
    rw [f_X6_planItems_9, f_X6_planItems_9_b, ho.2.2.1 6 (by decide), hQ.2.1]
    by_cases he : j = I
    · subst he
      rw [if_pos (nI_le (Nat.le_refl _) (by omega))]
      exact ⟨q, rfl, OnPl.rfl, h01, fun k => ⟨fun h => Or.inl h, fun h => h.elim id (fun ⟨j', a, b, _⟩ => by omega)⟩⟩
    · obtain ⟨i1', i2', i3'⟩ := hQ.2.2.2.1 j (by omega)
      rw [if_neg (nI_ge (by omega) (by omega)), rd_nI (by omega) (by decide), Option.bind_some, ho.1 39 (by decide) (by decide), i3', i2', need_yes (show nt (qI r 26 j) < 200 by omega), Option.bind_some, nI_1]
      obtain ⟨q', a1, a2, a3, a4⟩ := ih (uI q (16 + 3 * 2) (nt (qI r 26 j)) 1) (j + 1) (ho.trans OnPl.n) (by omega) (by omega) (N01_u h01)
      refine ⟨q', a1, OnPl.n.trans a2, a3, fun k => ?_⟩
      rw [a4 k, Nd_u (show nt (qI r 26 j) < 200 by omega)]
      constructor
      · intro z
        rcases z with (z | z) | ⟨j', b1, b2, b3⟩
        · exact Or.inr ⟨j, Nat.le_refl _, by omega, z⟩
        · exact Or.inl z
        · exact Or.inr ⟨j', by omega, b2, b3⟩
      · intro z
        rcases z with z | ⟨j', b1, b2, b3⟩
        · exact Or.inl (Or.inr z)
        · by_cases e : j' = j
          · subst e; exact Or.inl (Or.inl b3)
          · exact Or.inr ⟨j', by omega, b2, b3⟩
/-- the aggregates that are listed -/
def AgsOk (q r : QS) (P : Nat → Prop) (N : Nat) : Prop := ∃ (A : Nat) (ag : Nat → Nat), A ≤ 200 ∧ qF q 13 = nI A ∧ (∀ j, j < A → qI q 48 j = nI (ag j) ∧ ag j < N ∧ P (ag j) ∧ 5 ≤ nK r (ag j) ∧ nK r (ag j) ≤ 9) ∧ (∀ j j', j < j' → j' < A → ag j < ag j') ∧ ∀ k, k < N → P k → 5 ≤ nK r k → nK r k ≤ 9 → ∃ j, j < A ∧ ag j = k
/-- the parts of aggregates -/
def JP (r : QS) (P : Nat → Prop) (N k : Nat) : Prop := ∃ p, p < N ∧ P p ∧ 6 ≤ nK r p ∧ nK r p ≤ 9 ∧ k = nA r p
theorem ag_loop {S T N m : Nat} {q0 r : QS} {P : Nat → Prop} {st : Nat → Nat} (hS : SOk r S) (hN : SimN q0 r S T N) (hm : m ≤ 200) (h5 : qF q0 5 = nI m) (hst : ∀ j, j < m → qI q0 23 j = nI (st j) ∧ st j < N ∧ P (st j)) (hmo : ∀ j j', j < j' → j' < m → st j < st j') (hco : ∀ k, k < N → P k → ∃ j, j < m ∧ st j = k) (fu : Nat) :
    ∀ (q : QS) (i c : Nat) (ag : Nat → Nat), (∀ k, k ≠ 48 → k ≠ 19 → qI q k = qI q0 k) → qL q = qL q0 → (∀ k, k ≠ 13 → qF q k = qF q0 k) → qC q = qC q0 → i ≤ m → m - i < fu → c ≤ i → qF q 13 = nI c → (∀ j, j < c → qI q 48 j = nI (ag j) ∧ (∃ i', i' < i ∧ ag j = st i') ∧ 5 ≤ nK r (ag j) ∧ nK r (ag j) ≤ 9) → (∀ j j', j < j' → j' < c → ag j < ag j') → (∀ i', i' < i → 5 ≤ nK r (st i') → nK r (st i') ≤ 9 → ∃ j, j < c ∧ ag j = st i') → N01 q 1 → (∀ k, Nd q 1 k ↔ ∃ j, j < c ∧ 6 ≤ nK r (ag j) ∧ k = nA r (ag j)) →
    ∃ q' P1, f_X6_planItems_67 fu q (nI i) = some q' ∧ (∀ k, k ≠ 48 → k ≠ 19 → k ≠ 20 → qI q' k = qI q0 k) ∧ qL q' = qL q0 ∧ (∀ k, k ≠ 13 → k ≠ 4 → qF q' k = qF q0 k) ∧ qC q' = qC q0 ∧ AgsOk q' r P N ∧ PlanOk q' 1 P1 N ∧ Rch r (JP r P N) P1 N := by
  have h200 := hN.1
  induction fu with
  | zero => intro q i c ag _ _ _ _ _ h; omega
  | succ fu ih =>
    intro q i c ag o1 o2 o3 o4 hi hf hc h13 hag hagm hagc h01 hnd
    rw [f_X6_planItems_67, f_X6_planItems_67_b, o3 5 (by decide), h5]
    by_cases he : i = m
    · subst he
      rw [if_pos (nI_le (Nat.le_refl _) (by omega))]
      have hN' : SimN q r S T N := hN.congr hS (fun s _ => ⟨rfl, rfl, rfl, rfl, rfl⟩) SameN.rfl rfl (o3 2 (by decide)) (fun k h1 h2 => o1 k (by omega) (by omega)) (o1 7 (by decide) (by decide)) (by rw [o2])
      obtain ⟨q', P1, a1, a2, a3, a4⟩ := c_complete (u := 1) (by decide) hN' h01
      rw [a1, Option.bind_some]
      refine ⟨q', P1, rfl, fun k k1 k2 k3 => by rw [a2.1 k k2 k3, o1 k k1 k2], by rw [a2.2.1, o2], fun k k1 k2 => by rw [a2.2.2.1 k k2, o3 k k1], by rw [a2.2.2.2, o4], ?_, a3, a4.iff (fun k => ?_)⟩
      · refine ⟨c, ag, by omega, by rw [a2.2.2.1 13 (by decide)]; exact h13, fun j hj => ?_, hagm, fun k k1 k2 k3 k4 => ?_⟩
        · obtain ⟨b1, ⟨i', b2, b3⟩, b4, b5⟩ := hag j hj
          obtain ⟨-, c2, c3⟩ := hst i' b2
          refine ⟨by rw [a2.1 48 (by decide) (by decide)]; exact b1, by rw [b3]; exact c2, by rw [b3]; exact c3, b4, b5⟩
        · obtain ⟨i', b1, b2⟩ := hco k k1 k2
          obtain ⟨j, c1, c2⟩ := hagc i' b1 (by rw [b2]; exact k3) (by rw [b2]; exact k4)
          exact ⟨j, c1, by rw [c2, b2]⟩
      · rw [hnd k]
        constructor
        · intro ⟨j, b1, b2, b3⟩
          obtain ⟨-, ⟨i', c1, c2⟩, c3, c4⟩ := hag j b1
          obtain ⟨-, d2, d3⟩ := hst i' c1
          exact ⟨ag j, by rw [c2]; exact d2, by rw [c2]; exact d3, b2, c4, b3⟩
        · intro ⟨p, b1, b2, b3, b4, b5⟩
          obtain ⟨i', c1, c2⟩ := hco p b1 b2
          obtain ⟨j, d1, d2⟩ := hagc i' c1 (by rw [c2]; omega) (by rw [c2]; exact b4)
          exact ⟨j, d1, by rw [d2, c2]; exact b3, by rw [d2, c2]; exact b5⟩
    · obtain ⟨s1, s2, s3⟩ := hst i (by omega)
      have hnod := hN.2.2.2 _ s2
      unfold f_X6_planItems_135
      rw [if_neg (nI_ge (by omega) (by omega)), rd_nI (by omega) (by decide), Option.bind_some, o1 23 (by decide) (by decide), s1, isAgg (by omega) hnod.1 (by rw [o1 30 (by decide) (by decide)]; exact hnod.2.2.1), Option.bind_some, nI_1]
      by_cases ha : 5 ≤ nK r (st i) ∧ nK r (st i) ≤ 9
      · rw [if_pos ha, if_neg i1, h13, wI_nI (show c < 200 by omega) (by decide), Option.bind_some, show qF (uI q 48 c (nI (st i))) 13 = nI c from h13, nI_1, rd_nI (show st i < 200 by omega) (by decide), Option.bind_some, show qI (uF (uI q 48 c (nI (st i))) 13 (nI (c + 1))) 32 = qI q 32 from rfl, o1 32 (by decide) (by decide)]
        have hlast : ∀ j, j < c → ag j < st i := fun j hj => by
          obtain ⟨-, ⟨i', b2, b3⟩, -⟩ := hag j hj
          rw [b3]; exact hmo i' i b2 (by omega)
        have next : ∀ q2, (∀ k, k ≠ 48 → k ≠ 19 → qI q2 k = qI q0 k) → qL q2 = qL q0 → (∀ k, k ≠ 13 → qF q2 k = qF q0 k) → qC q2 = qC q0 → qF q2 13 = nI (c + 1) → qI q2 48 = upd (qI q 48) c (nI (st i)) → N01 q2 1 → (∀ k, Nd q2 1 k ↔ (Nd q 1 k ∨ (6 ≤ nK r (st i) ∧ k = nA r (st i)))) → ∃ q' P1, f_X6_planItems_67 fu q2 (nI (i + 1)) = some q' ∧ (∀ k, k ≠ 48 → k ≠ 19 → k ≠ 20 → qI q' k = qI q0 k) ∧ qL q' = qL q0 ∧ (∀ k, k ≠ 13 → k ≠ 4 → qF q' k = qF q0 k) ∧ qC q' = qC q0 ∧ AgsOk q' r P N ∧ PlanOk q' 1 P1 N ∧ Rch r (JP r P N) P1 N := by
          intro q2 p1 p2 p3 p4 p5 p6 p7 p8
          refine ih q2 (i + 1) (c + 1) (fun j => if j = c then st i else ag j) p1 p2 p3 p4 (by omega) (by omega) (by omega) p5 (fun j hj => ?_) (fun j j' hj hj' => ?_) (fun i' hi' h1 h2 => ?_) p7 (fun k => ?_)
          · rw [p6, upd_at]
            by_cases e : j = c
            · simp only [if_pos e]; exact ⟨trivial, ⟨i, by omega, rfl⟩, ha.1, ha.2⟩
            · simp only [if_neg e]
              obtain ⟨b1, ⟨i', b2, b3⟩, b4⟩ := hag j (by omega)
              exact ⟨b1, ⟨i', by omega, b3⟩, b4⟩
          · by_cases e : j' = c
            · simp only [if_pos e, if_neg (show ¬ j = c by omega)]; exact hlast j (by omega)
            · simp only [if_neg e, if_neg (show ¬ j = c by omega)]; exact hagm j j' hj (by omega)
          · by_cases e : i' = i
            · exact ⟨c, by omega, by rw [if_pos rfl, e]⟩
            · obtain ⟨j, b1, b2⟩ := hagc i' (by omega) h1 h2
              exact ⟨j, by omega, by rw [if_neg (by omega)]; exact b2⟩
          · rw [p8 k, hnd k]
            constructor
            · intro z
              rcases z with ⟨j, b1, b2, b3⟩ | ⟨b1, b2⟩
              · exact ⟨j, by omega, by simp only [if_neg (show ¬ j = c by omega)]; exact b2, by simp only [if_neg (show ¬ j = c by omega)]; exact b3⟩
              · exact ⟨c, by omega, by simp only [if_pos]; exact b1, by simp only [if_pos]; exact b2⟩
            · intro ⟨j, b1, b2, b3⟩
              by_cases e : j = c
              · simp only [if_pos e] at b2 b3; exact Or.inr ⟨b2, b3⟩
              · simp only [if_neg e] at b2 b3; exact Or.inl ⟨j, by omega, b2, b3⟩
        have g1 : ∀ k, k ≠ 48 → k ≠ 19 → qI (uF (uI q 48 c (nI (st i))) 13 (nI (c + 1))) k = qI q0 k := fun k k1 k2 => by rw [qI_uF, qI_uI, if_neg k1, o1 k k1 k2]
        have g3 : ∀ k, k ≠ 13 → qF (uF (uI q 48 c (nI (st i))) 13 (nI (c + 1))) k = qF q0 k := fun k k1 => by rw [qF_uF, if_neg k1, qF_uI, o3 k k1]
        by_cases h6 : 6 ≤ nK r (st i)
        · have e3 := (hnod.2.2.2.2.2.2.2.2.2.2.2.2.2 h6)
          rw [e3.2.2.1, need_yes (by have := e3.1; omega), Option.bind_some]
          refine next _ (fun k k1 k2 => by rw [qI_uI, if_neg (show k ≠ 16 + 3 * 1 from k2)]; exact g1 k k1 k2) o2 g3 o4 rfl rfl (N01_u h01) (fun k => ?_)
          rw [Nd_u (by have := e3.1; omega)]
          constructor
          · intro z
            rcases z with z | z
            · exact Or.inr ⟨h6, z⟩
            · exact Or.inl z
          · intro z
            rcases z with z | z
            · exact Or.inr z
            · exact Or.inl z.2
        · rw [(hnod.lr.2 (by omega)).1, need_no, Option.bind_some]
          exact next _ g1 o2 g3 o4 rfl rfl h01 (fun k => ⟨fun z => Or.inl z, fun z => z.elim id (fun z => absurd z.1 h6)⟩)
      · rw [if_neg ha, if_pos rfl]
        refine ih q (i + 1) c ag o1 o2 o3 o4 (by omega) (by omega) (by omega) h13 (fun j hj => ?_) hagm (fun i' hi' h1 h2 => ?_) h01 hnd
        · obtain ⟨b1, ⟨i', b2, b3⟩, b4⟩ := hag j hj
          exact ⟨b1, ⟨i', by omega, b3⟩, b4⟩
        · by_cases e : i' = i
          · subst e; exact absurd ⟨h1, h2⟩ ha
          · exact hagc i' (by omega) h1 h2
theorem c_plan {S T N I G O : Nat} {q r : QS} (hS : SOk r S) (hN : SimN q r S T N) (hQ : SimQ q r N I G O) : ∃ q' P0 P1 P2, f_X6_plan q = some q' ∧ RunC q q' ∧ qI q' 7 = qI q 7 ∧ qL q' 8 = qL q 8 ∧ qC q' = qC q ∧ qF q' 12 = qF q 12 ∧ PlanOk q' 0 P0 N ∧ Rch r (fun k => qF q 9 = nI k ∧ k < N) P0 N ∧ PlanOk q' 2 P2 N ∧ Rch r (fun k => ∃ j, j < I ∧ k = itn r j) P2 N ∧ PlanOk q' 1 P1 N ∧ Rch r (JP r P2 N) P1 N ∧ AgsOk q' r P2 N := by
  have h200 := hN.1
  have h8 := hQ.1
  unfold f_X6_plan f_X6_plan_0 f_X6_planItems f_X6_planItems_0
  obtain ⟨q1, a1, a2, a3⟩ := c_begin 2 q
  have z01 : ∀ {q u}, (∀ k, k < 200 → qI q (16 + 3 * u) k = 0) → N01 q u := fun h k hk => Or.inl (h k hk)
  have z0 : ∀ {q : QS} {u k : Nat}, (∀ k, k < 200 → qI q (16 + 3 * u) k = 0) → ¬ Nd q u k := fun h z => by
    have := z.2
    rw [h _ z.1] at this
    exact absurd this (by decide)
  rw [a1, Option.bind_some]
  obtain ⟨q2, b1, b2, b3, b4⟩ := it_loop (K := f_X6_planItems_42) hN hQ FU q1 0 a2 (Nat.zero_le _) (by show I - 0 < 100000; omega) (z01 a3)
  have b1' : f_X6_planItems_9 f_X6_planItems_42 FU q1 0 = f_X6_planItems_42 q2 := b1
  rw [b1']
  unfold f_X6_planItems_42
  have hN2 : SimN q2 r S T N := RunC.N hS (OnPl.run (by decide) (a2.trans b2)) (KC.of ((a2.trans b2).1 7 (by decide) (by decide)) (by rw [(a2.trans b2).2.1])) hN
  obtain ⟨q3, P2, c1, c2, c3, c4⟩ := c_complete (u := 2) (by decide) hN2 b3
  obtain ⟨q4, d1, d2, d3⟩ := c_begin 1 q3
  rw [c1, Option.bind_some, d1, Option.bind_some]
  have o13 : OnPl 2 q q3 := (a2.trans b2).trans c2
  have hN4 : SimN (uF q4 13 0) r S T N := by
    refine RunC.N hS (q := q) ?_ (KC.of ?_ ?_) hN
    · exact ((OnPl.run (by decide) o13).trans (OnPl.run (by decide) d2)).trans ⟨fun _ _ _ _ _ _ _ => rfl, fun _ _ _ => rfl, fun k _ _ h => by rw [qF_uF, if_neg h]⟩
    · show qI q4 7 = qI q 7
      rw [d2.1 7 (by decide) (by decide), o13.1 7 (by decide) (by decide)]
    · show qL q4 8 = qL q 8
      rw [d2.2.1, o13.2.1]
  obtain ⟨m, st, p1, p2, p3, p4, p5⟩ := c3.keep (q' := uF q4 13 0) (by show qI q4 _ = _; rw [d2.1 (17 + 3 * 2) (by decide) (by decide)]) (by show qF q4 _ = _; rw [d2.2.2.1 (3 + 2) (by decide)])
  have nd4 : ∀ k, Nd (uF q4 13 0) 1 k ↔ ∃ j, j < 0 ∧ 6 ≤ nK r ((fun _ => 0) j) ∧ k = nA r ((fun _ => 0) j) := fun k => ⟨fun z => absurd z (z0 d3), fun ⟨j, z, _⟩ => by omega⟩
  obtain ⟨q5, P1, e1, e2, e3, e4, e5, e6, e7, e8⟩ := ag_loop hS hN4 p1 p2 p3 p4 p5 FU (uF q4 13 0) 0 0 (fun _ => 0) (fun _ _ _ => rfl) rfl (fun _ _ => rfl) rfl (Nat.zero_le _) (by show m - 0 < 100000; omega) (Nat.le_refl _) (by rw [qF_uF, if_pos rfl]; rfl) (fun j hj => by omega) (fun j j' _ hj => by omega) (fun i' hi' => by omega) (z01 d3) nd4
  have e1' : f_X6_planItems_67 FU (uF q4 13 0) 0 = some q5 := e1
  rw [e1', Option.bind_some]
  obtain ⟨q6, g1, g2, g3⟩ := c_begin 0 q5
  rw [g1, Option.bind_some]
  have hq45 : RunC q q5 := by
    refine ((OnPl.run (by decide) o13).trans (OnPl.run (by decide) d2)).trans ⟨fun k _ _ h1 _ h2 _ => ?_, fun k _ _ => by rw [e3]; rfl, fun k h1 _ h2 => ?_⟩
    · rw [e2 k h2 (by omega) (by omega)]; rfl
    · rw [e4 k h2 (by omega), qF_uF, if_neg h2]
  have hq06 : RunC q q6 := hq45.trans (OnPl.run (by decide) g2)
  have f9 : qF q6 9 = qF q 9 := hq06.2.2 9 (by decide) (by decide) (by decide)
  have s7 : qI q6 7 = qI q 7 := by rw [g2.1 7 (by decide) (by decide), e2 7 (by decide) (by decide) (by decide)]; show qI q4 7 = _; rw [d2.1 7 (by decide) (by decide), o13.1 7 (by decide) (by decide)]
  have s8 : qL q6 8 = qL q 8 := by rw [g2.2.1, e3]; show qL q4 8 = _; rw [d2.2.1, o13.2.1]
  have sC : qC q6 = qC q := by rw [g2.2.2.2, e5]; show qC q4 = _; rw [d2.2.2.2, o13.2.2.2]
  have s12 : qF q6 12 = qF q 12 := by rw [g2.2.2.1 12 (by decide), e4 12 (by decide) (by decide)]; show qF q4 12 = _; rw [d2.2.2.1 12 (by decide), o13.2.2.1 12 (by decide)]
  rw [f9]
  have hfin : ∀ q7, OnPl 0 q6 q7 → N01 q7 0 → (∀ k, Nd q7 0 k ↔ (qF q 9 = nI k ∧ k < N)) → ∃ q' P0 P1 P2, ((f_X3_complete 0 q7).bind fun r7 => some r7) = some q' ∧ RunC q q' ∧ qI q' 7 = qI q 7 ∧ qL q' 8 = qL q 8 ∧ qC q' = qC q ∧ qF q' 12 = qF q 12 ∧ PlanOk q' 0 P0 N ∧ Rch r (fun k => qF q 9 = nI k ∧ k < N) P0 N ∧ PlanOk q' 2 P2 N ∧ Rch r (fun k => ∃ j, j < I ∧ k = itn r j) P2 N ∧ PlanOk q' 1 P1 N ∧ Rch r (JP r P2 N) P1 N ∧ AgsOk q' r P2 N := by
    intro q7 h1 h2 h3
    have hN7 : SimN q7 r S T N := RunC.N hS (hq06.trans (OnPl.run (by decide) h1)) (KC.of (by rw [h1.1 7 (by decide) (by decide), s7]) (by rw [h1.2.1, s8])) hN
    obtain ⟨q8, P0, j1, j2, j3, j4⟩ := c_complete (u := 0) (by decide) hN7 h2
    rw [j1, Option.bind_some]
    have j6 := h1.trans j2
    refine ⟨q8, P0, P1, P2, rfl, hq06.trans (OnPl.run (by decide) j6), by rw [j6.1 7 (by decide) (by decide), s7], by rw [j6.2.1, s8], by rw [j6.2.2.2, sC], by rw [j6.2.2.1 12 (by decide), s12], j3, j4.iff h3, ?_, c4.iff (fun k => ?_), ?_, e8, ?_⟩
    · refine c3.keep ?_ ?_
      · rw [j6.1 (17 + 3 * 2) (by decide) (by decide), g2.1 (17 + 3 * 2) (by decide) (by decide), e2 (17 + 3 * 2) (by decide) (by decide) (by decide)]
        show qI q4 _ = _
        rw [d2.1 (17 + 3 * 2) (by decide) (by decide)]
      · rw [j6.2.2.1 (3 + 2) (by decide), g2.2.2.1 (3 + 2) (by decide), e4 (3 + 2) (by decide) (by decide)]
        show qF q4 _ = _
        rw [d2.2.2.1 (3 + 2) (by decide)]
    · rw [b4 k]
      constructor
      · intro z
        rcases z with z | ⟨j', -, y2, y3⟩
        · exact absurd z (z0 a3)
        · exact ⟨j', y2, y3⟩
      · intro ⟨j', y2, y3⟩
        exact Or.inr ⟨j', Nat.zero_le _, y2, y3⟩
    · exact e7.keep (by rw [j6.1 (17 + 3 * 1) (by decide) (by decide), g2.1 (17 + 3 * 1) (by decide) (by decide)]) (by rw [j6.2.2.1 (3 + 1) (by decide), g2.2.2.1 (3 + 1) (by decide)])
    · unfold AgsOk at e6 ⊢
      rw [j6.1 48 (by decide) (by decide), g2.1 48 (by decide) (by decide), j6.2.2.1 13 (by decide), g2.2.2.1 13 (by decide)]
      exact e6
  have hcond := hQ.2.2.2.2.2.2.2.2.2.2.2.2.2.1
  have h93 := hQ.2.2.2.2.2.2.2.2.2.2.2.2.1
  rcases hcond with hc | ⟨i, hi, hc, -⟩
  · rw [h93, hc, need_no, Option.bind_some, ← hc, ← h93]
    refine hfin q6 OnPl.rfl (z01 g3) (fun k => ⟨fun z => absurd z (z0 g3), fun ⟨z, z'⟩ => ?_⟩)
    exfalso
    rw [h93, hc] at z
    have := congrArg Int32.toInt z
    rw [nI_toInt (by omega)] at this
    have e1 : (-1 : Int32).toInt = -1 := rfl
    omega
  · rw [h93, hc, need_yes (show i < 200 by omega), Option.bind_some]
    rw [← hc, ← h93]
    refine hfin _ OnPl.n (N01_u (z01 g3)) (fun k => ?_)
    rw [Nd_u (by omega), h93, hc]
    constructor
    · intro z
      rcases z with z | z
      · exact ⟨by rw [z], by omega⟩
      · exact absurd z (z0 g3)
    · intro ⟨z, z'⟩
      exact Or.inl (nI_inj (by omega) (by omega) z).symm
