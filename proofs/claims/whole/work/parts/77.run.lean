/-! the whole run -/
theorem nar16 {n : Nat} (h : n < 2001) : vp_nar .short (nI n) = nI n := by
  have : ∀ n, n < 2001 → vp_nar .short (nI n) = nI n := by
    intro n hn
    have e : (nI n).toInt16.toInt32 = nI n := by
      have : ∀ n, n < 2001 → (nI n).toInt16.toInt32 = nI n := by decide +kernel
      exact this n hn
    have := ns20 hn
    rw [e] at this
    exact this
  exact this n h
theorem Rc.fr {q r r' : QS} {S T N I C cap : Nat} {cr : Nat → Nat → Nat} {P1 P2 : Nat → Prop} (h : FR r r') (hr : Rc q r S T N I C cap cr P1 P2) : Rc q r' S T N I C cap cr P1 P2 := by
  obtain ⟨a1, a2, a3, a4, a5, a6, a7, a8, a9, a10⟩ := hr
  exact ⟨h.S a1, h.T a1 a2, h.N a1 a3, h.pl a4, a5, fun c hc t ht => by rw [h.same.fs.2.2.2.2.2.1]; exact a6 c hc t ht, a7, a8, a9, a10⟩
/-- what a run leaves alone in the class, its answer too -/
def RunA (q q' : QS) : Prop := (∀ k, k ≠ 7 → k ≠ 10 → k ≠ 13 → (k < 16 ∨ 24 < k) → k ≠ 46 → k ≠ 48 → (k < 50 ∨ 57 < k) → qI q' k = qI q k) ∧ (∀ k, k ≠ 8 → k ≠ 11 → k ≠ 14 → qL q' k = qL q k) ∧ ∀ k, 1 < k → (k < 3 ∨ 5 < k) → k ≠ 12 → k ≠ 13 → qF q' k = qF q k
theorem RunA.trans {q q1 q2 : QS} (h : RunA q q1) (g : RunA q1 q2) : RunA q q2 := ⟨fun k a b c d e f i => (g.1 k a b c d e f i).trans (h.1 k a b c d e f i), fun k a b c => (g.2.1 k a b c).trans (h.2.1 k a b c), fun k a b c d => (g.2.2 k a b c d).trans (h.2.2 k a b c d)⟩
theorem RunC.a {q q' : QS} (h : RunC q q') : RunA q q' := ⟨fun k a _ b c d e f => h.1 k a b c d e f, fun k a _ b => h.2.1 k a b, fun k _ a b c => h.2.2 k a b c⟩
theorem OnK.a {q q' : QS} (h : OnK q q') : RunA q q' := ⟨fun k _ a _ _ _ _ _ => h.1 k a, fun k _ a _ => h.2.1 k a, fun k _ _ _ _ => by rw [h.2.2.1]⟩
def FA (r r' : QS) : Prop := (∀ k, (k ≤ 16 ∨ (26 ≤ k ∧ k ≤ 29)) → qI r' k = qI r k ∧ qL r' k = qL r k) ∧ ∀ k, k ≤ 8 → qF r' k = qF r k
theorem FA.trans {r r1 r2 : QS} (h : FA r r1) (g : FA r1 r2) : FA r r2 := ⟨fun k a => ⟨((g.1 k a).1).trans (h.1 k a).1, ((g.1 k a).2).trans (h.1 k a).2⟩, fun k a => (g.2 k a).trans (h.2 k a)⟩
theorem FR.a {r r' : QS} (h : FR r r') : FA r r' := ⟨fun k a => h.1 k (by omega), fun k a => h.2 k (by omega) (by omega)⟩
theorem KF.a {r r' : QS} (h : KF r r') : FA r r' := ⟨fun k a => h.1 k (by omega), fun k _ => by rw [h.2]⟩
theorem FA.same {r r' : QS} (h : FA r r') : SameB r r' := fun k hk => h.1 k (Or.inl hk)
theorem Sim_run {κ n : Nat} {q r q' r' : QS} {S T N I G O K I' : Nat} (hS : SOk r S) (hn : S ≤ n) (hf : qF r 0 = nI S) (hH : SimH q r S) (hT : SimT q r S T) (hN : SimN q r S T N) (hQ : SimQ q r N I G O) (hq : RunA q q') (hk : KC r N q q') (hr : FA r r') (hA : SimA q' r' K I') (hC : SimC κ q') : Sim κ n q' r' := by
  have e : SameTo S r r := fun s _ => ⟨rfl, rfl, rfl, rfl, rfl⟩
  have g : ∀ k, k ≠ 7 → k ≠ 10 → k ≠ 13 → (k < 16 ∨ 24 < k) → k ≠ 46 → k ≠ 48 → (k < 50 ∨ 57 < k) → qI q' k = qI q k := hq.1
  have hT' : SimT q' r S T := hT.congr hS e rfl (hq.2.2 14 (by decide) (by decide) (by decide) (by decide)) rfl rfl rfl rfl (g 26 (by decide) (by decide) (by decide) (by decide) (by decide) (by decide) (by decide)) (g 27 (by decide) (by decide) (by decide) (by decide) (by decide) (by decide) (by decide)) (g 28 (by decide) (by decide) (by decide) (by decide) (by decide) (by decide) (by decide)) (g 4 (by decide) (by decide) (by decide) (by decide) (by decide) (by decide) (by decide)) (hq.2.1 5 (by decide) (by decide) (by decide))
  have hN' : SimN q' r S T N := ⟨hN.1, by rw [hq.2.2 2 (by decide) (by decide) (by decide) (by decide)]; exact hN.2.1, hN.2.2.1, fun i hi => (hN.2.2.2 i hi).val (fun k h1 h2 => by rw [g k (by omega) (by omega) (by omega) (by omega) (by omega) (by omega) (by omega)]) (fun hh => hk i _ hh hi ((hN.2.2.2 i hi).cons hS hh).2.2.1) hS⟩
  refine ⟨S, T, N, I, G, O, K, I', same_SOk hr.same.s hS, hn, by rw [hr.2 0 (by decide)]; exact hf, ?_, hr.same.t hS (hr.2 1 (by decide)) hT', hr.same.n hS (hr.2 2 (by decide)) hN', ?_, hA, hC⟩
  · exact hH.congr hS (hr.same.s.to S) (hr.1 6 (by decide)).1 (g 1 (by decide) (by decide) (by decide) (by decide) (by decide) (by decide) (by decide)) (hq.2.1 2 (by decide) (by decide) (by decide))
  · exact hQ.congr hr.same.sn (fun k h1 h2 => hr.2 k (by omega)) (fun k h1 h2 => hq.2.2 k (by omega) (by omega) (by omega) (by omega)) (fun k h1 h2 => (hr.1 k (by omega)).1) (fun k h1 h2 => g k (by omega) (by omega) (by omega) (by omega) (by omega) (by omega) (by omega))
/-- ranks: with or without a question of likeness -/
theorem both_rank {q q0 r0 : QS} {S T N I C R cap : Nat} {cr : Nat → Nat → Nat} {g : Nat → List Nat} {fi : Nat → Int32} {ty : Nat → Nat} (h : Rx q0 r0 S T N I C R cr g fi) (hv : HV q R I cap ty (xv r0 cr g)) (h0 : 0 < cap) (hd : qF q 11 = qF r0 8) (h10 : qF r0 10 = nI R) (hfi : ∀ p, p < R → qI r0 32 p = fi p) : ∃ q' r' n s, f_X6_rankRows q (nI R) = some (nI n, q') ∧ (if qF r0 8 = 0 then f_X10_run_36 r0 else (f_X10_makeDistinct r0).bind fun r44 => f_X10_run_36 r44) = f_X10_run_36 r' ∧ OnRk q q' ∧ OnSr r0 r' ∧ qF r' 10 = nI n ∧ n ≤ R ∧ Rk (qI q' 54) (qI r' 32) fi R n s := by
  obtain ⟨v1, v2, v3, v4, v5, v6, v7⟩ := id hv
  unfold f_X6_rankRows f_X6_rankRows_0 f_X6_rankRows_17
  rw [hd]
  by_cases hz : qF r0 8 = 0
  · rw [if_pos hz, if_pos hz]
    obtain ⟨q', a1, a2, a3⟩ := al_loop (R := R) v4 v5 FU q 0 v1 (hd.trans hz) (Nat.zero_le _) (by show R - 0 < 100000; omega) (fun p hp => by omega)
    exact ⟨q', r0, R, fun p => p, a1, rfl, a2, OnSr.rfl, h10, Nat.le_refl _, fun p hp => ⟨a3 p hp, hfi p hp, hp⟩⟩
  · rw [if_neg hz, if_neg hz]
    obtain ⟨q2, a1, a2, a3, a4, a5, a6⟩ := c_empty v1 v5
    have ok : OnRk q q2 := ⟨fun k hk => a2 k (by omega), a3, a4, a5⟩
    obtain ⟨q', r', n, s, d1, d2, d3, d4, d5, d6, d7⟩ := ds_loop (ty := ty) h h0 FU q2 r0 0 0 (fun _ => 0) (hv.rk ok) (by rw [ok.2.2.1, hd]; exact hz) OnSr.rfl h10 (a6 _ _) (Nat.le_refl _) (Nat.zero_le _) (by show R - 0 < 100000; omega) (fun p hp => by omega) (fun p hp => by omega) (fun p _ hp => hfi p hp)
    rw [a1, Option.bind_some]
    have d2' : f_X10_makeDistinct r0 = some r' := d2
    rw [d2', Option.bind_some]
    exact ⟨q', r', n, s, d1, rfl, ok.trans d3, d4, d5, d6, d7⟩
theorem both_sort {q q0 r0 r : QS} {S T N I C R O cap n : Nat} {cr : Nat → Nat → Nat} {g : Nat → List Nat} {fi : Nat → Int32} {ty : Nat → Nat} {s : Nat → Nat} (h : Rx q0 r0 S T N I C R cr g fi) (hv : HV q R I cap ty (xv r0 cr g)) (hO : Ord q r0 I O) (hn : n ≤ R) (ho : OnSr r0 r) (h10 : qF r 10 = nI n) (hs : Rk (qI q 54) (qI r 32) fi R n s) : ∃ q' r' s', f_X6_sortRanks q (nI n) = some q' ∧ f_X10_run_36 r = f_X10_run_47 r' ∧ OnRk q q' ∧ OnSr r0 r' ∧ qF r' 10 = nI n ∧ Rk (qI q' 54) (qI r' 32) fi R n s' := by
  have hO4 := hO.1
  unfold f_X6_sortRanks f_X6_sortRanks_0 f_X10_run_36
  rw [hO.2.1, ho.2.1 6 (by decide), hO.2.2.1]
  by_cases hz : O = 0
  · rw [if_pos (show nI O = (0 : Int32) by rw [hz]; rfl), if_pos (show nI O ≤ (0 : Int32) by rw [hz]; decide)]
    exact ⟨q, r, s, rfl, rfl, OnRk.rfl, ho, h10, hs⟩
  · rw [if_neg (show ¬ nI O = (0 : Int32) from cNe (c := 0) hz (by omega) (by decide)), if_neg (show ¬ nI O ≤ (0 : Int32) from nI_ge (a := 0) (by omega) (by omega))]
    obtain ⟨q', r', s', a1, a2, a3, a4, a5, a6⟩ := so_loop h hn FU q r 1 s hv hO ho h10 hs (by decide) (by decide) (by show 4000 - 1 < 100000; decide)
    have a2' : f_X10_sort r = some r' := a2
    rw [a2', Option.bind_some]
    exact ⟨q', r', s', a1, rfl, a3, a4, a5, a6⟩
set_option maxHeartbeats 2000000 in
theorem run_tail {q r : QS} {S T N I G O C cap : Nat} {cr : Nat → Nat → Nat} {P1 P2 : Nat → Prop} (hR : Rc q r S T N I C cap cr P1 P2) (hQ : SimQ q r N I G O) (hcx : Cx q r S T N C cr) (hF9 : qF r 9 = nI C) (h16 : 16 ≤ cap) (hno : ¬ (Gp r G I ∧ Lo r N I G)) : ∃ a q' r' K, f_X9_run_64 q (nI C) = some (a, q') ∧ ((f_X10_makeRows r).bind fun r7 => if qF r7 8 = 0 then f_X10_run_36 r7 else (f_X10_makeDistinct r7).bind fun r44 => f_X10_run_36 r44) = some (a, r') ∧ RunA q q' ∧ KC r N q q' ∧ qF q' 12 = nI cap ∧ qC q' = cap ∧ FA r r' ∧ SimA q' r' K I := by
  obtain ⟨hCc, hc2, h12, hqC⟩ := hR.facts
  have hI8 := hQ.1
  obtain ⟨q1, r1, R, g, b1, b2, b3, b4, b5, b6, b7, b8⟩ := mk_rows hR hQ hcx hF9 (by omega)
  have hR1 : Rc q1 r1 S T N I C cap cr P1 P2 := (hR.rq b3).fr b4.fr
  have hQ1 : SimQ q1 r1 N I G O := b4.Q (b3.run.Q hQ)
  have hcx1 : Cx q r1 S T N C cr := hcx.rw b4
  have hN1 := hR1.2.2.1
  have hrc1 := hR1.2.2.2.1.2.1
  have hemp : ∀ ρ, ρ < R → g ρ = [] → ∀ k, k < N → P2 k → nK r1 k ≠ 4 := fun ρ hρ e => by
    obtain ⟨x1, x2⟩ := b8 ρ hρ e
    exact no_col hN1 hQ1 hrc1 (fun z => hno ⟨x1, b4.fr.lo.mp z⟩) x2
  obtain ⟨q2, c1, c2, c3, c4⟩ := wr_loop (K := f_X9_run_105) (g := g) b5 (fun ρ hρ => ⟨(b7 ρ hρ).2.2.1, (b7 ρ hρ).2.2.2⟩) hemp FU q1 0 hR1 hQ1 (fun ρ hρ => (b7 ρ hρ).1) (Nat.zero_le _) (by show R - 0 < 100000; omega) (fun ρ j h => by omega)
  obtain ⟨-, -, h12a, hqCa⟩ := hR1.facts
  have hv : HV q2 R I cap (fun j => nT r1 (itn r1 j)) (xv r1 cr g) := ⟨by rw [c2.2.2.2]; exact hqCa, by rw [c2.2.2.1]; exact h12a, by rw [c2.2.2.1]; exact hQ1.2.1, b5, hc2, hI8, c4⟩
  have hx : Rx q r1 S T N I C R cr g (qI r1 32) := ⟨hcx1, hI8, by omega, hQ1.2.2.1, fun j hj => ⟨(hQ1.it hj).1, (hQ1.it hj).2.1⟩, fun ρ hρ => by
    obtain ⟨x1, x2, x3, x4⟩ := b7 ρ hρ
    refine ⟨⟨x2, x3, by omega⟩, fun j hj e P hP k hk hk2 => ?_, ?_⟩
    · exact hemp ρ hρ e k hk (hP.sub (fun k e => hrc1.1 k ⟨j, hj, e⟩) hrc1.2.1 k hk2)
    · cases hg : g ρ with
      | nil => rw [hg] at x2; rw [show qI r1 32 ρ = -1 from x2]; rfl
      | cons c l =>
        rw [hg] at x2 x3
        rw [show qI r1 32 ρ = nI c from x2.1]
        exact nar16 (by have := x3 c (List.mem_cons_self ..); omega)⟩
  have hO1 : Ord q2 r1 I O := Ord.of (c2.run.Q hQ1)
  have hQ2 : SimQ q2 r1 N I G O := c2.run.Q hQ1
  obtain ⟨-, -, -, -, -, -, -, -, -, -, -, -, -, -, hlq, hl1, hdq, -⟩ := id hQ2
  obtain ⟨q3, r3, n, s, d1, d2, d3, d4, d5, d6, d7⟩ := both_rank hx hv (by omega) hdq b6 (fun p _ => rfl)
  obtain ⟨q4, r4, s', e1, e2, e3, e4, e5, e6⟩ := both_sort hx (hv.rk d3) (hO1.rk d3) d6 d4 d5 d7
  have hv4 := (hv.rk d3).rk e3
  obtain ⟨m, f1, f2, f3⟩ := lim (q := q4) (r := r4) (n := n) (I := I) (y := qF r1 7) (by omega) (by rw [e3.2.2.1, d3.2.2.1]; exact hlq) (e4.2.1 7 (by decide)) hl1 e5 (by rw [e4.2.1 4 (by decide)]; exact hQ1.2.2.1)
  have hKn : min m 64 ≤ n := by omega
  obtain ⟨v1, v2, v3, v4, v5, v6, v7⟩ := id hv4
  obtain ⟨q5, k1, k2, k3⟩ := ko_loop (Kn := min m 64) (s := s') (ty := fun j => nT r1 (itn r1 j)) (x := xv r1 cr g) (R := R) (I := I) (cap := cap) (by omega) (by omega) (fun p hp => (e6 p (by omega)).2.2) FU (uF (uF q4 0 (nI (min m 64))) 1 (nI I)) 0 ⟨v1, v2, v3, v4, v5, v6, v7⟩ rfl (fun p hp => (e6 p (by omega)).1) (Nat.zero_le _) (by show min m 64 - 0 < 100000; omega) (fun p j h => by omega)
  have oe : OnE r1 (uF (uF (uF r4 10 (nI m)) 11 (nI (min m 64))) 12 (nI I)) := ⟨fun k hk => e4.1 k (by omega), fun k hk => by
    rw [qF_uF, if_neg (by omega), qF_uF, if_neg (by omega), qF_uF, if_neg (by omega)]
    exact e4.2.1 k (by omega)⟩
  obtain ⟨r5, l1, l2, l3⟩ := kout_loop (Kn := min m 64) (m := m) (s := s') hx (by omega) (fun p hp => (e6 p (by omega)).2.2) FU (uF (uF (uF r4 10 (nI m)) 11 (nI (min m 64))) 12 (nI I)) 0 oe rfl rfl (fun p hp => (e6 p (by omega)).2.1) (Nat.zero_le _) (by show min m 64 - 0 < 100000; omega) (fun p j h => by omega)
  have hkc : KC r N q q5 := by
    have z1 : KC r N q q1 := b3.kc
    have z2 : KC r N q1 q2 := fun k x hk hkN hx => c3 k x (by rw [b4.same.fs.1]; exact hk) hkN hx
    have z3 : KC r N q2 q4 := d3.kc.trans e3.kc
    have z4 : KC r N q4 q5 := KC.of (k2.1 7 (by decide)) (k2.2.1 8 (by decide))
    exact ((z1.trans z2).trans z3).trans z4
  have hu : RunA q4 (uF (uF q4 0 (nI (min m 64))) 1 (nI I)) := ⟨fun k _ _ _ _ _ _ _ => rfl, fun k _ _ _ => rfl, fun k a _ _ _ => by rw [qF_uF, if_neg (by omega), qF_uF, if_neg (by omega)]⟩
  refine ⟨nI m, q5, r5, min m 64, ?_, ?_, ((((b3.run.trans c2.run).trans d3.run).trans e3.run).a.trans hu).trans k2.a, hkc, by rw [k2.2.2.1]; exact v2, by rw [k2.2.2.2]; exact v1, ?_, by omega, hI8, by rw [k2.2.2.1]; rfl, by rw [l2.2]; rfl, by rw [k2.2.2.1]; rfl, by rw [l2.2]; rfl, fun row j hr hj => ?_⟩
  · unfold f_X9_run_64
    rw [if_pos (show nI C ≤ (2000 : Int32) from nI_le (b := 2000) (by omega) (by decide)), b1, Option.bind_some]
    have c1' : f_X9_run_86 f_X9_run_105 FU q1 (nI R) 0 = f_X9_run_105 q2 (nI R) := c1
    show f_X9_run_86 f_X9_run_105 FU q1 (nI R) 0 = _
    rw [c1']
    unfold f_X9_run_105
    rw [d1, Option.bind_some]
    show ((f_X6_sortRanks q3 (nI n)).bind fun r9 => (f_X4_cutToLimit r9 (nI n)).bind fun r11 => (f_X0_keep r9 r11 (qF r9 6)).bind fun r13 => some (r11, r13)) = _
    rw [e1, Option.bind_some, f2, Option.bind_some, v3]
    have kk : f_X0_keep q4 (nI m) (nI I) = some q5 := by
      unfold f_X0_keep f_X0_keep_0
      rw [show f_J9_min_7cf53 (nI m) (64 : Int32) = some (nI (min m 64)) from min_ok (b := 64) (by omega) (by decide), Option.bind_some]
      exact k1
    rw [kk, Option.bind_some]
  · rw [b2, Option.bind_some, d2, e2, f3]
    exact l1
  · have oa : FA r1 (uF (uF (uF r4 10 (nI m)) 11 (nI (min m 64))) 12 (nI I)) := ⟨fun k hk => oe.1 k (by omega), fun k hk => oe.2 k (by omega)⟩
    exact (b4.fr.a.trans oa).trans l2.a
  · obtain ⟨y1, y2, y3, y4⟩ := l3 row j hr hj
    have y0 := k3 row j hr hj
    rw [Nat.mul_comm row 8] at y0
    exact ⟨xv r1 cr g (s' row) j, (v7 (s' row) j (e6 row (by omega)).2.2 hj).2.1, y0, y1, fun _ => y2, fun _ => ⟨y3, y4⟩⟩
set_option maxHeartbeats 2000000 in
theorem st_17 {κ n : Nat} {q r : QS} (h : Sim κ n q r) : ∃ mc ms cap a q' r', f_run mc ms q = some (a, q') ∧ f_X10_run r = some (a, r') ∧ Sim cap n q' r' ∧ Cost q cap mc ms ∧ qC q = κ := by
  obtain ⟨S, T, N, I, G, O, K, I', hS, hn, hf, hH, hT, hN, hQ, hA, hC⟩ := id h
  have hT3 := hT.1
  have hI8 := hQ.1
  by_cases h0 : T = 0 ∨ I = 0
  · refine ⟨0, 0, κ, -1, q, r, ?_, ?_, h, Or.inl ⟨hC.1.symm, rfl, rfl⟩, hC.1⟩
    · unfold f_run f_X9_run_0
      rw [hT.2.1, hQ.2.1]
      by_cases hz : T = 0
      · rw [if_pos (show nI T = (0 : Int32) by rw [hz]; rfl)]
      · rw [if_neg (show ¬ nI T = (0 : Int32) from cNe (c := 0) hz (by omega) (by decide)), if_pos (show nI I = (0 : Int32) by rw [show I = 0 by omega]; rfl)]
    · have e : f_X10_refusal r = some (-1, r) := by
        unfold f_X10_refusal f_X10_refusal_0
        rw [hT.2.2.1, hQ.2.2.1]
        by_cases hz : T = 0
        · rw [if_pos (show nI T = (0 : Int32) by rw [hz]; rfl)]
        · rw [if_neg (show ¬ nI T = (0 : Int32) from cNe (c := 0) hz (by omega) (by decide)), if_pos (show nI I = (0 : Int32) by rw [show I = 0 by omega]; rfl)]
      unfold f_X10_run f_X10_run_0
      rw [e, Option.bind_some, if_neg (show ¬ (0 : Int32) ≤ ((-1 : Int32), r).1 from (by decide : ¬ (0 : Int32) ≤ -1))]
  · obtain ⟨q1, P0, P1, P2, a1, a2, a3, a4, a5, a6, a7, a8, a9, a10, a11, a12, a13⟩ := c_plan hS hN hQ
    have kc1 : KC r N q q1 := KC.of a3 a4
    have hT1 := a2.T hS hT
    have hN1 := a2.N hS kc1 hN
    have hQ1 := a2.Q hQ
    have hC1 : SimC κ q1 := hC.congr a6 a5
    have hκ : qC q = κ := hC.1
    have hp1 : Pl q1 r N I P1 P2 := ⟨a9, a10, a11, a12, a13⟩
    obtain ⟨r1, z, b1, b2, b3, b4⟩ := r_refusal hS hN hT hQ (by omega) (by omega)
    obtain ⟨l1, l2⟩ := c_loose hN1 hT1 hQ1 hp1
    have e0 : ∀ mc ms, f_run mc ms q = (f_X6_hasLooseColumn q1).bind fun r5 => if r5 = 0 then (f_X7_product q1).bind fun r8 => if r8 ≤ (40000 : Int32) then (f_gather mc ms q1).bind fun r => f_X9_run_64 r.2 r.1 else some (-2, q1) else some (-3, q1) := fun mc ms => by
      unfold f_run f_X9_run_0
      rw [hT.2.1, hQ.2.1, if_neg (show ¬ nI T = (0 : Int32) from cNe (c := 0) (by omega) (by omega) (by decide)), if_neg (show ¬ nI I = (0 : Int32) from cNe (c := 0) (by omega) (by omega) (by decide)), a1, Option.bind_some]
    have stay : ∀ {r' : QS}, FR r r' → Sim κ n q1 r' := fun {r'} fr => Sim_run hS hn hf hH hT hN hQ a2.a kc1 fr.a (hA.congr (fr.2 11 (by decide) (by decide)) (fr.2 12 (by decide) (by decide)) (a2.2.2 0 (by decide) (by decide) (by decide)) (a2.2.2 1 (by decide) (by decide) (by decide)) (fr.1 38 (by decide)).1 (fr.1 39 (by decide)).2 (fr.1 40 (by decide)).1 (fr.1 41 (by decide)).2 (a2.1 10 (by decide) (by decide) (by decide) (by decide) (by decide) (by decide)) (a2.2.1 11 (by decide) (by decide))) hC1
    unfold f_X10_run f_X10_run_0
    rw [b1]
    unfold f_X10_refusal_64
    by_cases hl : Gp r G I ∧ Lo r N I G
    · have ez := b4.mpr hl
      rw [ez, if_neg i1, Option.bind_some, if_neg (show ¬ (0 : Int32) ≤ ((-3 : Int32), r1).1 from (by decide : ¬ (0 : Int32) ≤ -3))]
      refine ⟨0, 0, κ, -3, q1, r1, ?_, rfl, stay b2.fr, Or.inl ⟨hκ.symm, rfl, rfl⟩, hκ⟩
      rw [e0, l1 hl, Option.bind_some, if_neg i1]
    · have ez : z = 0 := by
        rcases b3 with e | e
        · exact e
        · exact absurd (b4.mp e) hl
      have h64 := prd_64 hT (Nat.le_refl T)
      have rp : f_X10_refusal_75 FU r1 1 0 = some (if prd r T ≤ 40000 then 0 else -2, r1) := rp_loop hT b2 FU 0 (Nat.zero_le _) (by show T - 0 < 100000; omega)
      rw [ez, if_pos rfl, rp, Option.bind_some]
      by_cases hp : prd r T ≤ 40000
      · rw [if_pos hp, if_pos (show (0 : Int32) ≤ ((0 : Int32), r1).1 from (by decide : (0 : Int32) ≤ 0))]
        have hS2 := b2.fr.S hS
        have fr1 := b2.fr
        have hrc0 : Rch r1 (fun k => qF q1 9 = nI k ∧ k < N) P0 N := by
          rw [a2.2.2 9 (by decide) (by decide) (by decide)]
          obtain ⟨x1, x2, x3, -⟩ := fr1.same.fs
          unfold Rch prs at a8 ⊢
          rw [x1, x2, x3]
          exact a8
        obtain ⟨mc, ms, cap, q2, r2, y, g1, g2, g3, g4, g5, g6, g7, g8, g9, g10⟩ := both_gather hS2 (fr1.T hS hT1) (fr1.N hS hN1) (fr1.Q hQ1) a7 hrc0 (fr1.pl hp1) hC1 (by omega)
        have cost : Cost q cap mc ms := by
          unfold Cost at g2 ⊢
          rw [a5] at g2
          exact g2
        have er : f_run mc ms q = f_X9_run_64 q2 y := by
          rw [e0, l2 hl, Option.bind_some, if_pos rfl, c_product hT1, Option.bind_some, if_pos (show nI (prd r T) ≤ (40000 : Int32) from nI_le (b := 40000) hp (by decide)), g1, Option.bind_some]
        have kc2 : KC r N q q2 := kc1.trans (fun k x hk hkN hx => g4 k x (by rw [fr1.same.fs.1]; exact hk) hkN hx)
        have fr2 := fr1.trans g9
        rcases g10 with ⟨C, cr, c1, c2, c3, c4, c5⟩ | ⟨c1, c2⟩
        · have hno : ¬ (Gp r2 G I ∧ Lo r2 N I G) := fun x => hl ⟨fr2.gp.mp x.1, fr2.lo.mp x.2⟩
          obtain ⟨a, q', r', K2, d1, d2, d3, d4, d5, d6, d7, d8⟩ := run_tail c3 (fr2.Q (g3.Q hQ1)) c4 c5 g7 hno
          refine ⟨mc, ms, cap, a, q', r', er.trans (by rw [c1]; exact d1), ?_, ?_, cost, hκ⟩
          · show ((f_X10_gatherAll r1).bind fun r4 => if r4.1 = 0 then some ((-2 : Int32), r4.2) else (f_X10_makeRows r4.2).bind fun r7 => if (qF r7 8) = 0 then f_X10_run_36 r7 else (f_X10_makeDistinct r7).bind fun r44 => f_X10_run_36 r44) = _
            rw [c2, Option.bind_some, if_neg (show ¬ ((1 : Int32), r2).1 = 0 from i1)]
            exact d2
          · exact Sim_run hS hn hf hH hT hN hQ ((a2.trans g3).a.trans d3) (kc2.trans (fun k x hk hkN hx => d4 k x (by rw [fr2.same.fs.1]; exact hk) hkN hx)) (fr2.a.trans d7) d8 ⟨d6, by rw [d5, d6], by rw [d6]; exact g7, by rw [d6]; exact g8⟩
        · refine ⟨mc, ms, cap, -2, q2, r2, er.trans ?_, ?_, ?_, cost, hκ⟩
          · rw [c1]
            unfold f_X9_run_64
            rw [if_neg (by decide)]
          · show ((f_X10_gatherAll r1).bind fun r4 => if r4.1 = 0 then some ((-2 : Int32), r4.2) else (f_X10_makeRows r4.2).bind fun r7 => if (qF r7 8) = 0 then f_X10_run_36 r7 else (f_X10_makeDistinct r7).bind fun r44 => f_X10_run_36 r44) = _
            rw [c2, Option.bind_some, if_pos (show ((0 : Int32), r2).1 = 0 from rfl)]
          · have a23 := a2.trans g3
            exact Sim_run hS hn hf hH hT hN hQ a23.a kc2 fr2.a (hA.congr (fr2.2 11 (by decide) (by decide)) (fr2.2 12 (by decide) (by decide)) (a23.2.2 0 (by decide) (by decide) (by decide)) (a23.2.2 1 (by decide) (by decide) (by decide)) (fr2.1 38 (by decide)).1 (fr2.1 39 (by decide)).2 (fr2.1 40 (by decide)).1 (fr2.1 41 (by decide)).2 (a23.1 10 (by decide) (by decide) (by decide) (by decide) (by decide) (by decide)) (a23.2.1 11 (by decide) (by decide))) ⟨g6, by rw [g5, g6], by rw [g6]; exact g7, by rw [g6]; exact g8⟩
      · rw [if_neg hp, if_neg (show ¬ (0 : Int32) ≤ ((-2 : Int32), r1).1 from (by decide : ¬ (0 : Int32) ≤ -2))]
        refine ⟨0, 0, κ, -2, q1, r1, ?_, rfl, stay b2.fr, Or.inl ⟨hκ.symm, rfl, rfl⟩, hκ⟩
        rw [e0, l2 hl, Option.bind_some, if_pos rfl, c_product hT1, Option.bind_some, if_neg (show ¬ nI (prd r T) ≤ (40000 : Int32) from nI_ge (a := 40000) (by omega) (by omega))]
