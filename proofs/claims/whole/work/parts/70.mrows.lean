/-! are there groups at all, on both sides; all rows -/
def Gp (r : QS) (G I : Nat) : Prop := 0 < G ∨ ∃ j, j < I ∧ qI r 15 (itn r j) = 1
theorem SimQ.it {q r : QS} {N I G O j : Nat} (h : SimQ q r N I G O) (hj : j < I) : itn r j < N ∧ qI r 26 j = nI (itn r j) ∧ qI q 39 j = nI (itn r j) := by
  obtain ⟨a, b, c⟩ := h.2.2.2.1 j hj
  exact ⟨a, b, c.trans b⟩
theorem ig_loop {q r : QS} {S T N I G O : Nat} (hN : SimN q r S T N) (hQ : SimQ q r N I G O) (fu : Nat) : ∀ (j : Nat) (z : Int32), j ≤ I → I - j < fu → (z = 0 ∨ z = 1) → (z = 1 ↔ Gp r G j) → ∃ z', f_X10_isGathered_15 r fu z (nI j) = some z' ∧ (Gp r G I → z' = 1) ∧ (¬ Gp r G I → z' = 0) := by
  have h200 := hN.1
  have hI := hQ.1
  induction fu with
  | zero => intro j z _ h; omega
  | succ fu ih =>
    intro j z hj hf hz hiff
    rw [f_X10_isGathered_15, f_X10_isGathered_15_b, hQ.2.2.1]
    by_cases he : j = I
    · subst he
      rw [if_pos (nI_le (Nat.le_refl _) (by omega))]
      refine ⟨z, ?_, fun h => hiff.mpr h, fun h => ?_⟩
      · rcases hz with rfl | rfl
        · rw [if_pos (by rw [nar0])]
        · rw [if_pos (by rw [nar1])]
      · rcases hz with e | e
        · exact e
        · exact absurd (hiff.mp e) h
    · rw [if_neg (nI_ge (show j < I by omega) (by omega))]
      obtain ⟨a1, a2, a3⟩ := hQ.it (show j < I by omega)
      rcases hz with rfl | rfl
      · rw [if_pos rfl, rd_nI (show j < 8 by omega) (by decide), Option.bind_some, a2, rd_nI (show itn r j < 200 by omega) (by decide), Option.bind_some]
        unfold f_X10_isGathered_46 f_X10_isGathered_41 f_X10_isGathered_46
        rw [nI_1]
        have hno : ¬ Gp r G j := fun h => absurd (hiff.mpr h) (by decide)
        rcases (hN.2.2.2 _ a1).2.2.2.2.2.2.1 with e | e
        · rw [if_pos e]
          refine ih (j + 1) 0 (by omega) (by omega) (Or.inl rfl) ⟨fun h => absurd h (by decide), fun h => ?_⟩
          rcases h with h | ⟨j', h1, h2⟩
          · exact absurd (Or.inl h) hno
          · by_cases x : j' = j
            · rw [x, e] at h2; exact absurd h2 (by decide)
            · exact absurd (Or.inr ⟨j', by omega, h2⟩) hno
        · rw [if_neg (by rw [e]; exact i1)]
          exact ih (j + 1) 1 (by omega) (by omega) (Or.inr rfl) ⟨fun _ => Or.inr ⟨j, by omega, e⟩, fun _ => rfl⟩
      · rw [if_neg i1]
        unfold f_X10_isGathered_41 f_X10_isGathered_46
        rw [nI_1]
        refine ih (j + 1) 1 (by omega) (by omega) (Or.inr rfl) ⟨fun _ => ?_, fun _ => rfl⟩
        rcases hiff.mp rfl with h | ⟨j', h1, h2⟩
        · exact Or.inl h
        · exact Or.inr ⟨j', by omega, h2⟩
theorem r_gath {q r : QS} {S T N I G O : Nat} (hN : SimN q r S T N) (hQ : SimQ q r N I G O) : (Gp r G I → f_X10_isGathered r = some 1) ∧ (¬ Gp r G I → f_X10_isGathered r = some 0) := by
  have hG := hQ.2.2.2.2.1
  have hI := hQ.1
  have main : ∃ z', f_X10_isGathered r = some z' ∧ (Gp r G I → z' = 1) ∧ (¬ Gp r G I → z' = 0) := by
    unfold f_X10_isGathered f_X10_isGathered_0 f_X10_isGathered_12
    rw [hQ.2.2.2.2.2.2.1]
    by_cases h0 : G = 0
    · subst h0
      rw [if_pos (by decide)]
      exact ig_loop hN hQ FU 0 0 (Nat.zero_le _) (by show I - 0 < 100000; omega) (Or.inl rfl) ⟨fun h => absurd h (by decide), fun h => by rcases h with h | ⟨j', h1, -⟩ <;> omega⟩
    · rw [if_neg (show ¬ nI G ≤ (0 : Int32) from nI_ge (a := 0) (by omega) (by omega))]
      exact ig_loop hN hQ FU 0 1 (Nat.zero_le _) (by show I - 0 < 100000; omega) (Or.inr rfl) ⟨fun _ => Or.inl (by omega), fun _ => rfl⟩
  obtain ⟨z, h1, h2, h3⟩ := main
  exact ⟨fun h => by rw [h1, h2 h], fun h => by rw [h1, h3 h]⟩
/-- an aggregate below a node that holds one -/
theorem agg_below {S T N : Nat} {q0 r : QS} {J P : Nat → Prop} (hN : SimN q0 r S T N) (h : Rch r J P N) : ∀ n k, k < n → k < N → P k → qI r 15 k = 1 → ∃ k', k' < N ∧ P k' ∧ 5 ≤ nK r k' ∧ nK r k' ≤ 9 := by
  intro n
  induction n with
  | zero => intro k h; omega
  | succ n ih =>
    intro k hk hkN hP h1
    have hn := hN.2.2.2 k hkN
    obtain ⟨b1, -, -, -, -, -, b7, -, -, -, b11, b12, b13, b14⟩ := id hn
    by_cases c4 : nK r k < 4
    · have := (b11 c4).2.1; rw [this] at h1; exact absurd h1 (by decide)
    by_cases c5 : nK r k = 4
    · have := (b12 c5).1; rw [this] at h1; exact absurd h1 (by decide)
    by_cases c9 : nK r k ≤ 9
    · exact ⟨k, hkN, hP, by omega, c9⟩
    obtain ⟨d1, d2, d3, d4, d5, d6, d7, d8⟩ := b14 (by omega)
    by_cases ht : two (nK r k)
    · obtain ⟨e1, e2, e3, e4, e5⟩ := d6 ht
      rcases e5.mp h1 with x | x
      · exact ih (nA r k) (by omega) (by omega) (h.2.1 k _ hkN hP ⟨by omega, Or.inl rfl⟩) x
      · exact ih (nB r k) (by omega) (by omega) (h.2.1 k _ hkN hP ⟨by omega, Or.inr ⟨ht, rfl⟩⟩) x
    · obtain ⟨e1, e2, e3, e4⟩ := d7 ht
      rcases e4.mp h1 with x | x
      · omega
      · exact ih (nA r k) (by omega) (by omega) (h.2.1 k _ hkN hP ⟨by omega, Or.inl rfl⟩) x
theorem c_grp {q r : QS} {S T N I G O : Nat} {P1 P2 : Nat → Prop} (hN : SimN q r S T N) (hQ : SimQ q r N I G O) (hp : Pl q r N I P1 P2) : (Gp r G I → f_X6_isGrouped q = some 1) ∧ (¬ Gp r G I → f_X6_isGrouped q = some 0) := by
  obtain ⟨-, hrc, -, -, A, ag, hA, h13, hag, hmo, hco⟩ := hp
  have hG := hQ.2.2.2.2.1
  unfold f_X6_isGrouped f_X6_isGrouped_0
  rw [hQ.2.2.2.2.2.1, h13]
  have key : 0 < A ↔ ∃ j, j < I ∧ qI r 15 (itn r j) = 1 := by
    constructor
    · intro h0
      refine Classical.byContradiction (fun hno => ?_)
      obtain ⟨a1, a2, a3, a4, a5⟩ := hag 0 h0
      have z := Rch.z15 hN hrc (fun k hk ⟨j, j1, j2⟩ => by
        rcases (hN.2.2.2 k hk).2.2.2.2.2.2.1 with e | e
        · exact e
        · exact absurd ⟨j, j1, by rw [← j2]; exact e⟩ hno) (N + 1) (ag 0) (by omega) a2 a3
      rw [agg1 (hN.2.2.2 _ a2) a4 a5] at z
      exact absurd z (by decide)
    · intro ⟨j, j1, j2⟩
      have hit := (hQ.it j1).1
      obtain ⟨k', k1, k2, k3, k4⟩ := agg_below hN hrc (itn r j + 1) (itn r j) (by omega) hit (hrc.1 _ ⟨j, j1, rfl⟩) j2
      obtain ⟨j0, j0h, -⟩ := hco k' k1 k2 k3 k4
      omega
  by_cases h0 : 0 < G
  · rw [if_pos (show (0 : Int32) < nI G from nI_lt (a := 0) h0 (by omega))]
    exact ⟨fun _ => rfl, fun h => absurd (Or.inl h0) h⟩
  · have e0 : G = 0 := by omega
    subst e0
    rw [if_neg (by decide)]
    by_cases ha : A = 0
    · subst ha
      rw [if_pos (by decide)]
      refine ⟨fun h => ?_, fun _ => rfl⟩
      rcases h with h | h
      · omega
      · exact absurd (key.mpr h) (by omega)
    · rw [if_neg (show ¬ nI A ≤ (0 : Int32) from nI_ge (a := 0) (by omega) (by omega))]
      exact ⟨fun _ => rfl, fun h => absurd (Or.inr (key.mp (by omega))) h⟩
theorem Gp.same {r r' : QS} {G I : Nat} (h : SameB r r') (h26 : qI r' 26 = qI r 26) : Gp r' G I ↔ Gp r G I := by
  unfold Gp itn
  rw [(h 15 (by decide)).1, h26]
/-- all rows, on both sides -/
def RowsOk (q r : QS) (C R : Nat) (g : Nat → List Nat) : Prop := ∀ ρ, ρ < R → Chain (qI q 51) (qI q 52 ρ) (g ρ) ∧ Chain (qI r 31) (qI r 32 ρ) (g ρ) ∧ (∀ x, x ∈ g ρ → x < C) ∧ (g ρ).length ≤ C
theorem rows_of {q r : QS} {C R : Nat} {g : Nat → List Nat} (hq : QRi q C R g) (hr : RRi r C R g) : RowsOk q r C R g ∧ ∀ ρ, ρ < R → g ρ ≠ [] := by
  refine ⟨fun ρ hρ => ?_, fun ρ hρ e => ?_⟩
  · obtain ⟨i, y, a1, a2, a3, a4, a5, a6, -⟩ := hq.2 ρ hρ
    obtain ⟨i', y', -, b2, -⟩ := hr.1.2 ρ hρ
    exact ⟨a2, b2, a4, a6⟩
  · obtain ⟨i, y, a1, -⟩ := hq.2 ρ hρ
    rw [e] at a1
    cases i <;> cases a1
theorem RI0 {nx fi la : Nat → Int32} {g : Nat → List Nat} : RI nx fi la 0 0 g := ⟨Nat.le_refl _, fun ρ h => by omega⟩
set_option maxHeartbeats 1000000 in
theorem mk_rows {q r : QS} {S T N I G O C cap : Nat} {cr : Nat → Nat → Nat} {P1 P2 : Nat → Prop} (hR : Rc q r S T N I C cap cr P1 P2) (hQ : SimQ q r N I G O) (hcx : Cx q r S T N C cr) (hF9 : qF r 9 = nI C) (h0 : 0 < cap) : ∃ q' r' R g, f_X6_makeRows q (nI C) = some (nI R, q') ∧ f_X10_makeRows r = some r' ∧ OnRq q q' ∧ OnRw r r' ∧ R ≤ cap ∧ qF r' 10 = nI R ∧ RowsOk q' r' C R g ∧ ∀ ρ, ρ < R → g ρ = [] → Gp r G I ∧ G = 0 := by
  obtain ⟨hCc, hc2, h12, hqC⟩ := hR.facts
  have hN := hR.2.2.1
  have hp := hR.2.2.2.1
  obtain ⟨g1, g2⟩ := c_grp hN hQ hp
  obtain ⟨r1, r2⟩ := r_gath hN hQ
  have hG := hQ.2.2.2.2.1
  have hF7 := hQ.2.2.2.2.2.1
  have hF5 := hQ.2.2.2.2.2.2.1
  have o0 : OnRw r (uF r 10 0) := OnRw.f
  unfold f_X6_makeRows f_X6_makeRows_0 f_X10_makeRows f_X10_makeRows_0
  by_cases hg : Gp r G I
  · rw [g1 hg, r1 hg, Option.bind_some, Option.bind_some, if_neg i1, hF7]
    by_cases hG0 : G = 0
    · have e7 : nI G = (0 : Int32) := by rw [hG0]; rfl
      rw [if_pos e7]
      unfold f_X6_makeOneRow f_X6_makeOneRow_0
      by_cases hC0 : C = 0
      · have eC : nI C = (0 : Int32) := by rw [hC0]; rfl
        rw [if_pos eC]
        unfold f_X6_makeOneRow_14 f_X5_startRow f_X5_startRow_0
        have w1 : wI q 52 (qC q) 0 (-1) = some (uI q 52 0 (-1)) := wI_nI (j := 0) (by omega) (by omega)
        have w2 : wI (uI q 52 0 (-1)) 53 (qC (uI q 52 0 (-1))) 0 (-1) = some (uI (uI q 52 0 (-1)) 53 0 (-1)) := wI_nI (j := 0) (by rw [qC_uI]; omega) (by rw [qC_uI]; omega)
        rw [w1, Option.bind_some, w2, Option.bind_some, if_pos rfl, Option.bind_some, show FU = 99999 + 1 from rfl, f_X6_makeOneRow_19, f_X6_makeOneRow_19_b, eC, if_pos (by decide), Option.bind_some, f_X10_makeRows_12, f_X10_makeRows_12_b]
        rw [show qF (uF r 10 0) 9 = nI C from hF9, eC, if_pos (by decide)]
        unfold f_X10_makeRows_143
        rw [if_neg i1, show qF (uF r 10 0) 5 = nI G from hF5, if_pos e7, if_pos (show qF (uF r 10 0) 10 = 0 from rfl), show vp_nar .short (-1 : Int32) = -1 from rfl]
        have w3 : wI (uF r 10 0) 32 2000 0 (-1) = some (uI (uF r 10 0) 32 0 (-1)) := wI_nI (j := 0) (by decide) (by decide)
        rw [w3, Option.bind_some]
        refine ⟨uI (uI q 52 0 (-1)) 53 0 (-1), uF (uI (uF r 10 0) 32 0 (-1)) 10 1, 1, fun _ => [], rfl, rfl, ⟨fun k hk => ?_, rfl, rfl, rfl⟩, (o0.trans (OnRw.i (by decide))).trans OnRw.f, by omega, rfl, fun ρ hρ => ?_, fun _ _ _ => ⟨hg, hG0⟩⟩
        · rw [qI_uI, if_neg (by omega), qI_uI, if_neg (by omega)]
        · have e : ρ = 0 := by omega
          subst e
          exact ⟨rfl, rfl, (fun x hx => by cases hx), by simp⟩
      · rw [if_neg (show ¬ nI C = (0 : Int32) from cNe (c := 0) hC0 (by omega) (by decide))]
        unfold f_X6_makeOneRow_14
        obtain ⟨q2, a1, a2, a3, a4, a5, a6⟩ := c_startRow (q := q) (R := 0) (c := 0) hqC hc2 h0 h0
        have a1' : f_X5_startRow q 0 0 = some q2 := a1
        rw [a1', Option.bind_some]
        have hr0 : RRi (uF r 10 0) 0 0 (fun _ => []) := ⟨RI0, rfl⟩
        have hq0 : QRi q 0 0 (fun _ => []) := RI0
        rcases r_rstep (q0 := q) (fu := 99999) (K := f_X10_makeRows_143) (o0.Q hQ) (hcx.rw o0) (show qF (uF r 10 0) 9 = nI C from hF9) (show 0 < C by omega) hr0 with ⟨r3, b1, b2, b3, b4⟩ | ⟨r3, ρ0, b1, b2, b3, -⟩
        · have hq2 : QRi q2 1 1 (fun ρ => if ρ = 0 then [0] else []) := by
            unfold QRi
            rw [a3, a4, a5]; exact RI.new hq0
          obtain ⟨q', r', g', d1, d2, d3, d4, d5, d6⟩ := one_loop (q0 := q) (r0 := r) (K := f_X10_makeRows_143) hG0 hCc hc2 h0 99999 q2 r3 1 _ (b2.Q (o0.Q hQ)) ((hcx.rw o0).rw b2) (by rw [a2.2.2.2]; exact hqC) (by rw [b2.2.1 9 (by decide)]; exact hF9) (Nat.le_refl _) (by omega) (by omega) hq2 b3
          have d1' : f_X6_makeOneRow_19 FU q2 (nI C) 1 = some (1, q') := d1
          have b1' : f_X10_makeRows_12 f_X10_makeRows_143 FU (uF r 10 0) 1 0 = f_X10_makeRows_12 f_X10_makeRows_143 99999 r3 1 (nI 1) := b1
          rw [d1', Option.bind_some, b1', d2]
          unfold f_X10_makeRows_143
          obtain ⟨e1, e2⟩ := rows_of d5 d6
          refine ⟨q', r', 1, g', rfl, ?_, a2.trans d3, (o0.trans b2).trans d4, by omega, d6.2, e1, fun ρ hρ e => absurd e (e2 ρ hρ)⟩
          rw [if_neg i1, d6.2, if_neg (show ¬ nI 1 = (0 : Int32) by decide)]
          split <;> rfl
        · omega
    · rw [if_neg (show ¬ nI G = (0 : Int32) from cNe (c := 0) hG0 (by omega) (by decide))]
      unfold f_X6_makeRowForEachGroup f_X6_makeRowForEachGroup_0
      obtain ⟨q2, a1, a2, a3, a4, a5, a6⟩ := c_empty hqC hc2
      rw [a1, Option.bind_some]
      have oq : OnRq q q2 := ⟨fun k hk => a2 k (by omega), a3, a4, a5⟩
      obtain ⟨q', r', g', R', d1, d2, d3, d4, d5, d6⟩ := grp_loop (q0 := q) (r0 := r) (K := f_X10_makeRows_143) h0 FU q2 (uF r 10 0) 0 0 (fun _ => []) o0 (oq.run.Q hQ) (hR.rq oq) (o0.Q hQ) (hcx.rw o0) hF9 (Nat.zero_le _) (by show C - 0 < 100000; omega) RI0 ⟨RI0, rfl⟩ (a6 _ _) (fun _ _ h => by omega)
      have d1' : f_X6_makeRowForEachGroup_11 FU q2 (nI C) 0 0 = some (nI R', q') := d1
      have d2' : f_X10_makeRows_12 f_X10_makeRows_143 FU (uF r 10 0) 1 0 = f_X10_makeRows_143 r' 1 := d2
      rw [d1', Option.bind_some, d2']
      unfold f_X10_makeRows_143
      obtain ⟨e1, e2⟩ := rows_of d5 d6
      refine ⟨q', r', R', g', rfl, ?_, oq.trans d3, o0.trans d4, by have := d5.1; omega, d6.2, e1, fun ρ hρ e => absurd e (e2 ρ hρ)⟩
      rw [if_neg i1, d4.2.1 5 (by decide), show qF (uF r 10 0) 5 = nI G from hF5, if_neg (show ¬ nI G = (0 : Int32) from cNe (c := 0) hG0 (by omega) (by decide))]
  · rw [g2 hg, r2 hg, Option.bind_some, Option.bind_some, if_pos rfl]
    unfold f_X6_makeRowForEach f_X6_makeRowForEach_0
    obtain ⟨q', r', g', d1, d2, d3, d4, d5, d6⟩ := each_loop (K := f_X10_makeRows_143) hCc hc2 FU q (uF r 10 0) 0 (fun _ => []) hqC hF9 (Nat.zero_le _) (by show C - 0 < 100000; omega) RI0 ⟨RI0, rfl⟩
    have d1' : f_X6_makeRowForEach_2 FU q (nI C) 0 = some (nI C, q') := d1
    have d2' : f_X10_makeRows_12 f_X10_makeRows_143 FU (uF r 10 0) 0 0 = f_X10_makeRows_143 r' 0 := d2
    rw [d1', Option.bind_some, d2']
    unfold f_X10_makeRows_143
    obtain ⟨e1, e2⟩ := rows_of d5 d6
    exact ⟨q', r', C, g', rfl, by rw [if_pos rfl], d3, o0.trans d4, hCc, d6.2, e1, fun ρ hρ e => absurd e (e2 ρ hρ)⟩
