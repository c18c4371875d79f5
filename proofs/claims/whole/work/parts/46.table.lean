/-! table -/
theorem dig_tab {q r q' r' : QS} {S T t w : Nat} {x : Int32} (hS : SOk r S) (ht : t < T) (h : TabOk q r S t) (d8 : Dig 8 T x 0 w r r')
    (g26 : qI q' 26 t = qI q 26 t) (g28 : qI q' 28 t = qI q 28 t) (g27 : ∀ c, c < 8 → qI q' 27 (t * 8 + c) = qI q 27 (t * 8 + c)) (g4 : qI q' 4 = qI q 4) (g5 : qL q' 5 = qL q 5) : TabOk q' r' S t := by
  obtain ⟨e1, e2, e3, e4, e5⟩ := d8
  have hto : SameTo S r r' := fun s _ => ⟨by rw [e1 1 (by decide)], by rw [e1 3 (by decide)], by rw [e1 4 (by decide)], by rw [e1 5 (by decide)], by rw [e2]⟩
  exact h.at hS hto (by rw [e1 7 (by decide)]) (by rw [e1 9 (by decide)]) (fun c hc => by rw [e5, if_neg (by omega)]) g26 g28 g27 (fun row c _ _ => by rw [e1 10 (by decide)]) (fun row c x _ _ hx => VC_congr (v := 1) g4 g5 hx)
theorem st_1 {κ n : Nat} {q r : QS} (h : Sim κ n q r) (x y : Int32) : ∃ a q' r', f_X9_table q x y = some (a, q') ∧ f_X10_table r x y = some (a, r') ∧ Sim κ n q' r' := by
  have hsim := h
  obtain ⟨S, T, N, I, G, O, K, I', hS, hnS, hf, hH, hT, hN, hQ, hA, hC⟩ := h
  obtain ⟨t1, t2, t3, t4⟩ := id hT
  unfold f_X9_table f_X9_table_0 f_X7_create f_X7_create_0 f_X10_table f_X10_table_0
  rw [t2, t3]
  by_cases h3 : T = 3
  · subst h3
    refine ⟨-1, q, r, ?_, ?_, hsim⟩
    · rw [if_pos (show (3 : Int32) ≤ nI 3 by decide)]; rfl
    · rw [if_pos (show nI 3 = (3 : Int32) from rfl)]
  rw [if_neg (show ¬ (3 : Int32) ≤ nI T from nI_ge (b := 3) (by omega) (by decide)), if_neg (show ¬ nI T = (3 : Int32) from cNe (c := 3) h3 (by omega) (by decide))]
  unfold f_X7_areTypes f_X7_areTypes_0
  by_cases hx1 : x < 1
  · refine ⟨-1, q, r, ?_, ?_, hsim⟩
    · rw [if_pos hx1]; rfl
    · rw [f_in_no (Or.inl hx1)]; rfl
  by_cases hx8 : (8 : Int32) < x
  · refine ⟨-1, q, r, ?_, ?_, hsim⟩
    · rw [if_neg hx1, if_pos hx8]; rfl
    · rw [f_in_no (Or.inr hx8)]; rfl
  rw [if_neg hx1, if_neg hx8, f_in_yes hx1 hx8]
  simp only [Option.bind_some, if_neg i1]
  by_cases hy : 0 ≤ y
  rotate_left
  · refine ⟨-1, q, r, ?_, ?_, hsim⟩
    · rw [if_neg hy]; rfl
    · rw [if_neg hy]
  rw [if_pos hy, if_pos hy]
  obtain ⟨w, hw1, hw8, rfl⟩ : ∃ w, 1 ≤ w ∧ w ≤ 8 ∧ x = nI w := by
    rcases ix_cases x 9 (by decide) with hx | ⟨w, hw, rfl⟩
    · exfalso
      rw [i32_lt] at hx1 hx8
      rw [i32_lt, i32_le, nI_toInt (by decide)] at hx
      have e0 : (0 : Int32).toInt = 0 := rfl
      have e1 : (1 : Int32).toInt = 1 := rfl
      have e8 : (8 : Int32).toInt = 8 := rfl
      omega
    · refine ⟨w, ?_, by omega, rfl⟩
      rcases Nat.eq_zero_or_pos w with h | h
      · subst h; exact absurd (show nI 0 < (1 : Int32) by decide) hx1
      · exact h
  obtain ⟨l1, l2⟩ := at_loop (x := y) hw8 FU 0 (Nat.zero_le _) (by show w - 0 < 100000; omega)
  obtain ⟨q1, c1, c2⟩ := create_loop (x := y) (K := f_X7_create_59) hw8 (show T < 3 by omega) FU q 0 t2 (Nat.zero_le _) (by show w - 0 < 100000; omega)
  obtain ⟨r1, z, m1, m2, m3, m4⟩ := tab_loop (x := y) (K := f_X10_table_92) hw8 (show T < 3 by omega) FU r 1 0 (Or.inr rfl) t3 (Nat.zero_le _) (by show w - 0 < 100000; omega)
  have l1' : _ → f_X7_areTypes_21 FU (nI w) y 0 = some 1 := l1
  have l2' : _ → f_X7_areTypes_21 FU (nI w) y 0 = some 0 := l2
  have c1' : f_X7_create_23 f_X7_create_59 FU q (nI w) y 0 = f_X7_create_59 q1 (nI w) := c1
  have m1' : f_X10_table_32 f_X10_table_92 FU r (nI w) y 1 0 = f_X10_table_92 r1 (nI w) z := m1
  rw [c1', m1']
  by_cases hg : ∀ j, 0 ≤ j → j < w → okd (dgt y j)
  · rw [l1' hg, m3 ⟨rfl, hg⟩]
    unfold f_X7_create_59 f_X10_table_92
    obtain ⟨a1, a2, a3, a4, a5⟩ := c2
    obtain ⟨b1, b2, b3, b4, b5⟩ := id m2
    simp only [Option.bind_some, if_neg i1]
    rw [a3, b3, t2, t3, wI_nI (by omega) (by decide), wI_nI (by omega) (by decide)]
    simp only [Option.bind_some]
    rw [show qF (uI q1 26 T (nI w)) 14 = nI T by rw [qF_uI, a3]; exact t2, show qF (uI r1 7 T (nI w)) 1 = nI T by rw [qF_uI, b3]; exact t3, wI_nI (by omega) (by decide), wI_nI (by omega) (by decide)]
    simp only [Option.bind_some]
    rw [show qF (uI (uI q1 26 T (nI w)) 28 T 0) 14 = nI T by rw [qF_uI, qF_uI, a3]; exact t2, show qF (uI (uI r1 7 T (nI w)) 9 T 0) 1 = nI T by rw [qF_uI, qF_uI, b3]; exact t3, nI_1, show qF (uF (uI (uI r1 7 T (nI w)) 9 T 0) 1 (nI (T + 1))) 1 = nI (T + 1) from rfl, nI_pred]
    refine ⟨nI T, _, _, rfl, rfl, ?_⟩
    have hgI : ∀ k, k ≠ 26 → k ≠ 27 → k ≠ 28 → qI (uF (uI (uI q1 26 T (nI w)) 28 T 0) 14 (nI (T + 1))) k = qI q k := fun k h1 h2 h3 => by
      rw [qI_uF, qI_uI, if_neg h3, qI_uI, if_neg h1, a1 k h2]
    have heI : ∀ k, k ≠ 7 → k ≠ 8 → k ≠ 9 → qI (uF (uI (uI r1 7 T (nI w)) 9 T 0) 1 (nI (T + 1))) k = qI r k := fun k h1 h2 h3 => by
      rw [qI_uF, qI_uI, if_neg h3, qI_uI, if_neg h1, b1 k h2]
    have h26 : qI (uF (uI (uI q1 26 T (nI w)) 28 T 0) 14 (nI (T + 1))) 26 = upd (qI q 26) T (nI w) := by
      rw [qI_uF, qI_uI, if_neg (by decide), qI_uI, if_pos rfl, a1 26 (by decide)]
    have h28 : qI (uF (uI (uI q1 26 T (nI w)) 28 T 0) 14 (nI (T + 1))) 28 = upd (qI q 28) T 0 := by
      rw [qI_uF, qI_uI, if_pos rfl, qI_uI, if_neg (by decide), a1 28 (by decide)]
    have h27 : qI (uF (uI (uI q1 26 T (nI w)) 28 T 0) 14 (nI (T + 1))) 27 = qI q1 27 := rfl
    have k7 : qI (uF (uI (uI r1 7 T (nI w)) 9 T 0) 1 (nI (T + 1))) 7 = upd (qI r 7) T (nI w) := by
      rw [qI_uF, qI_uI, if_neg (by decide), qI_uI, if_pos rfl, b1 7 (by decide)]
    have k9 : qI (uF (uI (uI r1 7 T (nI w)) 9 T 0) 1 (nI (T + 1))) 9 = upd (qI r 9) T 0 := by
      rw [qI_uF, qI_uI, if_pos rfl, qI_uI, if_neg (by decide), b1 9 (by decide)]
    have k8 : qI (uF (uI (uI r1 7 T (nI w)) 9 T 0) 1 (nI (T + 1))) 8 = qI r1 8 := rfl
    have hl : qL (uF (uI (uI q1 26 T (nI w)) 28 T 0) 14 (nI (T + 1))) = qL q := a2
    have hl' : qL (uF (uI (uI r1 7 T (nI w)) 9 T 0) 1 (nI (T + 1))) = qL r := b2
    have hF : ∀ k, k ≠ 14 → qF (uF (uI (uI q1 26 T (nI w)) 28 T 0) 14 (nI (T + 1))) k = qF q k := fun k hk => by rw [qF_uF, if_neg hk, qF_uI, qF_uI, a3]
    have hF' : ∀ k, k ≠ 1 → qF (uF (uI (uI r1 7 T (nI w)) 9 T 0) 1 (nI (T + 1))) k = qF r k := fun k hk => by rw [qF_uF, if_neg hk, qF_uI, qF_uI, b3]
    have hF14 : qF (uF (uI (uI q1 26 T (nI w)) 28 T 0) 14 (nI (T + 1))) 14 = nI (T + 1) := rfl
    have hF1 : qF (uF (uI (uI r1 7 T (nI w)) 9 T 0) 1 (nI (T + 1))) 1 = nI (T + 1) := rfl
    have hCC : qC (uF (uI (uI q1 26 T (nI w)) 28 T 0) 14 (nI (T + 1))) = qC q := a4
    generalize uF (uI (uI q1 26 T (nI w)) 28 T 0) 14 (nI (T + 1)) = q' at hgI h26 h28 h27 hl hF hF14 hCC
    generalize uF (uI (uI r1 7 T (nI w)) 9 T 0) 1 (nI (T + 1)) = r' at heI k7 k9 k8 hl' hF' hF1
    refine Sim_tab hS hnS hf hH hT hN hQ hA hC (T' := T + 1) (by omega) (by omega) hF14 hF1 (fun k a b c d => hgI k b c d) (fun k _ => by rw [hl]) hF hCC (fun k a b c d => heI k a b c) hl' hF' (fun t ht => by rw [k7, upd_at, if_neg (by omega)]) (fun t c ht hc => by rw [k8, b5, if_neg (by omega)]) (fun t ht => ?_)
    have hto : SameTo S r r' := fun s _ => ⟨by rw [heI 1 (by decide) (by decide) (by decide)], by rw [heI 3 (by decide) (by decide) (by decide)], by rw [heI 4 (by decide) (by decide) (by decide)], by rw [heI 5 (by decide) (by decide) (by decide)], by rw [hl']⟩
    by_cases e : t = T
    · subst e
      have w1 : tW r' t = w := by unfold tW; rw [k7, upd_at, if_pos rfl]; exact nI_clamp (by omega)
      have w2 : tR r' t = 0 := by unfold tR; rw [k9, upd_at, if_pos rfl]; rfl
      unfold TabOk
      rw [w1, w2]
      refine ⟨hw1, hw8, by decide, by rw [k7, upd_at, if_pos rfl], by rw [h26, upd_at, if_pos rfl], by rw [k9, upd_at, if_pos rfl]; rfl, by rw [h28, upd_at, if_pos rfl]; rfl, fun c hc => ?_, fun row c h0 => by omega⟩
      obtain ⟨d, d1, d3, d2⟩ := okd_n (hg c (Nat.zero_le _) hc)
      have y1 : qI r' 8 (8 * t + c) = nI d := by rw [k8, b5, if_pos (by omega), show 8 * t + c - 8 * t = c by omega, d2]
      have y2 : qI q' 27 (t * 8 + c) = nI d := by rw [h27, a5, if_pos (by omega), show t * 8 + c - 8 * t = c by omega, d2]
      have y3 : tY r' t c = d := by unfold tY; rw [y1]; exact nI_clamp (by omega)
      rw [y3]
      exact ⟨d1, d3, y1, y2⟩
    · refine (t4 t (by omega)).at hS hto (by rw [k7, upd_at, if_neg e]) (by rw [k9, upd_at, if_neg e]) (fun c hc => by rw [k8, b5, if_neg (by omega)]) (by rw [h26, upd_at, if_neg e]) (by rw [h28, upd_at, if_neg e]) (fun c hc => by rw [h27, a5, if_neg (by omega)]) (fun row c _ _ => by rw [heI 10 (by decide) (by decide) (by decide)]) (fun row c x _ _ hx => VC_congr (v := 1) (hgI 4 (by decide) (by decide) (by decide)) (by rw [hl]) hx)
  · rw [l2' hg, m4 (fun h => hg h.2)]
    refine ⟨-1, q, r1, ?_, ?_, ?_⟩
    · rfl
    · unfold f_X10_table_92; rw [if_pos rfl]
    obtain ⟨b1, b2, b3, b4, b5⟩ := id m2
    exact Sim_tab hS hnS hf hH hT hN hQ hA hC (Nat.le_refl T) t1 t2 (by rw [b3]; exact t3) (fun k _ _ _ _ => rfl) (fun k _ => rfl) (fun k _ => rfl) rfl (fun k _ h8 _ _ => b1 k h8) b2 (fun k _ => by rw [b3]) (fun t _ => by rw [b1 7 (by decide)]) (fun t c ht hc => by rw [b5, if_neg (by omega)]) (fun t ht => dig_tab hS ht (t4 t ht) m2 rfl rfl (fun _ _ => rfl) rfl rfl)
