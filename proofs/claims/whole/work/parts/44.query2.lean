theorem OnlyQ.trans {q q1 q2 : QS} (h : OnlyQ q q1) (g : OnlyQ q1 q2) : OnlyQ q q2 := ⟨fun k hk => (g.1 k hk).trans (h.1 k hk), g.2.1.trans h.2.1, fun k hk => (g.2.2.1 k hk).trans (h.2.2.1 k hk), g.2.2.2.trans h.2.2.2⟩
theorem OnlyQ.i {q : QS} {k j : Nat} {x : Int32} (h1 : 39 ≤ k) (h2 : k ≤ 43) : OnlyQ q (uI q k j x) := ⟨fun z hz => by rw [qI_uI, if_neg (by omega)], rfl, fun _ _ => rfl, rfl⟩
theorem OnlyQr.trans {q q1 q2 : QS} (h : OnlyQr q q1) (g : OnlyQr q1 q2) : OnlyQr q q2 := ⟨fun k hk => (g.1 k hk).trans (h.1 k hk), g.2.1.trans h.2.1, fun k hk => (g.2.2 k hk).trans (h.2.2 k hk)⟩
theorem OnlyQr.i {q : QS} {k j : Nat} {x : Int32} (h1 : 26 ≤ k) (h2 : k ≤ 29) : OnlyQr q (uI q k j x) := ⟨fun z hz => by rw [qI_uI, if_neg (by omega)], rfl, fun _ _ => rfl⟩
theorem nt_nI {n : Nat} (h : n < 2 ^ 31) : nt (nI n) = n := nI_clamp h
theorem sf1 : vp_nar .boolean (1 : Int32) = 1 := rfl
theorem sf0 : vp_nar .boolean (0 : Int32) = 0 := rfl
theorem st_12 {κ n : Nat} {q r : QS} (h : Sim κ n q r) (x : Int32) : ∃ a q' r', f_X9_item q x = some (a, q') ∧ f_X10_item r x = some (a, r') ∧ Sim κ n q' r' := by
  have hsim := h
  obtain ⟨S, T, N, I, G, O, K, I', hS, hnS, hf, hH, hT, hN, hQ, hA, hC⟩ := h
  have h200 := hN.1
  unfold f_X9_item f_X9_item_0 f_X10_item f_X10_item_0
  rcases ix_cases x N (by omega) with hx | ⟨i, hi, rfl⟩
  · refine ⟨-1, q, r, ?_, ?_, hsim⟩
    · rw [has_no hN.2.1 hx, Option.bind_some, if_pos rfl]
    · rw [hN.2.2.1, in_no (by omega) hx, Option.bind_some, if_pos rfl]
  · obtain ⟨b1, b2, b3, b4, b5, b6, b7, b8, b9, b10, b11, b12, b13, b14, b15, b16, b17, b18⟩ := hQ
    rw [has_yes hN.2.1 hi (by omega), hN.2.2.1, in_yes (by omega) hi]
    simp only [Option.bind_some, if_neg i1]
    unfold f_X4_addItem f_X4_addItem_0
    rw [b2, b3]
    by_cases h8 : I = 8
    · subst h8
      refine ⟨-1, q, r, ?_, ?_, hsim⟩
      · rw [if_neg (by decide)]; rfl
      · rw [if_pos (show nI 8 = (8 : Int32) from rfl)]
    · refine ⟨nI I, uF (uI q 39 I (nI i)) 6 (nI (I + 1)), uF (uI r 26 I (nI i)) 4 (nI (I + 1)), ?_, ?_, ?_⟩
      · rw [if_pos (show nI I < (8 : Int32) from nI_lt (b := 8) (by omega) (by decide)), wI_nI (by omega) (by decide), Option.bind_some, Option.bind_some, show qF (uI q 39 I (nI i)) 6 = nI I from b2, nI_1]
      · rw [if_neg (show ¬ nI I = (8 : Int32) from cNe (c := 8) h8 (by omega) (by decide)), wI_nI (by omega) (by decide), Option.bind_some, show qF (uI r 26 I (nI i)) 4 = nI I from b3, nI_1]
        show some (nI (I + 1) - 1, _) = _
        rw [nI_pred]
      · refine Sim_q hS hnS hf hH hT hN hA hC ((OnlyQ.i (by decide) (by decide)).trans (OnlyQ.f (by decide) (by decide))) ((OnlyQr.i (by decide) (by decide)).trans (OnlyQr.f (by decide) (by decide))) (I := I + 1) (G := G) (O := O) ?_
        refine ⟨by omega, rfl, rfl, fun j hj => ?_, b5, b6, b7, b8, b9, b10, b11, fun o ho => ⟨by have := (b12 o ho).1; show nt (qI r 28 o) < I + 1; omega, (b12 o ho).2⟩, b13, b14, b15, b16, b17, b18⟩
        show nt (upd (qI r 26) I (nI i) j) < N ∧ upd (qI r 26) I (nI i) j = nI (nt (upd (qI r 26) I (nI i) j)) ∧ upd (qI q 39) I (nI i) j = upd (qI r 26) I (nI i) j
        rw [upd_at, upd_at]
        by_cases e : j = I
        · rw [if_pos e, if_pos e, nt_nI (by omega)]; exact ⟨hi, rfl, rfl⟩
        · rw [if_neg e, if_neg e]; exact b4 j (by omega)
theorem st_13 {κ n : Nat} {q r : QS} (h : Sim κ n q r) (x : Int32) : ∃ a q' r', f_X9_group q x = some (a, q') ∧ f_X10_group r x = some (a, r') ∧ Sim κ n q' r' := by
  have hsim := h
  obtain ⟨S, T, N, I, G, O, K, I', hS, hnS, hf, hH, hT, hN, hQ, hA, hC⟩ := h
  have h200 := hN.1
  have e36 : ∀ x, f_X10_group_36 r x = some (0, r) := fun x => by
    unfold f_X10_group_36 f_X10_group_37
    rw [if_pos rfl, if_pos sf0]
  unfold f_X9_group f_X9_group_0 f_X10_group f_X10_group_0
  rcases ix_cases x N (by omega) with hx | ⟨i, hi, rfl⟩
  · refine ⟨0, q, r, ?_, ?_, hsim⟩
    · rw [has_no hN.2.1 hx, Option.bind_some, if_pos rfl]
    · rw [hN.2.2.1, in_no (by omega) hx, Option.bind_some, if_pos rfl, e36]
  · obtain ⟨b1, b2, b3, b4, b5, b6, b7, b8, b9, b10, b11, b12, b13, b14, b15, b16, b17, b18⟩ := hQ
    have hnod := hN.2.2.2 i hi
    obtain ⟨a1, a2, a3, -⟩ := id hnod
    rw [has_yes hN.2.1 hi (by omega), hN.2.2.1, in_yes (by omega) hi]
    simp only [Option.bind_some, if_neg i1]
    rw [rd_nI (f := qI q 30) (by omega) (by decide), rd_nI (f := qI r 11) (by omega) (by decide), a2, a3, e36]
    simp only [Option.bind_some]
    by_cases k4 : nK r i = 4
    · obtain ⟨d1, d2, d3, d4, d5, d6, d7, d8, -⟩ := hnod.2.2.2.2.2.2.2.2.2.2.2.1 k4
      rw [k4]
      rw [if_pos (show nI 4 = (4 : Int32) from rfl), if_pos (show nI 4 = (4 : Int32) from rfl), rd_nI (f := qI q 34) (by omega) (by decide), rd_nI (f := qI q 35) (by omega) (by decide), d6, d7]
      simp only [Option.bind_some]
      unfold f_X4_addGroup f_X4_addGroup_0
      rw [b6, b7]
      by_cases h4 : G = 4
      · subst h4
        refine ⟨0, q, r, ?_, ?_, hsim⟩
        · rw [if_neg (by decide)]; simp only [Option.bind_some]; rw [if_pos sf0]
        · rw [if_pos (by decide)]
      · refine ⟨1, uF (uI (uI q 40 G (nI (nA r i))) 41 G (nI (nB r i))) 7 (nI (G + 1)), uF (uI r 27 G (nI i)) 5 (nI (G + 1)), ?_, ?_, ?_⟩
        · rw [if_pos (show nI G < (4 : Int32) from nI_lt (b := 4) (by omega) (by decide)), wI_nI (by omega) (by decide), Option.bind_some, show qF (uI q 40 G (nI (nA r i))) 7 = nI G from b6, wI_nI (by omega) (by decide), Option.bind_some, show qF (uI (uI q 40 G (nI (nA r i))) 41 G (nI (nB r i))) 7 = nI G from b6, nI_1, Option.bind_some, if_pos sf1]
        · rw [if_neg (show ¬ (4 : Int32) ≤ nI G from nI_ge (b := 4) (by omega) (by decide))]
          unfold f_X10_group_37
          rw [if_neg i1, b7, wI_nI (by omega) (by decide), Option.bind_some, if_pos sf1, show qF (uI r 27 G (nI i)) 5 = nI G from b7, nI_1]
        · refine Sim_q hS hnS hf hH hT hN hA hC (((OnlyQ.i (by decide) (by decide)).trans (OnlyQ.i (by decide) (by decide))).trans (OnlyQ.f (by decide) (by decide))) ((OnlyQr.i (by decide) (by decide)).trans (OnlyQr.f (by decide) (by decide))) (I := I) (G := G + 1) (O := O) ?_
          refine ⟨b1, b2, b3, b4, by omega, rfl, rfl, fun g hg => ?_, b9, b10, b11, b12, b13, b14, b15, b16, b17, b18⟩
          show nt (upd (qI r 27) G (nI i) g) < N ∧ upd (qI r 27) G (nI i) g = nI (nt (upd (qI r 27) G (nI i) g)) ∧ nK r (nt (upd (qI r 27) G (nI i) g)) = 4 ∧ upd (qI q 40) G (nI (nA r i)) g = qI r 12 (nt (upd (qI r 27) G (nI i) g)) ∧ upd (qI q 41) G (nI (nB r i)) g = qI r 13 (nt (upd (qI r 27) G (nI i) g))
          rw [upd_at, upd_at, upd_at]
          by_cases e : g = G
          · rw [if_pos e, if_pos e, if_pos e, nt_nI (by omega)]
            exact ⟨hi, rfl, k4, d4.symm, d5.symm⟩
          · rw [if_neg e, if_neg e, if_neg e]; exact b8 g (by omega)
    · have n4 : ¬ nI (nK r i) = (4 : Int32) := cNe (c := 4) k4 (by omega) (by decide)
      rw [if_neg n4, if_neg n4]
      exact ⟨0, q, r, rfl, rfl, hsim⟩
theorem st_14 {κ n : Nat} {q r : QS} (h : Sim κ n q r) (x b : Int32) (hb : b = 0 ∨ b = 1) : ∃ a q' r', f_X9_order q x b = some (a, q') ∧ f_X10_order r x b = some (a, r') ∧ Sim κ n q' r' := by
  have hsim := h
  obtain ⟨S, T, N, I, G, O, K, I', hS, hnS, hf, hH, hT, hN, hQ, hA, hC⟩ := h
  have e26 : ∀ x y, f_X10_order_26 r x y = some (0, r) := fun x y => by
    unfold f_X10_order_26 f_X10_order_27
    rw [if_pos rfl, if_pos sf0]
  have hnb : vp_nar .boolean b = b := by rcases hb with rfl | rfl <;> rfl
  obtain ⟨b1, b2, b3, b4, b5, b6, b7, b8, b9, b10, b11, b12, b13, b14, b15, b16, b17, b18⟩ := hQ
  unfold f_X9_order f_X9_order_0 f_X10_order f_X10_order_0 f_X4_addOrder f_X4_addOrder_0
  rw [b2, b3, b10, b11]
  rcases ix_cases x I (by omega) with hx | ⟨i, hi, rfl⟩
  · refine ⟨0, q, r, ?_, ?_, hsim⟩
    · by_cases h0 : x < 0
      · rw [if_pos h0, Option.bind_some, if_pos sf0]
      · rw [if_neg h0, if_pos (hx.resolve_left h0), Option.bind_some, if_pos sf0]
    · rw [in_no (by omega) hx, Option.bind_some, if_pos rfl, e26]
  · rw [if_neg (nI_pos (by omega)), if_neg (nI_ge hi (by omega)), in_yes (by omega) hi]
    simp only [Option.bind_some, if_neg i1]
    by_cases h4 : O = 4
    · subst h4
      refine ⟨0, q, r, ?_, ?_, hsim⟩
      · rw [if_neg (by decide)]; simp only [Option.bind_some]; rw [if_pos sf0]
      · rw [if_pos (by decide), e26]
    · refine ⟨1, uF (uI (uI q 42 O (nI i)) 43 O b) 8 (nI (O + 1)), uF (uI (uI r 28 O (nI i)) 29 O b) 6 (nI (O + 1)), ?_, ?_, ?_⟩
      · rw [if_pos (show nI O < (4 : Int32) from nI_lt (b := 4) (by omega) (by decide)), wI_nI (by omega) (by decide), Option.bind_some, show qF (uI q 42 O (nI i)) 8 = nI O from b10, hnb, wI_nI (by omega) (by decide), Option.bind_some, show qF (uI (uI q 42 O (nI i)) 43 O b) 8 = nI O from b10, nI_1, Option.bind_some, if_pos sf1]
      · rw [if_neg (show ¬ (4 : Int32) ≤ nI O from nI_ge (b := 4) (by omega) (by decide))]
        unfold f_X10_order_27
        rw [if_neg i1, b11, wI_nI (by omega) (by decide), Option.bind_some, show qF (uI r 28 O (nI i)) 6 = nI O from b11, hnb, wI_nI (by omega) (by decide), Option.bind_some, if_pos sf1, show qF (uI (uI r 28 O (nI i)) 29 O b) 6 = nI O from b11, nI_1]
      · refine Sim_q hS hnS hf hH hT hN hA hC (((OnlyQ.i (by decide) (by decide)).trans (OnlyQ.i (by decide) (by decide))).trans (OnlyQ.f (by decide) (by decide))) (((OnlyQr.i (by decide) (by decide)).trans (OnlyQr.i (by decide) (by decide))).trans (OnlyQr.f (by decide) (by decide))) (I := I) (G := G) (O := O + 1) ?_
        refine ⟨b1, b2, b3, b4, b5, b6, b7, b8, by omega, rfl, rfl, fun o ho => ?_, b13, b14, b15, b16, b17, b18⟩
        show nt (upd (qI r 28) O (nI i) o) < I ∧ upd (qI r 28) O (nI i) o = nI (nt (upd (qI r 28) O (nI i) o)) ∧ upd (qI q 42) O (nI i) o = upd (qI r 28) O (nI i) o ∧ (upd (qI r 29) O b o = 0 ∨ upd (qI r 29) O b o = 1) ∧ upd (qI q 43) O b o = upd (qI r 29) O b o
        rw [upd_at, upd_at, upd_at, upd_at]
        by_cases e : o = O
        · rw [if_pos e, if_pos e, if_pos e, if_pos e, nt_nI (by omega)]
          exact ⟨hi, rfl, rfl, hb, rfl⟩
        · rw [if_neg e, if_neg e, if_neg e, if_neg e]; exact b12 o (by omega)
/-! reset -/
theorem st_0 {κ n : Nat} {q r : QS} (h : Sim κ n q r) : ∃ q' r', f_X9_reset q = some q' ∧ f_X10_reset r = some r' ∧ Sim κ n q' r' := by
  obtain ⟨S, T, N, I, G, O, K, I', hS, hnS, hf, hH, hT, hN, hQ, hA, hC⟩ := h
  obtain ⟨q1, a1, a2, a3⟩ := c_clear0 q
  obtain ⟨r', b1, b2, b3, b4, b5⟩ := r_clear (uF (uF (uF (uF (uF (uF (uF (uF (uF r 1 (0 : Int32)) 2 (0 : Int32)) 3 (-1 : Int32)) 4 (0 : Int32)) 5 (0 : Int32)) 6 (0 : Int32)) 7 (-1 : Int32)) 8 (0 : Int32)) 11 (0 : Int32))
  have hq : f_X9_reset q = some (uF (uF (uF (uF (uF (uF (uF (uF (uF q1 14 (0 : Int32)) 2 (0 : Int32)) 6 (0 : Int32)) 7 (0 : Int32)) 8 (0 : Int32)) 9 (-1 : Int32)) 10 (-1 : Int32)) 11 (0 : Int32)) 0 (0 : Int32)) := by
    unfold f_X9_reset f_X9_reset_0 f_X4_forget f_X4_forget_0
    rw [a1, Option.bind_some, Option.bind_some]
  have hr : f_X10_reset r = some r' := by
    unfold f_X10_reset f_X10_reset_0
    rw [b1, Option.bind_some]
  have hto : SameTo S r r' := fun s _ => ⟨by rw [b2 1 (by decide)]; rfl, by rw [b2 3 (by decide)]; rfl, by rw [b2 4 (by decide)]; rfl, by rw [b2 5 (by decide)]; rfl, by rw [b3]; rfl⟩
  have hS' := to_SOk hto hS
  refine ⟨_, r', hq, hr, S, 0, 0, 0, 0, 0, 0, I', hS', hnS, by rw [b4]; exact hf, hand_null hS' a3 b5, ⟨by decide, rfl, by rw [b4]; rfl, fun t ht => by omega⟩, ⟨by decide, rfl, by rw [b4]; rfl, fun t ht => by omega⟩, ⟨by decide, rfl, by rw [b4]; rfl, fun t ht => by omega, by decide, rfl, by rw [b4]; rfl, fun t ht => by omega, by decide, rfl, by rw [b4]; rfl, fun t ht => by omega, by rw [b4]; rfl, Or.inl (by rw [b4]; rfl), by rw [b4]; rfl, by rw [b4]; exact (show (-1 : Int32) ≤ -1 by decide), by rw [b4]; rfl, Or.inl (by rw [b4]; rfl)⟩, ⟨by decide, hA.2.1, rfl, by rw [b4]; rfl, ?_, ?_, fun t j ht => by omega⟩, ?_⟩
  · show qF q1 1 = nI I'
    rw [a2.2.2.1]; exact hA.2.2.2.2.1
  · rw [b4]; exact hA.2.2.2.2.2.1
  · have h1 : qF q1 12 = qF q 12 := by rw [a2.2.2.1]
    exact SimC.congr (q := q) (show qF q1 12 = qF q 12 from h1) a2.2.2.2 hC
