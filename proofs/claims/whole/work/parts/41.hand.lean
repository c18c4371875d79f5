theorem TabOk.mono {q r : QS} {S S' t : Nat} (hs : S ≤ S') (h : TabOk q r S t) : TabOk q r S' t := by
  obtain ⟨b1, b2, b3, b4, b5, b6, b7, b8, b9⟩ := h
  exact ⟨b1, b2, b3, b4, b5, b6, b7, b8, fun row c h1 h2 => ⟨(b9 row c h1 h2).1.mono hs, (b9 row c h1 h2).2⟩⟩
theorem SimT.mono {q r : QS} {S S' T : Nat} (hs : S ≤ S') (h : SimT q r S T) : SimT q r S' T := ⟨h.1, h.2.1, h.2.2.1, fun t ht => (h.2.2.2 t ht).mono hs⟩
theorem NodOk.mono {q r : QS} {S S' T i : Nat} (hs : S ≤ S') (h : NodOk q r S T i) : NodOk q r S' T i := by
  unfold NodOk at h ⊢
  refine ⟨h.1, h.2.1, h.2.2.1, h.2.2.2.1, h.2.2.2.2.1, h.2.2.2.2.2.1, h.2.2.2.2.2.2.1, h.2.2.2.2.2.2.2.1, h.2.2.2.2.2.2.2.2.1, h.2.2.2.2.2.2.2.2.2.1, fun hk => ?_, h.2.2.2.2.2.2.2.2.2.2.2⟩
  obtain ⟨c1, c2, c3, c4⟩ := h.2.2.2.2.2.2.2.2.2.2.1 hk
  exact ⟨c1, c2, c3.mono hs, c4⟩
theorem SimN.mono {q r : QS} {S S' T N : Nat} (hs : S ≤ S') (h : SimN q r S T N) : SimN q r S' T N := ⟨h.1, h.2.1, h.2.2.1, fun i hi => (h.2.2.2 i hi).mono hs⟩
theorem Sim.mono {κ n n' : Nat} {q r : QS} (hn : n ≤ n') (h : Sim κ n q r) : Sim κ n' q r := by
  obtain ⟨S, T, N, I, G, O, K, I', h1, h2, h3⟩ := h
  exact ⟨S, T, N, I, G, O, K, I', h1, by omega, h3⟩
/-- the class's row in hand alone has changed -/
def OnlyHand (q q' : QS) : Prop := (∀ k, k ≠ 1 → qI q' k = qI q k) ∧ (∀ k, k ≠ 2 → qL q' k = qL q k) ∧ qF q' = qF q ∧ qC q' = qC q
/-- the reference's hand and steps alone have changed -/
def OnlySteps (r r' : QS) : Prop := (∀ k, 6 < k → qI r' k = qI r k) ∧ (∀ k, k ≠ 2 → qL r' k = qL r k) ∧ (∀ k, k ≠ 0 → qF r' k = qF r k)
theorem Oc.hand {c : Nat} {q q' : QS} (h : Oc 0 c q q') : OnlyHand q q' := ⟨fun k hk => h.1 k hk, fun k hk => h.2.2.1 k hk, h.2.2.2.2.1, h.2.2.2.2.2⟩
theorem Sim_hand {κ n : Nat} {q r q' r' : QS} {S S' T N I G O K I' : Nat} (hS : SOk r S) (hT : SimT q r S T) (hN : SimN q r S T N) (hQ : SimQ q r N I G O) (hA : SimA q r K I') (hC : SimC κ q) (oh : OnlyHand q q') (os : OnlySteps r r') (hto : SameTo S r r') (hSS : S ≤ S') (hS' : SOk r' S') (hn : S' ≤ n) (hf : qF r' 0 = nI S') (hH : SimH q' r' S') : Sim κ n q' r' := by
  have hn' : SameN r r' := ⟨os.1 7 (by decide), os.1 8 (by decide), os.1 11 (by decide), os.1 12 (by decide), os.1 13 (by decide), os.1 14 (by decide), os.1 15 (by decide), os.1 16 (by decide)⟩
  refine ⟨S', T, N, I, G, O, K, I', hS', hn, hf, hH, SimT.mono hSS (hT.congr hS hto (os.2.2 1 (by decide)) (by rw [oh.2.2.1]) (os.1 7 (by decide)) (os.1 8 (by decide)) (os.1 9 (by decide)) (os.1 10 (by decide)) (oh.1 26 (by decide)) (oh.1 27 (by decide)) (oh.1 28 (by decide)) (oh.1 4 (by decide)) (oh.2.1 5 (by decide))), SimN.mono hSS (hN.congr hS hto hn' (os.2.2 2 (by decide)) (by rw [oh.2.2.1]) (fun k h1 _ => oh.1 k (by omega)) (oh.1 7 (by decide)) (oh.2.1 8 (by decide))), hQ.congr hn' (fun k h1 _ => os.2.2 k (by omega)) (fun k _ _ => by rw [oh.2.2.1]) (fun k h1 _ => os.1 k (by omega)) (fun k h1 _ => oh.1 k (by omega)), hA.congr (os.2.2 11 (by decide)) (os.2.2 12 (by decide)) (by rw [oh.2.2.1]) (by rw [oh.2.2.1]) (os.1 38 (by decide)) (os.2.1 39 (by decide)) (os.1 40 (by decide)) (os.2.1 41 (by decide)) (oh.1 10 (by decide)) (oh.2.1 11 (by decide)), hC.congr (by rw [oh.2.2.1]) oh.2.2.2⟩
/-! clear -/
theorem clr_loop (fu : Nat) : ∀ (r : QS) (i : Nat), i ≤ 8 → 8 - i < fu → (∀ j, j < i → qI r 6 j = 0) → ∃ r', f_X10_clear_2 fu r (nI i) = some r' ∧ (∀ k, k ≠ 6 → qI r' k = qI r k) ∧ qL r' = qL r ∧ qF r' = qF r ∧ ∀ j, j < 8 → qI r' 6 j = 0 := by
  induction fu with
  | zero => intro r i _ h; omega
  | succ fu ih =>
    intro r i hi hf hz
    rw [f_X10_clear_2, f_X10_clear_2_b]
    by_cases he : i = 8
    · subst he
      rw [if_pos (show (8 : Int32) ≤ nI 8 from nI_le (a := 8) (Nat.le_refl _) (by decide))]
      exact ⟨r, rfl, fun _ _ => rfl, rfl, rfl, hz⟩
    · rw [if_neg (show ¬ (8 : Int32) ≤ nI i from nI_ge (b := 8) (by omega) (by decide)), wI_nI (by omega) (by decide), Option.bind_some, nI_1]
      obtain ⟨r', h1, h2, h3, h4, h5⟩ := ih (uI r 6 i 0) (i + 1) (by omega) (by omega) (fun j hj => by
        rw [qI_uI, if_pos rfl, upd_at]
        by_cases e : j = i
        · rw [if_pos e]
        · rw [if_neg e]; exact hz j (by omega))
      exact ⟨r', h1, fun k hk => by rw [h2 k hk, qI_uI, if_neg hk], h3, h4, h5⟩
theorem r_clear (r : QS) : ∃ r', f_X10_clear r = some r' ∧ (∀ k, k ≠ 6 → qI r' k = qI r k) ∧ qL r' = qL r ∧ qF r' = qF r ∧ ∀ j, j < 8 → qI r' 6 j = 0 := clr_loop FU r 0 (Nat.zero_le _) (by show 8 - 0 < 100000; omega) (fun j hj => by omega)
theorem c_clear0 (q : QS) : ∃ q', f_X8_setAllNull 0 q = some q' ∧ OnlyHand q q' ∧ ∀ j, j < 8 → qI q' 1 j = 0 := by
  obtain ⟨q', h1, h2, h3, h4, h5, h6⟩ := fill_val (k := 1) (nf := fun z => vN z 0) (fun q j x => rfl) q 0 (by show 8 < 100000; decide)
  unfold f_X8_setAllNull f_X8_setAllNull_0
  have h1 : f_J7_fill_53178 (3 * 0 + 1) (fun z => vN z 0) q 0 = some q' := h1
  rw [h1, Option.bind_some]
  refine ⟨q', rfl, ⟨h2, fun k _ => by rw [h4], h5, h6⟩, fun j hj => ?_⟩
  rw [h3 j, if_pos (show j < vN q 0 from hj)]
theorem hand_null {q r : QS} {S : Nat} (hS : SOk r S) (h1 : ∀ j, j < 8 → qI q 1 j = 0) (h2 : ∀ j, j < 8 → qI r 6 j = 0) : SimH q r S := fun c hc => ⟨0, Nat.zero_le _, h2 c hc, by
  have : sv r 0 = vNull := if_pos hS.2.2.2.2.1
  rw [this]
  exact ⟨h1 c hc, (fun h => by rcases h with h | h <;> cases h), (fun h => by cases h)⟩⟩
theorem st_2 {κ n : Nat} {q r : QS} (h : Sim κ n q r) : ∃ q' r', f_X9_clear q = some q' ∧ f_X10_clear r = some r' ∧ Sim κ n q' r' := by
  obtain ⟨S, T, N, I, G, O, K, I', hS, hn, hf, hH, hT, hN, hQ, hA, hC⟩ := h
  obtain ⟨q', a1, a2, a3⟩ := c_clear0 q
  obtain ⟨r', b1, b2, b3, b4, b5⟩ := r_clear r
  have hto : SameTo S r r' := fun s _ => ⟨by rw [b2 1 (by decide)], by rw [b2 3 (by decide)], by rw [b2 4 (by decide)], by rw [b2 5 (by decide)], by rw [b3]⟩
  refine ⟨q', r', ?_, b1, Sim_hand hS hT hN hQ hA hC a2 ⟨fun k hk => b2 k (by omega), fun k _ => by rw [b3], fun k _ => by rw [b4]⟩ hto (Nat.le_refl S) (to_SOk hto hS) hn (by rw [b4]; exact hf) (hand_null (to_SOk hto hS) a3 b5)⟩
  unfold f_X9_clear f_X9_clear_0
  rw [a1, Option.bind_some]
/-! give -/
theorem nb8 {n : Nat} (h : n < 128) : vp_nar .byte ((nI n).toInt8.toInt32) = nI n := by
  rw [vp_nar_byte]
  have : ∀ n, n < 128 → ((nI n).toInt8.toInt32).toInt8.toInt32 = nI n := by decide +kernel
  exact this n h
theorem ns16 {n : Nat} (h : n < 600) : vp_nar .short ((nI n).toInt16.toInt32) = nI n := by
  rw [vp_nar_short]
  have : ∀ n, n < 600 → ((nI n).toInt16.toInt32).toInt16.toInt32 = nI n := by decide +kernel
  exact this n h
theorem r_give {r : QS} {S c w m s0 : Nat} {v : Int64} (hS : SOk r S) (hS2 : S < 519) (hf : qF r 0 = nI S) (hc : c < 8) (hw : 1 ≤ w) (hw3 : w ≤ 3) (hm : m ≤ 8) (hs0 : s0 ≤ S) (hl : sL r s0 + m ≤ 31) (h2 : w ≠ 2 → sL r s0 + m = 0) (h3 : w = 3 → v = 0 ∨ v = 1) : ∃ r', f_X10_give r (nI c) (nI w) v (nI m) (nI s0) = some (1, r') ∧ OnlySteps r r' ∧ SameTo S r r' ∧ SOk r' (S + 1) ∧ qF r' 0 = nI (S + 1) ∧ qI r' 6 c = nI (S + 1) ∧ (∀ j, j ≠ c → qI r' 6 j = qI r 6 j) ∧ sK r' (S + 1) = w ∧ qL r' 2 (S + 1) = v ∧ sB r' (S + 1) = m ∧ sP r' (S + 1) = s0 ∧ sL r' (S + 1) = sL r s0 + m := by
  obtain ⟨e5, e3, e4, e1, l5, l3, l1, l4⟩ := hS.2.1 s0 hs0
  unfold f_X10_give f_X10_give_0
  rw [hf, nI_1, show qF (uF r 0 (nI (S + 1))) 0 = nI (S + 1) from rfl, nb8 (n := w) (by omega), wI_nI (by omega) (by decide), Option.bind_some]
  rw [show qF (uI (uF r 0 (nI (S + 1))) 1 (S + 1) (nI w)) 0 = nI (S + 1) from rfl, wL_nI (by omega) (by decide), Option.bind_some]
  rw [show qF (uL (uI (uF r 0 (nI (S + 1))) 1 (S + 1) (nI w)) 2 (S + 1) v) 0 = nI (S + 1) from rfl, nb8 (n := m) (by omega), wI_nI (by omega) (by decide), Option.bind_some]
  rw [show qF (uI (uL (uI (uF r 0 (nI (S + 1))) 1 (S + 1) (nI w)) 2 (S + 1) v) 3 (S + 1) (nI m)) 0 = nI (S + 1) from rfl, ns16 (n := s0) (by omega), wI_nI (by omega) (by decide), Option.bind_some]
  generalize hr4 : uI (uI (uL (uI (uF r 0 (nI (S + 1))) 1 (S + 1) (nI w)) 2 (S + 1) v) 3 (S + 1) (nI m)) 4 (S + 1) (nI s0) = r4
  have f4 : qF r4 0 = nI (S + 1) := by rw [← hr4]; rfl
  have i5 : qI r4 5 = qI r 5 := by rw [← hr4]; rfl
  rw [i5, rd_nI (by omega) (by decide), Option.bind_some, e5, nI_add, nb8 (n := sL r s0 + m) (by omega), f4, wI_nI (by omega) (by decide), Option.bind_some]
  rw [show qF (uI r4 5 (S + 1) (nI (sL r s0 + m))) 0 = qF r4 0 from rfl, f4, wI_nI hc (by decide), Option.bind_some]
  have g1 : qI (uI (uI r4 5 (S + 1) (nI (sL r s0 + m))) 6 c (nI (S + 1))) 1 = upd (qI r 1) (S + 1) (nI w) := by rw [← hr4]; rfl
  have g2 : qL (uI (uI r4 5 (S + 1) (nI (sL r s0 + m))) 6 c (nI (S + 1))) 2 = vp_updL (qL r 2) (S + 1) v := by rw [← hr4]; rfl
  have g3 : qI (uI (uI r4 5 (S + 1) (nI (sL r s0 + m))) 6 c (nI (S + 1))) 3 = upd (qI r 3) (S + 1) (nI m) := by rw [← hr4]; rfl
  have g4 : qI (uI (uI r4 5 (S + 1) (nI (sL r s0 + m))) 6 c (nI (S + 1))) 4 = upd (qI r 4) (S + 1) (nI s0) := by rw [← hr4]; rfl
  have g5 : qI (uI (uI r4 5 (S + 1) (nI (sL r s0 + m))) 6 c (nI (S + 1))) 5 = upd (qI r 5) (S + 1) (nI (sL r s0 + m)) := by rw [← hr4]; rfl
  have g6 : qI (uI (uI r4 5 (S + 1) (nI (sL r s0 + m))) 6 c (nI (S + 1))) 6 = upd (qI r 6) c (nI (S + 1)) := by rw [← hr4]; rfl
  have gf : qF (uI (uI r4 5 (S + 1) (nI (sL r s0 + m))) 6 c (nI (S + 1))) 0 = nI (S + 1) := f4
  have os : OnlySteps r (uI (uI r4 5 (S + 1) (nI (sL r s0 + m))) 6 c (nI (S + 1))) := by
    rw [← hr4]
    refine ⟨fun k hk => ?_, fun k hk => ?_, fun k hk => ?_⟩
    · rw [qI_uI, if_neg (by omega), qI_uI, if_neg (by omega), qI_uI, if_neg (by omega), qI_uI, if_neg (by omega), qI_uL, qI_uI, if_neg (by omega), qI_uF]
    · rw [qL_uI, qL_uI, qL_uI, qL_uI, qL_uL, if_neg hk, qL_uI, qL_uF]
    · rw [qF_uI, qF_uI, qF_uI, qF_uI, qF_uL, qF_uI, qF_uF, if_neg hk]
  generalize uI (uI r4 5 (S + 1) (nI (sL r s0 + m))) 6 c (nI (S + 1)) = r' at g1 g2 g3 g4 g5 g6 gf os
  have hto : SameTo S r r' := fun s hs => ⟨by rw [g1, upd_at, if_neg (by omega)], by rw [g3, upd_at, if_neg (by omega)], by rw [g4, upd_at, if_neg (by omega)], by rw [g5, upd_at, if_neg (by omega)], by rw [g2, updL_at, if_neg (by omega)]⟩
  have n1 : qI r' 1 (S + 1) = nI w := by rw [g1, upd_at, if_pos rfl]
  have n2 : qL r' 2 (S + 1) = v := by rw [g2, updL_at, if_pos rfl]
  have n3 : qI r' 3 (S + 1) = nI m := by rw [g3, upd_at, if_pos rfl]
  have n4 : qI r' 4 (S + 1) = nI s0 := by rw [g4, upd_at, if_pos rfl]
  have n5 : qI r' 5 (S + 1) = nI (sL r s0 + m) := by rw [g5, upd_at, if_pos rfl]
  have m1 : sK r' (S + 1) = w := by unfold sK; rw [n1]; exact nI_clamp (by omega)
  have m3 : sB r' (S + 1) = m := by unfold sB; rw [n3]; exact nI_clamp (by omega)
  have m4 : sP r' (S + 1) = s0 := by unfold sP; rw [n4]; exact nI_clamp (by omega)
  have m5 : sL r' (S + 1) = sL r s0 + m := by unfold sL; rw [n5]; exact nI_clamp (by omega)
  have hold := to_SOk hto hS
  refine ⟨r', rfl, os, hto, ⟨by omega, fun s hs => ?_, hold.2.2.1, hold.2.2.2.1, hold.2.2.2.2.1, hold.2.2.2.2.2.1, fun s h0 hs => ?_⟩, gf, by rw [g6, upd_at, if_pos rfl], fun j hj => by rw [g6, upd_at, if_neg hj], m1, n2, m3, m4, m5⟩
  · by_cases e : s = S + 1
    · subst e
      rw [m1, m3, m4, m5]
      exact ⟨n5, n3, n4, n1, hl, hm, by omega, by omega⟩
    · exact hold.2.1 s (by omega)
  · by_cases e : s = S + 1
    · subst e
      rw [m1, m3, m4, m5, n2, to_sL hto hs0]
      exact ⟨by omega, hw, rfl, h2, h3⟩
    · exact hold.2.2.2.2.2.2 s h0 (by omega)
/-! cell, truth -/
theorem p1 (r : QS) : ¬ ((1 : Int32), r).1 = 0 := fun h => absurd (show (1 : Int32) = 0 from h) (by decide)
theorem isCell_no {x : Int32} (h : x < 0 ∨ nI 8 ≤ x) : f_X9_isCell x = some 0 := by
  unfold f_X9_isCell f_X9_isCell_0
  by_cases h0 : x < 0
  · rw [if_pos h0]
  · rw [if_neg h0, if_pos (show (8 : Int32) ≤ x from h.resolve_left h0)]
theorem isCell_yes {c : Nat} (h : c < 8) : f_X9_isCell (nI c) = some 1 := by
  unfold f_X9_isCell f_X9_isCell_0
  rw [if_neg (nI_pos (by omega)), if_neg (show ¬ (8 : Int32) ≤ nI c from nI_ge (b := 8) h (by decide))]
theorem in7_no {x : Int32} (h : x < 0 ∨ nI 8 ≤ x) : f_X10_in x 0 7 = some 0 := in_no (n := 8) (by decide) h
theorem in7_yes {c : Nat} (h : c < 8) : f_X10_in (nI c) 0 7 = some 1 := in_yes (n := 8) (by decide) h
/-- a new step in hand: the class's cell holds it -/
theorem hand_step {q r q' r' : QS} {S c : Nat} (hS : SOk r S) (hH : SimH q r S) (ho : Oc 0 c q q') (hto : SameTo S r r') (h6 : qI r' 6 c = nI (S + 1)) (h6' : ∀ j, j ≠ c → qI r' 6 j = qI r 6 j) (hv : VC q' 0 c (sv r' (S + 1))) : SimH q' r' (S + 1) := fun j hj => by
  by_cases e : j = c
  · subst e
    exact ⟨S + 1, Nat.le_refl _, h6, hv⟩
  · rw [h6' j e]
    obtain ⟨s, a, b, d⟩ := hH j hj
    refine ⟨s, by omega, b, ?_⟩
    rw [to_sv hto hS a]
    exact d.other ho (Or.inr e)
theorem st_3 {κ n : Nat} (hn : n < 512) {q r : QS} (h : Sim κ n q r) (x : Int32) (v : Int64) : ∃ a q' r', f_X9_cell q x v = some (a, q') ∧ f_X10_cell r x v = some (a, r') ∧ Sim κ (n + 1) q' r' := by
  unfold f_X9_cell f_X9_cell_0 f_X10_cell f_X10_cell_0
  rcases ix_cases x 8 (by decide) with hx | ⟨c, hc, rfl⟩
  · rw [isCell_no hx, Option.bind_some, if_pos rfl, in7_no hx, Option.bind_some, if_pos rfl]
    exact ⟨0, q, r, rfl, rfl, h.mono (by omega)⟩
  · obtain ⟨S, T, N, I, G, O, K, I', hS, hnS, hf, hH, hT, hN, hQ, hA, hC⟩ := h
    rw [isCell_yes hc, Option.bind_some, if_neg (by decide), in7_yes hc, Option.bind_some, if_neg (by decide)]
    obtain ⟨q', a1, a2, a3⟩ := v_int (q := q) (v := 0) (i := c) hc (by show 8 < 20000; decide) v
    obtain ⟨r', b1, b2, b3, b4, b5, b6, b7, b8, b9, b10, b11, b12⟩ := r_give (c := c) (w := 1) (m := 0) (s0 := 0) (v := v) hS (by omega) hf hc (by decide) (by decide) (by decide) (Nat.zero_le _) (by rw [hS.2.2.1]; decide) (fun _ => by rw [hS.2.2.1]) (fun e => by cases e)
    have b1 : f_X10_give r (nI c) 1 v 0 0 = some (1, r') := b1
    rw [a1, Option.bind_some, b1, Option.bind_some, if_neg (p1 _)]
    refine ⟨1, q', r', rfl, rfl, Sim_hand hS hT hN hQ hA hC a3.hand b2 b3 (by omega) b4 (by omega) b5 (hand_step hS hH a3 b3 b6 b7 ?_)⟩
    have : sv r' (S + 1) = vInt v := by
      unfold sv
      rw [b8, if_neg (by decide), if_neg (by decide), if_pos rfl, b9]
    rw [this]; exact a2
theorem st_4 {κ n : Nat} (hn : n < 512) {q r : QS} (h : Sim κ n q r) (x b : Int32) : ∃ a q' r', f_X9_truth q x b = some (a, q') ∧ f_X10_truth r x b = some (a, r') ∧ Sim κ (n + 1) q' r' := by
  unfold f_X9_truth f_X9_truth_0 f_X10_truth f_X10_truth_0
  rcases ix_cases x 8 (by decide) with hx | ⟨c, hc, rfl⟩
  · rw [isCell_no hx, Option.bind_some, if_pos rfl, in7_no hx, Option.bind_some, if_pos rfl]
    exact ⟨0, q, r, rfl, rfl, h.mono (by omega)⟩
  · obtain ⟨S, T, N, I, G, O, K, I', hS, hnS, hf, hH, hT, hN, hQ, hA, hC⟩ := h
    rw [isCell_yes hc, Option.bind_some, if_neg (by decide), in7_yes hc, Option.bind_some, if_neg (by decide)]
    obtain ⟨q', a1, a2, a3⟩ := v_bool (q := q) (v := 0) (i := c) hc (by show 8 < 20000; decide) b
    obtain ⟨r', b1, b2, b3, b4, b5, b6, b7, b8, b9, b10, b11, b12⟩ := r_give (c := c) (w := 3) (m := 0) (s0 := 0) (v := if b = 0 then 0 else 1) hS (by omega) hf hc (by decide) (by decide) (by decide) (Nat.zero_le _) (by rw [hS.2.2.1]; decide) (fun _ => by rw [hS.2.2.1]) (fun _ => by by_cases e : b = 0; exact Or.inl (if_pos e); exact Or.inr (if_neg e))
    have b1 : f_X10_give r (nI c) 3 (if b = 0 then 0 else 1) 0 0 = some (1, r') := b1
    rw [a1, Option.bind_some]
    have hsim : Sim κ (n + 1) q' r' := by
      refine Sim_hand hS hT hN hQ hA hC a3.hand b2 b3 (by omega) b4 (by omega) b5 (hand_step hS hH a3 b3 b6 b7 ?_)
      have : sv r' (S + 1) = vBool (if b = 0 then 0 else 1) := by
        unfold sv
        rw [b8, if_neg (by decide), if_neg (by decide), if_neg (by decide), b9]
      rw [this]; exact a2
    by_cases e : b = 0
    · rw [if_pos e] at b1
      rw [if_pos e, b1, Option.bind_some, if_neg (p1 _)]
      exact ⟨1, q', r', rfl, rfl, hsim⟩
    · rw [if_neg e] at b1
      rw [if_neg e, b1, Option.bind_some, if_neg (p1 _)]
      exact ⟨1, q', r', rfl, rfl, hsim⟩
