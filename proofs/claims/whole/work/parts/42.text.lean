/-! text -/
def tv (v : Int64) : Nat → Vl → Vl
  | 0, x => x
  | j + 1, x => tv v j (tapp x (b8 v j))
theorem tv_spec (v : Int64) : ∀ j (W : Nat → Int64) (len : Nat), tOk W len → len + j ≤ 31 → j ≤ 8 → ∃ W2, tv v j (vTxt W len) = vTxt W2 (len + j) ∧ tOk W2 (len + j) ∧ ∀ k, k < 32 → gb W2 k = if k < len then gb W k else if k < len + j then b8 v (len + j - 1 - k) else 0 := by
  intro j
  induction j with
  | zero =>
    intro W len hT _ _
    refine ⟨W, rfl, hT, fun k hk => ?_⟩
    by_cases c : k < len
    · rw [if_pos c]
    · rw [if_neg c, if_neg (by omega), hT.2.1 k (by omega) hk]
  | succ j ih =>
    intro W len hT hl h8
    have e : tapp (vTxt W len) (b8 v j) = vTxt (setb W len (b8 v j)) (len + 1) := if_pos (show len < 31 by omega)
    obtain ⟨W2, h1, h2, h3⟩ := ih (setb W len (b8 v j)) (len + 1) (tOk_setb hT (b8_lt _ _) (by omega)) (by omega) (by omega)
    rw [tv, e, h1]
    rw [show len + 1 + j = len + (j + 1) by omega] at h2 h3 ⊢
    refine ⟨W2, rfl, h2, fun k hk => ?_⟩
    rw [h3 k hk, gb_setb (b8_lt _ _)]
    by_cases c : k < len
    · rw [if_pos (by omega), if_neg (by omega), if_pos c]
    · by_cases c2 : k = len
      · subst c2
        rw [if_pos (by omega), if_pos rfl, hT.2.1 k (Nat.le_refl _) hk, Nat.zero_or, if_neg c, if_pos (by omega), show k + (j + 1) - 1 - k = j by omega]
      · rw [if_neg (by omega), if_neg c]
theorem text_loop {c : Nat} {v : Int64} (hc : c < 8) (fu : Nat) : ∀ (q : QS) (j : Nat) (x : Vl), j ≤ 8 → j < fu → VC q 0 c x → vOk x → vk x = 2 → ∃ q', f_X9_text_83 fu q (nI c) v (nI j - 1) = some (1, q') ∧ VC q' 0 c (tv v j x) ∧ Oc 0 c q q' := by
  induction fu with
  | zero => intro q j x _ h; omega
  | succ fu ih =>
    intro q j x hj hf hx ox kx
    rw [f_X9_text_83, f_X9_text_83_b]
    rcases j with _ | j
    · rw [if_pos (by decide)]
      exact ⟨q, rfl, hx, Oc.rfl⟩
    · rw [nI_pred, if_neg (nI_pos (by omega)), lit8_nI, byte_ushr _ (by omega)]
      obtain ⟨q1, a1, a2, a3, a4, a5⟩ := v_append (q := q) (v := 0) (i := c) (b := b8 v j) hx ox kx (b8_lt _ _) hc (by show 8 < 20000; decide)
      rw [a1, Option.bind_some, m1_sub]
      obtain ⟨q', b1, b2, b3⟩ := ih q1 j (tapp x (b8 v j)) (by omega) (by omega) a2 a4 a5
      exact ⟨q', b1, b2, a3.trans b3⟩
theorem st_5 {κ n : Nat} (hn : n < 512) {q r : QS} (h : Sim κ n q r) (x : Int32) (v : Int64) (m : Int32) : ∃ a q' r', f_X9_text q x v m = some (a, q') ∧ f_X10_text r x v m = some (a, r') ∧ Sim κ (n + 1) q' r' := by
  rcases ix_cases x 8 (by decide) with hx | ⟨c, hc, rfl⟩
  · unfold f_X9_text f_X9_text_0 f_X10_text f_X10_text_0
    rw [isCell_no hx, Option.bind_some, if_pos rfl, in7_no hx, Option.bind_some, if_pos rfl]
    unfold f_X10_text_34 f_X10_text_35
    rw [in7_no hx, Option.bind_some, if_pos rfl]
    exact ⟨0, q, r, rfl, rfl, h.mono (by omega)⟩
  · have hsim := h
    obtain ⟨S, T, N, I, G, O, K, I', hS, hnS, hf, hH, hT, hN, hQ, hA, hC⟩ := h
    obtain ⟨s, hs, e6, hv⟩ := hH c hc
    obtain ⟨e5, e3, e4, e1, l5, l3, l1, l4⟩ := hS.2.1 s hs
    obtain ⟨oks, kks⟩ := sv_ok hS hs
    have h520 := hS.1
    have hrefv : f_X10_text r (nI c) v m = if nI (sK r s) = 2 then f_X10_text_35 r (nI c) v m (nI s) else f_X10_text_34 r (nI c) v m := by
      unfold f_X10_text f_X10_text_0
      rw [in7_yes hc, Option.bind_some, if_neg (by decide), rd_nI hc (by decide), Option.bind_some, e6, rd_nI (by omega) (by decide), Option.bind_some, e1, Option.bind_some]
    have hclsv : f_X9_text q (nI c) v m = if m < 0 then some (0, q) else if m ≤ 8 then (if nI (sK r s) = 2 then f_X9_text_39 q (nI c) v m 1 else f_X9_text_39 q (nI c) v m 0) else some (0, q) := by
      unfold f_X9_text f_X9_text_0
      rw [isCell_yes hc, Option.bind_some, if_neg (show ¬ (1 : Int32) = 0 by decide), rd_nI (show c < 8 from hc) (by decide), Option.bind_some, hv.1, kks]
    rw [hrefv, hclsv]
    -- from which step the reference goes on
    have refno : ∀ t : Nat, t ≤ S → (m < 0 ∨ nI 9 ≤ m) → f_X10_text_35 r (nI c) v m (nI t) = some (0, r) := fun t ht hm => by
      unfold f_X10_text_35
      have h8 : f_X10_in m 0 8 = some 0 := in_no (n := 9) (by decide) hm
      rw [in7_yes hc, Option.bind_some, if_neg (by decide), h8, Option.bind_some, if_pos rfl]
    rcases ix_cases m 9 (by decide) with hm | ⟨m, hm, rfl⟩
    · have href : (if nI (sK r s) = 2 then f_X10_text_35 r (nI c) v m (nI s) else f_X10_text_34 r (nI c) v m) = some (0, r) := by
        by_cases k2 : nI (sK r s) = 2
        · rw [if_pos k2]; exact refno s hs hm
        · rw [if_neg k2]; exact refno 0 (Nat.zero_le _) hm
      rw [href]
      by_cases h0 : m < 0
      · rw [if_pos h0]; exact ⟨0, q, r, rfl, rfl, hsim.mono (by omega)⟩
      · have h9 := hm.resolve_left h0
        rw [if_neg h0, if_neg (show ¬ m ≤ (8 : Int32) from fun z => by
          rw [i32_le] at z h9
          rw [nI_toInt (by decide)] at h9
          have : (8 : Int32).toInt = 8 := by decide
          omega)]
        exact ⟨0, q, r, rfl, rfl, hsim.mono (by omega)⟩
    · have refyes : ∀ t : Nat, t ≤ S → sL r t + m ≤ 31 → ∃ r', f_X10_text_35 r (nI c) v (nI m) (nI t) = some (1, r') ∧ OnlySteps r r' ∧ SameTo S r r' ∧ SOk r' (S + 1) ∧ qF r' 0 = nI (S + 1) ∧ qI r' 6 c = nI (S + 1) ∧ (∀ j, j ≠ c → qI r' 6 j = qI r 6 j) ∧ sK r' (S + 1) = 2 ∧ qL r' 2 (S + 1) = v ∧ sB r' (S + 1) = m ∧ sP r' (S + 1) = t ∧ sL r' (S + 1) = sL r t + m := fun t ht hl => by
        obtain ⟨r', b1, b2⟩ := r_give (c := c) (w := 2) (m := m) (s0 := t) (v := v) hS (by omega) hf hc (by decide) (by decide) (by omega) ht hl (fun e => absurd rfl e) (fun e => by cases e)
        have b1 : f_X10_give r (nI c) 2 v (nI m) (nI t) = some (1, r') := b1
        unfold f_X10_text_35
        have h8 : f_X10_in (nI m) 0 8 = some 1 := in_yes (n := 9) (by decide) hm
        rw [in7_yes hc, Option.bind_some, if_neg (by decide), h8, Option.bind_some, if_neg (by decide), rd_nI (by omega) (by decide), Option.bind_some, (hS.2.1 t ht).1, nI_add, if_neg (show ¬ (31 : Int32) < nI (sL r t + m) from nI_nlt (b := sL r t + m) (a := 31) hl (by decide)), b1, Option.bind_some, if_neg (p1 _)]
        exact ⟨r', rfl, b2⟩
      -- the class's bytes are the step's
      have fin : ∀ (t : Nat) (q1 : QS) (W : Nat → Int64) (len : Nat), t ≤ S → len = sL r t → tOk W len → (∀ k, k < len → gb W k = sby r t k) → len + m ≤ 31 → VC q1 0 c (vTxt W len) → Oc 0 c q q1 → ∃ q' r', f_X9_text_77 q1 (nI c) v (nI m) = some (1, q') ∧ f_X10_text_35 r (nI c) v (nI m) (nI t) = some (1, r') ∧ Sim κ (n + 1) q' r' := fun t q1 W len ht hlen hTk hby hle hx1 ho => by
        subst hlen
        obtain ⟨r', b1, b2, b3, b4, b5, b6, b7, b8', b9, b10, b11, b12⟩ := refyes t ht hle
        obtain ⟨q', c1, c2, c3⟩ := text_loop (v := v) hc FU q1 m (vTxt W (sL r t)) (by omega) (by show m < 100000; omega) hx1 (Or.inr (Or.inr (Or.inr ⟨_, _, hTk, rfl⟩))) rfl
        refine ⟨q', r', c1, b1, Sim_hand hS hT hN hQ hA hC (ho.trans c3).hand b2 b3 (by omega) b4 (by omega) b5 (hand_step hS hH (ho.trans c3) b3 b6 b7 ?_)⟩
        obtain ⟨W2, d1, d2, d3⟩ := tv_spec v m W (sL r t) hTk hle (by omega)
        have hsv : sv r' (S + 1) = vTxt W2 (sL r t + m) := by
          have hw : W2 = wob (sby r' (S + 1)) (sL r t + m) := by
            refine wob_eq d2 (fun k hk => ?_)
            rw [d3 k (by omega)]
            by_cases cc : k < sL r t
            · rw [if_pos cc, hby k cc]
              have hup := (sby_up b4 (Nat.le_refl _) (k := k) (by rw [b12, b10]; omega)).2.2
              rw [hup, b11]
              exact (to_sbt b3 (fun s hs => (hS.2.1 s hs).2.2.2.2.2.2.2) _ _ _ ht).symm
            · rw [if_neg cc, if_pos hk, sby_here (by rw [b12, b10]; omega), b12, b9]
          unfold sv
          rw [b8', if_neg (by decide), if_pos rfl, b12, hw]
          rfl
        rw [hsv, ← d1]
        exact c2
      rw [if_neg (nI_pos (by omega)), if_pos (show nI m ≤ (8 : Int32) from nI_le (b := 8) (by omega) (by decide))]
      by_cases k2 : sK r s = 2
      · rw [k2, if_pos (show nI 2 = (2 : Int32) from rfl), if_pos (show nI 2 = (2 : Int32) from rfl)]
        have hsv : sv r s = vTxt (wob (sby r s) (sL r s)) (sL r s) := by
          unfold sv
          rw [if_neg (by omega), if_pos k2]
          rfl
        rw [hsv] at hv
        have hTk : tOk (wob (sby r s) (sL r s)) (sL r s) := tOk_wob l5
        unfold f_X9_text_39
        rw [if_neg (by decide), f_lengthOf hv rfl hTk hc (by show 8 < 20000; decide), Option.bind_some]
        show ∃ a q' r', (if nI (sL r s) + nI m ≤ 31 then _ else _) = _ ∧ _
        rw [nI_add]
        by_cases hl : sL r s + m ≤ 31
        · rw [if_pos (show nI (sL r s + m) ≤ (31 : Int32) from nI_le (b := 31) hl (by decide))]
          obtain ⟨q', r', f1, f2, f3⟩ := fin s q (wob (sby r s) (sL r s)) (sL r s) hs rfl hTk (fun k hk => by rw [gb_wob (by omega), if_pos hk, Nat.mod_eq_of_lt (sby_lt _ _ _)]) hl hv Oc.rfl
          refine ⟨1, q', r', ?_, f2, f3⟩
          unfold f_X9_text_64
          rw [if_neg (by decide)]
          exact f1
        · rw [if_neg (show ¬ nI (sL r s + m) ≤ (31 : Int32) from nI_ge (a := 31) (by omega) (by omega))]
          refine ⟨0, q, r, rfl, ?_, hsim.mono (by omega)⟩
          unfold f_X10_text_35
          have h8 : f_X10_in (nI m) 0 8 = some 1 := in_yes (n := 9) (by decide) hm
          rw [in7_yes hc, Option.bind_some, if_neg (by decide), h8, Option.bind_some, if_neg (by decide), rd_nI (by omega) (by decide), Option.bind_some, e5, nI_add, if_pos (show (31 : Int32) < nI (sL r s + m) from nI_lt (a := 31) (by omega) (by omega))]
      · have hne : ¬ nI (sK r s) = (2 : Int32) := cNe (c := 2) k2 (by omega) (by decide)
        rw [if_neg hne, if_neg hne]
        unfold f_X9_text_39
        rw [if_pos rfl]
        unfold f_X9_text_64
        rw [if_pos rfl]
        obtain ⟨q1, a1, a2, a3⟩ := v_empty (q := q) (v := 0) (i := c) hc (by show 8 < 20000; decide)
        rw [a1, Option.bind_some]
        obtain ⟨q', r', f1, f2, f3⟩ := fin 0 q1 (fun _ => 0) 0 (Nat.zero_le _) hS.2.2.1.symm tOk_zero (fun k hk => by omega) (by omega) a2 a3
        exact ⟨1, q', r', f1, f2, f3⟩
