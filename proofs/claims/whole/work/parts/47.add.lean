/-! add -/
/-- the step in a column of the hand -/
def hs (r : QS) (c : Nat) : Nat := nt (qI r 6 c)
theorem hs_eq {q r : QS} {S c : Nat} (hS : SOk r S) (hH : SimH q r S) (hc : c < 8) : hs r c ≤ S ∧ qI r 6 c = nI (hs r c) ∧ VC q 0 c (sv r (hs r c)) := by
  obtain ⟨s, a, b, d⟩ := hH c hc
  have : hs r c = s := by unfold hs; rw [b]; exact nt_nI (by have := hS.1; omega)
  rw [this]; exact ⟨a, b, d⟩
/-- the hand's column fits the table -/
def hok (r : QS) (t c : Nat) : Prop := sK r (hs r c) = 0 ∨ sK r (hs r c) = tY r t c
theorem tk_loop {q r : QS} {S t w : Nat} (hS : SOk r S) (hH : SimH q r S) (ht : t < 3) (h : TabOk q r S t) (hw : w = tW r t) (fu : Nat) : ∀ i, i ≤ w → w - i < fu → ((∀ c, i ≤ c → c < w → hok r t c) → f_X7_takes_2 q fu (nI t) (nI i) = some 1) ∧ (¬ (∀ c, i ≤ c → c < w → hok r t c) → f_X7_takes_2 q fu (nI t) (nI i) = some 0) := by
  have hw8 : w ≤ 8 := by rw [hw]; exact h.2.1
  induction fu with
  | zero => intro i _ h; omega
  | succ fu ih =>
    intro i hi hf
    rw [f_X7_takes_2, f_X7_takes_2_b, rd_nI (by omega) (by decide), Option.bind_some, h.2.2.2.2.1, ← hw]
    by_cases he : i = w
    · subst he
      rw [if_pos (nI_le (Nat.le_refl _) (by omega))]
      exact ⟨fun _ => rfl, fun h => absurd (fun j h1 h2 => by omega) h⟩
    · obtain ⟨s1, s2, s3⟩ := hs_eq hS hH (c := i) (by omega)
      obtain ⟨o1, o2⟩ := sv_ok hS s1
      obtain ⟨y1, y2, y3, y4⟩ := h.2.2.2.2.2.2.2.1 i (by omega)
      rw [if_neg (nI_ge (by omega) (by omega)), f_isNull s3 (vOk_k o1) (show i < 8 by omega) (by show 8 < 20000; decide), Option.bind_some, o2]
      unfold f_X7_takes_37
      rw [nI_1]
      obtain ⟨i1', i2'⟩ := ih (i + 1) (by omega) (by omega)
      have hgood : hok r t i → ((∀ c, i ≤ c → c < w → hok r t c) → f_X7_takes_2 q fu (nI t) (nI (i + 1)) = some 1) ∧ (¬ (∀ c, i ≤ c → c < w → hok r t c) → f_X7_takes_2 q fu (nI t) (nI (i + 1)) = some 0) := fun ho => ⟨fun h => i1' (fun j h1 h2 => h j (by omega) h2), fun h => i2' (fun h' => h (fun j h1 h2 => by
        by_cases e : j = i
        · rw [e]; exact ho
        · exact h' j (by omega) h2))⟩
      by_cases h0 : sK r (hs r i) = 0
      · rw [if_pos h0, if_neg i1]
        exact hgood (Or.inl h0)
      · rw [if_neg h0, if_pos rfl, rd_nI (n := 8) (by omega) (by decide), Option.bind_some, show qI q 1 i = nI (vk (sv r (hs r i))) from s3.1, o2]
        unfold f_X7_typeOf f_X7_typeOf_0
        rw [nI_lit8, nI_add, rd_nI (n := 24) (by omega) (by decide), Option.bind_some, y4, Option.bind_some]
        by_cases e : sK r (hs r i) = tY r t i
        · rw [if_pos (by rw [e])]
          exact hgood (Or.inr e)
        · rw [if_neg (fun z => e (nI_inj (by have := vOk_k o1; omega) (by omega) z))]
          refine ⟨fun h => ?_, fun _ => rfl⟩
          rcases h i (Nat.le_refl _) (by omega) with z | z
          · exact absurd z h0
          · exact absurd z e
theorem add_loop {r : QS} {q : QS} {S t w : Nat} {K : QS → Int32 → Int32 → Option (Int32 × QS)} (hS : SOk r S) (hH : SimH q r S) (ht : t < 3) (h : TabOk q r S t) (hw : w = tW r t) (fu : Nat) : ∀ (g : Int32) (i : Nat), (g = 0 ∨ g = 1) → i ≤ w → w - i < fu → ((g = 1 ∧ ∀ c, i ≤ c → c < w → hok r t c) → f_X10_add_33 K fu r (nI t) g (nI i) = K r (nI t) 1) ∧ (¬ (g = 1 ∧ ∀ c, i ≤ c → c < w → hok r t c) → f_X10_add_33 K fu r (nI t) g (nI i) = K r (nI t) 0) := by
  have hw8 : w ≤ 8 := by rw [hw]; exact h.2.1
  induction fu with
  | zero => intro g i _ _ h; omega
  | succ fu ih =>
    intro g i hg hi hf
    rw [f_X10_add_33, f_X10_add_33_b]
    rcases hg with h0 | h1
    · rw [if_pos h0]
      exact ⟨fun z => by rw [h0] at z; exact absurd z.1 (by decide), fun _ => by rw [h0]⟩
    · rw [if_neg (by rw [h1]; decide), rd_nI (by omega) (by decide), Option.bind_some, h.2.2.2.1, ← hw]
      by_cases he : i = w
      · subst he
        rw [if_pos (nI_le (Nat.le_refl _) (by omega)), h1]
        exact ⟨fun _ => rfl, fun h => absurd ⟨rfl, fun j h1 h2 => by omega⟩ h⟩
      · obtain ⟨s1, s2, s3⟩ := hs_eq hS hH (c := i) (by omega)
        obtain ⟨y1, y2, y3, y4⟩ := h.2.2.2.2.2.2.2.1 i (by omega)
        have hS1 := hS.1
        rw [if_neg (nI_ge (by omega) (by omega)), rd_nI (n := 8) (by omega) (by decide), Option.bind_some, s2]
        unfold f_X10_add_81 f_X10_add_86
        rw [nI_1]
        have hgood : hok r t i → ((g = 1 ∧ ∀ c, i ≤ c → c < w → hok r t c) → f_X10_add_33 K fu r (nI t) 1 (nI (i + 1)) = K r (nI t) 1) ∧ (¬ (g = 1 ∧ ∀ c, i ≤ c → c < w → hok r t c) → f_X10_add_33 K fu r (nI t) 1 (nI (i + 1)) = K r (nI t) 0) := fun ho => by
          obtain ⟨i1', i2'⟩ := ih 1 (i + 1) (Or.inr rfl) (by omega) (by omega)
          refine ⟨fun h => i1' ⟨rfl, fun j h1 h2 => h.2 j (by omega) h2⟩, fun h => i2' (fun h' => h ⟨h1, fun j h1 h2 => ?_⟩)⟩
          by_cases e : j = i
          · rw [e]; exact ho
          · exact h'.2 j (by omega) h2
        have hbad : ¬ hok r t i → ((g = 1 ∧ ∀ c, i ≤ c → c < w → hok r t c) → f_X10_add_33 K fu r (nI t) 0 (nI (i + 1)) = K r (nI t) 1) ∧ (¬ (g = 1 ∧ ∀ c, i ≤ c → c < w → hok r t c) → f_X10_add_33 K fu r (nI t) 0 (nI (i + 1)) = K r (nI t) 0) := fun ho => by
          obtain ⟨i1', i2'⟩ := ih 0 (i + 1) (Or.inl rfl) (by omega) (by omega)
          exact ⟨fun h => absurd (h.2 i (Nat.le_refl _) (by omega)) ho, fun h => i2' (fun h' => absurd h'.1 (by decide))⟩
        by_cases hz : hs r i = 0
        · rw [hz, if_pos (show nI 0 = (0 : Int32) from rfl)]
          exact hgood (Or.inl (by rw [hz]; exact hS.2.2.2.2.1))
        · rw [if_neg (show ¬ nI (hs r i) = 0 from cNe (c := 0) hz (by omega) (by decide)), Option.bind_some, rd_nI (n := 520) (by omega) (by decide), Option.bind_some, (hS.2.1 _ s1).2.2.2.1, lit8_nI, nI_add, rd_nI (n := 24) (by omega) (by decide), Option.bind_some, y3]
          have hk4 := (hS.2.1 _ s1).2.2.2.2.2.2.1
          have hk1 := (hS.2.2.2.2.2.2 _ (by omega) s1).2.1
          by_cases e : sK r (hs r i) = tY r t i
          · rw [if_pos (by rw [e])]
            exact hgood (Or.inr e)
          · rw [if_neg (fun z => e (nI_inj (by omega) (by omega) z))]
            refine hbad (fun z => ?_)
            rcases z with z | z
            · omega
            · exact e z
theorem acp_loop {S t w R : Nat} {x : Nat → Vl} (ht : t < 3) (hw : w ≤ 8) (hR : R < 40) (hx4 : ∀ c, c < w → vk (x c) < 4) (fu : Nat) : ∀ (q : QS) (i : Nat), qI q 26 t = nI w → qI q 28 t = nI R → i ≤ w → w - i < fu → (∀ c, c < w → VC q 0 c (x c)) → (∀ c, c < i → VC q 1 ((t * 40 + R) * 8 + c) (x c)) → ∃ q', f_X7_append_32 fu q (nI t) (nI i) = some (nI (R + 1), q') ∧ (∀ k, k ≠ 4 → k ≠ 28 → qI q' k = qI q k) ∧ qI q' 28 = upd (qI q 28) t (nI (R + 1)) ∧ (∀ k, k ≠ 5 → qL q' k = qL q k) ∧ qF q' = qF q ∧ qC q' = qC q ∧ (∀ p z, (p < (t * 40 + R) * 8 ∨ (t * 40 + R) * 8 + 8 ≤ p) → VC q 1 p z → VC q' 1 p z) ∧ ∀ c, c < w → VC q' 1 ((t * 40 + R) * 8 + c) (x c) := by
  induction fu with
  | zero => intro q i _ _ _ h; omega
  | succ fu ih =>
    intro q i h26 h28 hi hf h0 hd
    rw [f_X7_append_32, f_X7_append_32_b, rd_nI (by omega) (by decide), Option.bind_some, h26]
    by_cases he : i = w
    · subst he
      rw [if_pos (nI_le (Nat.le_refl _) (by omega)), rd_nI (by omega) (by decide), Option.bind_some, h28, nI_1, wI_nI (by omega) (by decide), Option.bind_some, rd_nI (by omega) (by decide), Option.bind_some, qI_uI, if_pos rfl, upd_at, if_pos rfl]
      exact ⟨_, rfl, fun k _ hk => by rw [qI_uI, if_neg hk], by rw [qI_uI, if_pos rfl], fun _ _ => rfl, rfl, rfl, fun p z _ hz => VC_congr (q := q) (v := 1) rfl rfl hz, fun c hc => VC_congr (q := q) (v := 1) rfl rfl (hd c hc)⟩
    · rw [if_neg (nI_ge (by omega) (by omega)), rd_nI (by omega) (by decide), Option.bind_some, h28]
      unfold f_X7_placeOf f_X7_placeOf_0
      rw [nI_lit40, nI_add, nI_lit8, nI_add, Option.bind_some, nI_1]
      obtain ⟨q1, a1, a2, a3⟩ := v_copy (q := q) (v := 1) (u := 0) (i := (t * 40 + R) * 8 + i) (j := i) (h0 i (by omega)) (hx4 i (by omega)) (show _ < 960 by omega) (by show 960 < 20000; decide) (show i < 8 by omega) (by show 8 < 20000; decide)
      rw [a1, Option.bind_some]
      obtain ⟨q', b1, b2, b3, b4, b5, b6, b7, b8⟩ := ih q1 (i + 1) (by rw [a3.1 26 (by decide)]; exact h26) (by rw [a3.1 28 (by decide)]; exact h28) (by omega) (by omega) (fun c hc => (h0 c hc).other a3 (Or.inl (by decide))) (fun c hc => by
        by_cases e : c = i
        · rw [e]; exact a2
        · exact (hd c (by omega)).other a3 (Or.inr (by omega)))
      exact ⟨q', b1, fun k hk hk2 => by rw [b2 k hk hk2, a3.1 k hk], by rw [b3, a3.1 28 (by decide)], fun k hk => by rw [b4 k hk, a3.2.2.1 k hk], by rw [b5, a3.2.2.2.2.1], by rw [b6, a3.2.2.2.2.2], fun p z hp hz => b7 p z hp (hz.other a3 (Or.inr (by omega))), b8⟩
theorem rcp_loop {t R : Nat} {y : Nat → Nat} (ht : t < 3) (hR : R < 40) (hy : ∀ c, c < 8 → y c < 600) (fu : Nat) : ∀ (r : QS) (i : Nat), qI r 9 t = nI R → (∀ c, c < 8 → qI r 6 c = nI (y c)) → i ≤ 8 → 8 - i < fu → (∀ c, c < i → qI r 10 (8 * (40 * t + R) + c) = nI (y c)) → ∃ r', f_X10_add_101 fu r (nI t) (nI i) = some (nI (R + 1), r') ∧ (∀ k, k ≠ 9 → k ≠ 10 → qI r' k = qI r k) ∧ qI r' 9 = upd (qI r 9) t (nI (R + 1)) ∧ qL r' = qL r ∧ qF r' = qF r ∧ (∀ p, (p < 8 * (40 * t + R) ∨ 8 * (40 * t + R) + 8 ≤ p) → qI r' 10 p = qI r 10 p) ∧ ∀ c, c < 8 → qI r' 10 (8 * (40 * t + R) + c) = nI (y c) := by
  induction fu with
  | zero => intro r i _ _ _ h; omega
  | succ fu ih =>
    intro r i h9 h6 hi hf hd
    rw [f_X10_add_101, f_X10_add_101_b]
    by_cases he : i = 8
    · subst he
      rw [if_pos (show (8 : Int32) ≤ nI 8 by decide), rd_nI (by omega) (by decide), Option.bind_some, h9, nI_1, wI_nI (by omega) (by decide), Option.bind_some, rd_nI (by omega) (by decide), Option.bind_some, qI_uI, if_pos rfl, upd_at, if_pos rfl]
      exact ⟨_, rfl, fun k hk _ => by rw [qI_uI, if_neg hk], by rw [qI_uI, if_pos rfl], rfl, rfl, fun p _ => by rw [qI_uI, if_neg (by decide)], fun c hc => by rw [qI_uI, if_neg (by decide)]; exact hd c hc⟩
    · rw [if_neg (show ¬ (8 : Int32) ≤ nI i from nI_ge (b := 8) (by omega) (by decide)), rd_nI (by omega) (by decide), Option.bind_some, h9, rd_nI (by omega) (by decide), Option.bind_some, h6 i (by omega), ns16 (hy i (by omega)), lit40_nI, nI_add, lit8_nI, nI_add, wI_nI (by omega) (by decide), Option.bind_some, nI_1]
      obtain ⟨r', b1, b2, b3, b4, b5, b6, b7⟩ := ih (uI r 10 (8 * (40 * t + R) + i) (nI (y i))) (i + 1) h9 h6 (by omega) (by omega) (fun c hc => by
        rw [qI_uI, if_pos rfl, upd_at]
        by_cases e : c = i
        · rw [if_pos (by omega), e]
        · rw [if_neg (by omega)]; exact hd c (by omega))
      exact ⟨r', b1, fun k hk hk2 => by rw [b2 k hk hk2, qI_uI, if_neg hk2], b3, b4, b5, fun p hp => by rw [b6 p hp, qI_uI, if_pos rfl, upd_at, if_neg (by omega)], b7⟩
theorem st_6 {κ n : Nat} {q r : QS} (h : Sim κ n q r) (x : Int32) : ∃ a q' r', f_X9_add q x = some (a, q') ∧ f_X10_add r x = some (a, r') ∧ Sim κ n q' r' := by
  have hsim := h
  obtain ⟨S, T, N, I, G, O, K, I', hS, hnS, hf, hH, hT, hN, hQ, hA, hC⟩ := h
  obtain ⟨t1, t2, t3, t4⟩ := id hT
  have hS1 := hS.1
  have e29 : ∀ x, f_X10_add_29 r x = some (-1, r) := fun x => by
    unfold f_X10_add_29 f_X10_add_30
    rw [show FU = 99999 + 1 from rfl, f_X10_add_33, f_X10_add_33_b, if_pos rfl]
    unfold f_X10_add_93
    rw [if_pos rfl]
  unfold f_X9_add f_X9_add_0 f_X7_append f_X7_append_0 f_X7_has f_X7_has_0 f_X10_add f_X10_add_0
  rcases ix_cases x T (by omega) with hx | ⟨t, ht, rfl⟩
  · refine ⟨-1, q, r, ?_, ?_, hsim⟩
    · rw [t2]
      by_cases h0 : x < 0
      · rw [if_pos h0]; rfl
      · rw [if_neg h0, if_pos (hx.resolve_left h0)]; rfl
    · rw [t3, in_no (by omega) hx, Option.bind_some, if_pos rfl, e29]
  · have hto := t4 t ht
    obtain ⟨b1, b2, b3, b4, b5, b6, b7, b8, b9⟩ := id hto
    rw [t2, t3, if_neg (nI_pos (by omega)), if_neg (nI_ge ht (by omega)), in_yes (by omega) ht]
    simp only [Option.bind_some, if_neg i1]
    rw [rd_nI (f := qI q 28) (by omega) (by decide), rd_nI (f := qI r 9) (by omega) (by decide), b6, b7, e29]
    simp only [Option.bind_some]
    by_cases h40 : tR r t = 40
    · refine ⟨-1, q, r, ?_, ?_, hsim⟩
      · rw [if_pos (show (40 : Int32) ≤ nI (tR r t) from nI_le (a := 40) (by omega) (by omega))]; rfl
      · rw [if_pos (show (40 : Int32) ≤ nI (tR r t) from nI_le (a := 40) (by omega) (by omega))]
    rw [if_neg (show ¬ (40 : Int32) ≤ nI (tR r t) from nI_ge (b := 40) (by omega) (by decide)), if_neg (show ¬ (40 : Int32) ≤ nI (tR r t) from nI_ge (b := 40) (by omega) (by decide))]
    unfold f_X7_takes f_X7_takes_0 f_X10_add_30
    obtain ⟨l1, l2⟩ := tk_loop hS hH (show t < 3 by omega) hto rfl FU 0 (Nat.zero_le _) (by show tW r t - 0 < 100000; omega)
    obtain ⟨m1, m2⟩ := add_loop (K := f_X10_add_93) hS hH (show t < 3 by omega) hto rfl FU 1 0 (Or.inr rfl) (Nat.zero_le _) (by show tW r t - 0 < 100000; omega)
    have l1' : _ → f_X7_takes_2 q FU (nI t) 0 = some 1 := l1
    have l2' : _ → f_X7_takes_2 q FU (nI t) 0 = some 0 := l2
    have m1' : _ → f_X10_add_33 f_X10_add_93 FU r (nI t) 1 0 = f_X10_add_93 r (nI t) 1 := m1
    have m2' : _ → f_X10_add_33 f_X10_add_93 FU r (nI t) 1 0 = f_X10_add_93 r (nI t) 0 := m2
    by_cases hg : ∀ c, 0 ≤ c → c < tW r t → hok r t c
    · rw [l1' hg, m1' ⟨rfl, hg⟩]
      unfold f_X10_add_93
      simp only [Option.bind_some, if_neg i1]
      have hok4 : ∀ c, c < 8 → vOk (sv r (hs r c)) ∧ vk (sv r (hs r c)) = sK r (hs r c) := fun c hc => sv_ok hS (hs_eq hS hH hc).1
      obtain ⟨q', a1, a2, a3, a4, a5, a6, a7, a8⟩ := acp_loop (S := S) (x := fun c => sv r (hs r c)) (show t < 3 by omega) b2 (show tR r t < 40 by omega) (fun c hc => vOk_k (hok4 c (by omega)).1) FU q 0 b5 b7 (Nat.zero_le _) (by show tW r t - 0 < 100000; omega) (fun c hc => (hs_eq hS hH (by omega)).2.2) (fun c hc => by omega)
      obtain ⟨r', d1, d2, d3, d4, d5, d6, d7⟩ := rcp_loop (y := hs r) (show t < 3 by omega) (show tR r t < 40 by omega) (fun c hc => by have := (hs_eq hS hH hc).1; omega) FU r 0 b6 (fun c hc => (hs_eq hS hH hc).2.1) (Nat.zero_le _) (by decide) (fun c hc => by omega)
      have a1' : f_X7_append_32 FU q (nI t) 0 = some (nI (tR r t + 1), q') := a1
      have d1' : f_X10_add_101 FU r (nI t) 0 = some (nI (tR r t + 1), r') := d1
      rw [a1', d1']
      refine ⟨_, q', r', rfl, rfl, ?_⟩
      have hSt : SameTo S r r' := fun s _ => ⟨by rw [d2 1 (by decide) (by decide)], by rw [d2 3 (by decide) (by decide)], by rw [d2 4 (by decide) (by decide)], by rw [d2 5 (by decide) (by decide)], by rw [d4]⟩
      refine Sim_tab hS hnS hf hH hT hN hQ hA hC (Nat.le_refl T) t1 (by rw [a5]; exact t2) (by rw [d5]; exact t3) (fun k h1 _ _ h2 => a2 k h1 h2) a4 (fun k _ => by rw [a5]) a6 (fun k _ _ h1 h2 => d2 k h1 h2) d4 (fun k _ => by rw [d5]) (fun t _ => by rw [d2 7 (by decide) (by decide)]) (fun t c _ _ => by rw [d2 8 (by decide) (by decide)]) (fun u hu => ?_)
      by_cases e : u = t
      · subst e
        have w1 : tW r' u = tW r u := by unfold tW; rw [d2 7 (by decide) (by decide)]
        have w2 : tR r' u = tR r u + 1 := by unfold tR; rw [d3, upd_at, if_pos rfl]; exact nt_nI (show nt (qI r 9 u) + 1 < 2 ^ 31 from (by have : tR r u ≤ 40 := b3; unfold tR at this; omega))
        have w3 : ∀ c, tY r' u c = tY r u c := fun c => by unfold tY; rw [d2 8 (by decide) (by decide)]
        unfold TabOk
        rw [w1, w2, d2 7 (by decide) (by decide), d2 8 (by decide) (by decide), a2 26 (by decide) (by decide), a2 27 (by decide) (by decide), d3, a3, upd_at, upd_at, if_pos rfl, if_pos rfl]
        refine ⟨b1, b2, by omega, b4, b5, rfl, rfl, fun c hc => by rw [w3]; exact b8 c hc, fun row c hrow hc => ?_⟩
        by_cases er : row = tR r u
        · subst er
          obtain ⟨s1, s2, s3⟩ := hs_eq hS hH (c := c) (by omega)
          have k1 : tC r' u (tR r u) c = hs r c := by unfold tC; rw [d7 c (by omega)]; exact nt_nI (by omega)
          rw [k1, w3, to_sK hSt s1]
          refine ⟨⟨hs r c, s1, d7 c (by omega), ?_⟩, hg c (Nat.zero_le _) hc⟩
          rw [to_sv hSt hS s1]
          exact a8 c hc
        · obtain ⟨⟨s, z1, z2, z3⟩, z4⟩ := b9 row c (by omega) hc
          have k0 : qI r' 10 (8 * (40 * u + row) + c) = qI r 10 (8 * (40 * u + row) + c) := d6 _ (by omega)
          have k1 : tC r' u row c = tC r u row c := by unfold tC; rw [k0]
          have k2 : tC r u row c = s := by unfold tC nt; rw [z2]; exact nI_clamp (by omega)
          rw [k1, w3, k2, to_sK hSt z1, k0]
          rw [k2] at z4
          refine ⟨⟨s, z1, z2, ?_⟩, z4⟩
          rw [to_sv hSt hS z1]
          exact a7 _ _ (by omega) z3
      · exact (t4 u hu).at hS hSt (by rw [d2 7 (by decide) (by decide)]) (by rw [d3, upd_at, if_neg e]) (fun c hc => by rw [d2 8 (by decide) (by decide)]) (by rw [a2 26 (by decide) (by decide)]) (by rw [a3, upd_at, if_neg e]) (fun c hc => by rw [a2 27 (by decide) (by decide)]) (fun row c hrow hc => d6 _ (by omega)) (fun row c z hrow hc hz => a7 _ _ (by omega) hz)
    · rw [l2' hg, m2' (fun h => hg h.2)]
      refine ⟨-1, q, r, rfl, ?_, hsim⟩
      unfold f_X10_add_93
      rw [if_pos rfl]
