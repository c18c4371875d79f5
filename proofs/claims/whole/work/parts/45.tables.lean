/-! one table and one node, where arrays have changed elsewhere -/
theorem TabOk.at {q q' r r' : QS} {S t : Nat} (hS : SOk r S) (hr : SameTo S r r') (e7 : qI r' 7 t = qI r 7 t) (e9 : qI r' 9 t = qI r 9 t) (e8 : ∀ c, c < 8 → qI r' 8 (8 * t + c) = qI r 8 (8 * t + c)) (c26 : qI q' 26 t = qI q 26 t) (c28 : qI q' 28 t = qI q 28 t) (c27 : ∀ c, c < 8 → qI q' 27 (t * 8 + c) = qI q 27 (t * 8 + c)) (e10 : ∀ row c, row < 40 → c < 8 → qI r' 10 (8 * (40 * t + row) + c) = qI r 10 (8 * (40 * t + row) + c)) (hv : ∀ row c x, row < 40 → c < 8 → VC q 1 ((t * 40 + row) * 8 + c) x → VC q' 1 ((t * 40 + row) * 8 + c) x) (h : TabOk q r S t) : TabOk q' r' S t := by
  have a1 : tW r' t = tW r t := by unfold tW; rw [e7]
  have a2 : tR r' t = tR r t := by unfold tR; rw [e9]
  obtain ⟨b1, b2, b3, b4, b5, b6, b7, b8, b9⟩ := h
  have a3 : ∀ c, c < tW r t → tY r' t c = tY r t c := fun c hc => by unfold tY; rw [e8 c (by omega)]
  unfold TabOk
  rw [a1, a2, e7, e9, c26, c28]
  refine ⟨b1, b2, b3, b4, b5, b6, b7, fun c hc => ?_, fun row c hr1 hc => ?_⟩
  · rw [a3 c hc, e8 c (by omega), c27 c (by omega)]; exact b8 c hc
  · obtain ⟨⟨s, z1, z2, z3⟩, z4⟩ := b9 row c hr1 hc
    have ee := e10 row c (by omega) (by omega)
    have k1 : tC r' t row c = tC r t row c := by unfold tC; rw [ee]
    have k2 : tC r t row c = s := by unfold tC nt; rw [z2]; exact nI_clamp (by have := hS.1; omega)
    rw [k1, a3 c hc, k2, to_sK hr z1, ee]
    rw [k2] at z4
    refine ⟨⟨s, z1, z2, ?_⟩, z4⟩
    rw [to_sv hr hS z1]
    exact hv row c _ (by omega) (by omega) z3
theorem NodOk.at {q q' r r' : QS} {S T T' i : Nat} (hS : SOk r S) (hr : SameTo S r r') (hT : T ≤ T') (hw : ∀ t, t < T → tW r' t = tW r t ∧ tW r t ≤ 8 ∧ ∀ c, c < 8 → tY r' t c = tY r t c) (he : ∀ k j, 11 ≤ k → k ≤ 15 → j ≤ i → qI r' k j = qI r k j) (hc : ∀ k, 30 ≤ k → k ≤ 36 → qI q' k i = qI q k i) (hu : (qI r' 16 i = 0 ∨ qI r' 16 i = 1) ∧ qI q' 37 i = qI r' 16 i) (hus : ∀ j, j < i → qI r 16 j = 1 → qI r' 16 j = 1) (h7 : ∀ s, VC q 2 i (sv r s) → VC q' 2 i (sv r s)) (h : NodOk q r S T i) : NodOk q' r' S T' i := by
  have b1 : nK r' i = nK r i := by unfold nK; rw [he 11 i (by decide) (by decide) (Nat.le_refl _)]
  have b2 : nA r' i = nA r i := by unfold nA; rw [he 12 i (by decide) (by decide) (Nat.le_refl _)]
  have b3 : nB r' i = nB r i := by unfold nB; rw [he 13 i (by decide) (by decide) (Nat.le_refl _)]
  have b4 : ∀ j, j ≤ i → nT r' j = nT r j := fun j hj => by unfold nT; rw [he 14 j (by decide) (by decide) hj]
  obtain ⟨h1, h2, h3, h4, h5, h6, h7', h8, h9, h10, h11, h12, h13, h14⟩ := h
  unfold NodOk
  rw [b1, b2, b3, b4 i (Nat.le_refl _), he 11 i (by decide) (by decide) (Nat.le_refl _), he 12 i (by decide) (by decide) (Nat.le_refl _), he 13 i (by decide) (by decide) (Nat.le_refl _), he 14 i (by decide) (by decide) (Nat.le_refl _), he 15 i (by decide) (by decide) (Nat.le_refl _), hc 30 (by decide) (by decide), hc 31 (by decide) (by decide), hc 32 (by decide) (by decide), hc 33 (by decide) (by decide), hc 34 (by decide) (by decide), hc 35 (by decide) (by decide), hc 36 (by decide) (by decide)]
  refine ⟨h1, h2, h3, h4, h5, h6, h7', h8, hu.1, hu.2, fun hk => ?_, fun hk => ?_, h13, fun hk => ?_⟩
  · obtain ⟨c1, c2, ⟨s, s1, s2, s3⟩, c4, c5⟩ := h11 hk
    have hs : nA r i = s := by unfold nA nt; rw [s2]; exact nI_clamp (by have := hS.1; omega)
    refine ⟨c1, c2, ⟨s, s1, s2, ?_⟩, ?_, c5⟩
    · rw [to_sv hr hS s1]; exact h7 s s3
    · rw [hs, to_sK hr s1, ← hs]; exact c4
  · obtain ⟨c1, c2, c3, c4, c5, c6, c7, c8, c9⟩ := h12 hk
    obtain ⟨w1, w2, w3⟩ := hw _ c2
    refine ⟨c1, by omega, by rw [w1]; exact c3, c4, c5, c6, c7, ?_, c9⟩
    rw [w3 _ (by omega)]; exact c8
  · obtain ⟨c1, c2, c3, c4, c5, c6, c7⟩ := h14 hk
    rw [b4 _ (by omega), he 15 _ (by decide) (by decide) (show nA r i ≤ i by omega)]
    obtain ⟨c7, t1, t2, t3⟩ := c7
    have pe : ∀ j x, j ≤ i → (prt r' j x ↔ prt r j x) := fun j x hj => by
      unfold prt nK nA nB
      rw [he 11 j (by decide) (by decide) hj, he 12 j (by decide) (by decide) hj, he 13 j (by decide) (by decide) hj]
    have pl : ∀ x, prt r i x → x < i := fun x hx => by
      rcases hx.2 with h | ⟨h, h'⟩
      · rw [h]; exact c1
      · rw [h']; exact (c6 h).1
    refine ⟨c1, c2, c3, c4, c5, fun h2 => ?_, c7, ⟨fun x hx => ?_, ?_, fun j x hj hx hy => ?_⟩⟩
    rotate_left
    · have := (pe i x (Nat.le_refl _)).mp hx
      exact hus x (pl x this) (t1 x this)
    · rw [b1, b2, b3]; exact t2
    · exact t3 j x hj ((pe i x (Nat.le_refl _)).mp hx) ((pe j x (by omega)).mp hy)
    obtain ⟨d1, d2, d3, d4, d5⟩ := c6 h2
    rw [b4 _ (by omega), he 15 _ (by decide) (by decide) (show nB r i ≤ i by omega)]
    exact ⟨d1, d2, d3, d4, d5⟩
/-! tables -/
/-- what is left of a number's digits -/
def rst (x : Int32) : Nat → Int32
  | 0 => x
  | i + 1 => rst x i / 10
def dgt (x : Int32) (i : Nat) : Int32 := rst x i - rst x i / (10 : Int32) * (10 : Int32)
def okd (d : Int32) : Prop := ¬ d < 1 ∧ d ≤ 3
theorem okd_n {d : Int32} (h : okd d) : ∃ n, 1 ≤ n ∧ n ≤ 3 ∧ d = nI n := by
  obtain ⟨h1, h2⟩ := h
  rcases ix_cases d 4 (by decide) with hx | ⟨n, hn, rfl⟩
  · exfalso
    rcases hx with hx | hx
    · refine h1 ?_
      rw [i32_lt] at hx ⊢
      have e0 : (0 : Int32).toInt = 0 := rfl
      have e1 : (1 : Int32).toInt = 1 := rfl
      rw [e0] at hx; rw [e1]; omega
    · rw [i32_le, nI_toInt (by decide)] at hx
      rw [i32_le] at h2
      have e3 : (3 : Int32).toInt = 3 := rfl
      rw [e3] at h2; omega
  · refine ⟨n, ?_, by omega, rfl⟩
    rcases Nat.eq_zero_or_pos n with h | h
    · subst h; exact absurd (show nI 0 < (1 : Int32) by decide) h1
    · exact h
theorem okd_in {d : Int32} : (okd d → f_X10_in d 1 3 = some 1) ∧ (¬ okd d → f_X10_in d 1 3 = some 0) := by
  constructor
  · intro h
    refine f_in_yes h.1 ?_
    have h2 := h.2
    rw [i32_le] at h2
    rw [i32_lt]; omega
  · intro h
    refine f_in_no ?_
    by_cases h1 : d < 1
    · exact Or.inl h1
    · refine Or.inr ?_
      have h2 : ¬ d ≤ 3 := fun z => h ⟨h1, z⟩
      rw [i32_le] at h2
      rw [i32_lt]; omega
theorem at_loop {x : Int32} {w : Nat} (hw : w ≤ 8) (fu : Nat) : ∀ i, i ≤ w → w - i < fu → ((∀ j, i ≤ j → j < w → okd (dgt x j)) → f_X7_areTypes_21 fu (nI w) (rst x i) (nI i) = some 1) ∧ (¬ (∀ j, i ≤ j → j < w → okd (dgt x j)) → f_X7_areTypes_21 fu (nI w) (rst x i) (nI i) = some 0) := by
  induction fu with
  | zero => intro i _ h; omega
  | succ fu ih =>
    intro i hi hf
    rw [f_X7_areTypes_21, f_X7_areTypes_21_b]
    by_cases he : i = w
    · subst he
      rw [if_pos (nI_le (Nat.le_refl _) (by omega))]
      exact ⟨fun _ => rfl, fun h => absurd (fun j h1 h2 => by omega) h⟩
    · rw [if_neg (nI_ge (by omega) (by omega)), nI_1, show rst x i / (10 : Int32) = rst x (i + 1) from rfl]
      have hd : rst x i - rst x (i + 1) * (10 : Int32) = dgt x i := rfl
      rw [hd]
      obtain ⟨i1, i2⟩ := ih (i + 1) (by omega) (by omega)
      by_cases ho : okd (dgt x i)
      · rw [if_neg ho.1, if_pos ho.2]
        refine ⟨fun h => i1 (fun j h1 h2 => h j (by omega) h2), fun h => i2 (fun h' => h (fun j h1 h2 => ?_))⟩
        by_cases e : j = i
        · rw [e]; exact ho
        · exact h' j (by omega) h2
      · refine ⟨fun h => absurd (h i (Nat.le_refl _) (by omega)) ho, fun _ => ?_⟩
        by_cases h1 : dgt x i < 1
        · rw [if_pos h1]
        · rw [if_neg h1, if_neg (fun h2 => ho ⟨h1, h2⟩)]
/-- digits written from i on -/
def Dig (k T : Nat) (x : Int32) (i w : Nat) (q q' : QS) : Prop := (∀ k', k' ≠ k → qI q' k' = qI q k') ∧ qL q' = qL q ∧ qF q' = qF q ∧ qC q' = qC q ∧ ∀ j, qI q' k j = if 8 * T + i ≤ j ∧ j < 8 * T + w then dgt x (j - 8 * T) else qI q k j
theorem Dig.nil {k T : Nat} {x : Int32} {w : Nat} {q : QS} : Dig k T x w w q q := ⟨fun _ _ => rfl, rfl, rfl, rfl, fun j => by rw [if_neg (by omega)]⟩
theorem Dig.step {k T : Nat} {x : Int32} {i w : Nat} {q q' : QS} (hi : i < w) (h : Dig k T x (i + 1) w (uI q k (8 * T + i) (dgt x i)) q') : Dig k T x i w q q' := by
  obtain ⟨h1, h2, h3, h4, h5⟩ := h
  refine ⟨fun k' hk => by rw [h1 k' hk, qI_uI, if_neg hk], h2, h3, h4, fun j => ?_⟩
  rw [h5 j, qI_uI, if_pos rfl, upd_at]
  by_cases e : j = 8 * T + i
  · subst e
    rw [if_neg (by omega), if_pos rfl, if_pos (by omega), show 8 * T + i - 8 * T = i by omega]
  · rw [if_neg e]
    by_cases c : 8 * T + (i + 1) ≤ j ∧ j < 8 * T + w
    · rw [if_pos c, if_pos (by omega)]
    · rw [if_neg c, if_neg (by omega)]
theorem create_loop {x : Int32} {w T : Nat} {K : QS → Int32 → Option (Int32 × QS)} (hw : w ≤ 8) (hT : T < 3) (fu : Nat) : ∀ (q : QS) (i : Nat), qF q 14 = nI T → i ≤ w → w - i < fu → ∃ q', f_X7_create_23 K fu q (nI w) (rst x i) (nI i) = K q' (nI w) ∧ Dig 27 T x i w q q' := by
  induction fu with
  | zero => intro q i _ _ h; omega
  | succ fu ih =>
    intro q i hq hi hf
    rw [f_X7_create_23, f_X7_create_23_b]
    by_cases he : i = w
    · subst he
      rw [if_pos (nI_le (Nat.le_refl _) (by omega))]
      exact ⟨q, rfl, Dig.nil⟩
    · rw [if_neg (nI_ge (by omega) (by omega)), nI_1, show rst x i / (10 : Int32) = rst x (i + 1) from rfl, show rst x i - rst x (i + 1) * (10 : Int32) = dgt x i from rfl, hq, nI_lit8, nI_add, wI_nI (by omega) (by decide), Option.bind_some]
      obtain ⟨q', a1, a2⟩ := ih (uI q 27 (T * 8 + i) (dgt x i)) (i + 1) hq (by omega) (by omega)
      rw [show T * 8 + i = 8 * T + i by omega] at a1 a2 ⊢
      exact ⟨q', a1, Dig.step (by omega) a2⟩
theorem tab_loop {x : Int32} {w T : Nat} {K : QS → Int32 → Int32 → Option (Int32 × QS)} (hw : w ≤ 8) (hT : T < 3) (fu : Nat) : ∀ (r : QS) (g : Int32) (i : Nat), (g = 0 ∨ g = 1) → qF r 1 = nI T → i ≤ w → w - i < fu → ∃ r' z, f_X10_table_32 K fu r (nI w) (rst x i) g (nI i) = K r' (nI w) z ∧ Dig 8 T x i w r r' ∧ ((g = 1 ∧ ∀ j, i ≤ j → j < w → okd (dgt x j)) → z = 1) ∧ (¬ (g = 1 ∧ ∀ j, i ≤ j → j < w → okd (dgt x j)) → z = 0) := by
  induction fu with
  | zero => intro r g i _ _ _ h; omega
  | succ fu ih =>
    intro r g i hg hq hi hf
    rw [f_X10_table_32, f_X10_table_32_b]
    by_cases he : i = w
    · subst he
      rw [if_pos (nI_le (Nat.le_refl _) (by omega))]
      refine ⟨r, g, rfl, Dig.nil, fun h => h.1, fun h => ?_⟩
      rcases hg with h0 | h1
      · exact h0
      · exact absurd ⟨h1, fun j a b => by omega⟩ h
    · rw [if_neg (nI_ge (by omega) (by omega))]
      have hgo : ∀ t0, (t0 = 0 ∨ t0 = 1) → ∃ r' z, f_X10_table_60 (f_X10_table_32 K fu) r (nI w) (rst x i) (nI i) t0 = K r' (nI w) z ∧ Dig 8 T x i w r r' ∧ ((t0 = 1 ∧ ∀ j, i + 1 ≤ j → j < w → okd (dgt x j)) → z = 1) ∧ (¬ (t0 = 1 ∧ ∀ j, i + 1 ≤ j → j < w → okd (dgt x j)) → z = 0) := by
        intro t0 ht
        unfold f_X10_table_60
        rw [nI_1, show rst x i / (10 : Int32) = rst x (i + 1) from rfl, show rst x i - rst x (i + 1) * (10 : Int32) = dgt x i from rfl, hq, lit8_nI, nI_add, wI_nI (by omega) (by decide), Option.bind_some]
        obtain ⟨r', z, a1, a2, a3, a4⟩ := ih (uI r 8 (8 * T + i) (dgt x i)) t0 (i + 1) ht hq (by omega) (by omega)
        exact ⟨r', z, a1, Dig.step (by omega) a2, a3, a4⟩
      rcases hg with h0 | h1
      · rw [if_pos h0]
        obtain ⟨r', z, a1, a2, a3, a4⟩ := hgo 0 (Or.inl rfl)
        refine ⟨r', z, a1, a2, fun h => ?_, fun _ => a4 (fun h => absurd h.1 (by decide))⟩
        have := h.1
        rw [h0] at this
        exact absurd this (by decide)
      · rw [if_neg (by rw [h1]; decide), show rst x i - rst x i / (10 : Int32) * (10 : Int32) = dgt x i from rfl]
        by_cases ho : okd (dgt x i)
        · rw [okd_in.1 ho, Option.bind_some, if_neg i1]
          obtain ⟨r', z, a1, a2, a3, a4⟩ := hgo 1 (Or.inr rfl)
          refine ⟨r', z, a1, a2, fun h => a3 ⟨rfl, fun j b1 b2 => h.2 j (by omega) b2⟩, fun h => a4 (fun h' => h ⟨h1, fun j b1 b2 => ?_⟩)⟩
          by_cases e : j = i
          · rw [e]; exact ho
          · exact h'.2 j (by omega) b2
        · rw [okd_in.2 ho, Option.bind_some, if_pos rfl]
          obtain ⟨r', z, a1, a2, a3, a4⟩ := hgo 0 (Or.inl rfl)
          exact ⟨r', z, a1, a2, fun h => absurd (h.2 i (Nat.le_refl _) (by omega)) ho, fun _ => a4 (fun h => absurd h.1 (by decide))⟩
/-- tables alone have changed, those before T as they were -/
theorem Sim_tab {κ n : Nat} {q r q' r' : QS} {S T T' N I G O K I' : Nat} (hS : SOk r S) (hn : S ≤ n) (hf : qF r 0 = nI S) (hH : SimH q r S) (hT : SimT q r S T) (hN : SimN q r S T N) (hQ : SimQ q r N I G O) (hA : SimA q r K I') (hC : SimC κ q)
    (hle : T ≤ T') (h3 : T' ≤ 3) (f14 : qF q' 14 = nI T') (f1 : qF r' 1 = nI T')
    (gq : ∀ k, k ≠ 4 → k ≠ 26 → k ≠ 27 → k ≠ 28 → qI q' k = qI q k) (gl : ∀ k, k ≠ 5 → qL q' k = qL q k) (gf : ∀ k, k ≠ 14 → qF q' k = qF q k) (gc : qC q' = qC q)
    (er : ∀ k, k ≠ 7 → k ≠ 8 → k ≠ 9 → k ≠ 10 → qI r' k = qI r k) (el : qL r' = qL r) (ef : ∀ k, k ≠ 1 → qF r' k = qF r k)
    (k7 : ∀ t, t < T → qI r' 7 t = qI r 7 t) (k8 : ∀ t c, t < T → c < 8 → qI r' 8 (8 * t + c) = qI r 8 (8 * t + c))
    (hnew : ∀ t, t < T' → TabOk q' r' S t) : Sim κ n q' r' := by
  have hto : SameTo S r r' := fun s _ => ⟨by rw [er 1 (by decide) (by decide) (by decide) (by decide)], by rw [er 3 (by decide) (by decide) (by decide) (by decide)], by rw [er 4 (by decide) (by decide) (by decide) (by decide)], by rw [er 5 (by decide) (by decide) (by decide) (by decide)], by rw [el]⟩
  refine ⟨S, T', N, I, G, O, K, I', to_SOk hto hS, hn, by rw [ef 0 (by decide)]; exact hf, hH.congr hS hto (er 6 (by decide) (by decide) (by decide) (by decide)) (gq 1 (by decide) (by decide) (by decide) (by decide)) (gl 2 (by decide)), ⟨h3, f14, f1, hnew⟩, ⟨hN.1, by rw [gf 2 (by decide)]; exact hN.2.1, by rw [ef 2 (by decide)]; exact hN.2.2.1, fun i hi => ?_⟩, ?_, hA.congr (ef 11 (by decide)) (ef 12 (by decide)) (gf 0 (by decide)) (gf 1 (by decide)) (er 38 (by decide) (by decide) (by decide) (by decide)) (by rw [el]) (er 40 (by decide) (by decide) (by decide) (by decide)) (by rw [el]) (gq 10 (by decide) (by decide) (by decide) (by decide)) (gl 11 (by decide)), hC.congr (gf 12 (by decide)) gc⟩
  · have hnod := hN.2.2.2 i hi
    refine hnod.at hS hto hle (fun t ht => ?_) (fun k j a b _ => by rw [er k (by omega) (by omega) (by omega) (by omega)]) (fun k a b => by rw [gq k (by omega) (by omega) (by omega) (by omega)]) ⟨?_, ?_⟩ (fun j _ h => by rw [er 16 (by decide) (by decide) (by decide) (by decide)]; exact h) (fun s h => ?_)
    · refine ⟨by unfold tW; rw [k7 t ht], (hT.2.2.2 t ht).2.1, fun c hc => by unfold tY; rw [k8 t c ht hc]⟩
    · rw [er 16 (by decide) (by decide) (by decide) (by decide)]; exact hnod.2.2.2.2.2.2.2.2.1
    · rw [er 16 (by decide) (by decide) (by decide) (by decide), gq 37 (by decide) (by decide) (by decide) (by decide)]; exact hnod.2.2.2.2.2.2.2.2.2.1
    · exact VC_congr (v := 2) (gq 7 (by decide) (by decide) (by decide) (by decide)) (gl 8 (by decide)) h
  · have b1 : nK r' = nK r := by funext t; unfold nK; rw [er 11 (by decide) (by decide) (by decide) (by decide)]
    have b4 : nT r' = nT r := by funext t; unfold nT; rw [er 14 (by decide) (by decide) (by decide) (by decide)]
    unfold SimQ condOk at hQ ⊢
    rw [b1, b4, er 12 (by decide) (by decide) (by decide) (by decide), er 13 (by decide) (by decide) (by decide) (by decide), er 15 (by decide) (by decide) (by decide) (by decide), ef 3 (by decide), ef 4 (by decide), ef 5 (by decide), ef 6 (by decide), ef 7 (by decide), ef 8 (by decide), gf 6 (by decide), gf 7 (by decide), gf 8 (by decide), gf 9 (by decide), gf 10 (by decide), gf 11 (by decide), er 26 (by decide) (by decide) (by decide) (by decide), er 27 (by decide) (by decide) (by decide) (by decide), er 28 (by decide) (by decide) (by decide) (by decide), er 29 (by decide) (by decide) (by decide) (by decide), gq 39 (by decide) (by decide) (by decide) (by decide), gq 40 (by decide) (by decide) (by decide) (by decide), gq 41 (by decide) (by decide) (by decide) (by decide), gq 42 (by decide) (by decide) (by decide) (by decide), gq 43 (by decide) (by decide) (by decide) (by decide)]
    exact hQ
