/-! pure rows: reads and writes at a number, the parts of a state behind a write -/
theorem ck_nI {j n : Nat} (h : j < n) (hn : n < 2 ^ 31) : ck (nI j) n = true := by
  have h1 : ¬ (nI j < 0 ∨ n ≤ (nI j).toNatClampNeg) := nI_in h hn
  simpa [ck] using h1
theorem rd_nI {α : Type} {f : Nat → α} {n j : Nat} (h : j < n) (hn : n < 2 ^ 31) : rd f n (nI j) = some (f j) := by
  unfold rd
  rw [if_pos (ck_nI h hn), nI_clamp (by omega)]
theorem wI_nI {q : QS} {k n j : Nat} {x : Int32} (h : j < n) (hn : n < 2 ^ 31) : wI q k n (nI j) x = some (uI q k j x) := by
  unfold wI
  rw [if_pos (ck_nI h hn), nI_clamp (by omega)]
theorem wL_nI {q : QS} {k n j : Nat} {x : Int64} (h : j < n) (hn : n < 2 ^ 31) : wL q k n (nI j) x = some (uL q k j x) := by
  unfold wL
  rw [if_pos (ck_nI h hn), nI_clamp (by omega)]
theorem qI_uI (q : QS) (k j : Nat) (x : Int32) (k' : Nat) : qI (uI q k j x) k' = if k' = k then upd (qI q k) j x else qI q k' := rfl
theorem qI_uL (q : QS) (k j : Nat) (x : Int64) : qI (uL q k j x) = qI q := rfl
theorem qI_uF (q : QS) (k : Nat) (x : Int32) : qI (uF q k x) = qI q := rfl
theorem qL_uI (q : QS) (k j : Nat) (x : Int32) : qL (uI q k j x) = qL q := rfl
theorem qL_uL (q : QS) (k j : Nat) (x : Int64) (k' : Nat) : qL (uL q k j x) k' = if k' = k then vp_updL (qL q k) j x else qL q k' := rfl
theorem qL_uF (q : QS) (k : Nat) (x : Int32) : qL (uF q k x) = qL q := rfl
theorem qF_uI (q : QS) (k j : Nat) (x : Int32) : qF (uI q k j x) = qF q := rfl
theorem qF_uL (q : QS) (k j : Nat) (x : Int64) : qF (uL q k j x) = qF q := rfl
theorem qF_uF (q : QS) (k : Nat) (x : Int32) (k' : Nat) : qF (uF q k x) k' = if k' = k then x else qF q k' := rfl
theorem qC_uI (q : QS) (k j : Nat) (x : Int32) : qC (uI q k j x) = qC q := rfl
theorem qC_uL (q : QS) (k j : Nat) (x : Int64) : qC (uL q k j x) = qC q := rfl
theorem qC_uF (q : QS) (k : Nat) (x : Int32) : qC (uF q k x) = qC q := rfl
theorem qI_uA (q : QS) (k : Nat) (f : Nat → Int32) (k' : Nat) : qI (uA q k f) k' = if k' = k then f else qI q k' := rfl
theorem qL_uA (q : QS) (k : Nat) (f : Nat → Int32) : qL (uA q k f) = qL q := rfl
theorem qF_uA (q : QS) (k : Nat) (f : Nat → Int32) : qF (uA q k f) = qF q := rfl
theorem qC_uA (q : QS) (k : Nat) (f : Nat → Int32) : qC (uA q k f) = qC q := rfl
theorem vN_uI (q : QS) (k j : Nat) (x : Int32) (v : Nat) : vN (uI q k j x) v = vN q v := rfl
theorem vN_uL (q : QS) (k j : Nat) (x : Int64) (v : Nat) : vN (uL q k j x) v = vN q v := rfl
theorem vN_uF (q : QS) (k : Nat) (x : Int32) (v : Nat) : vN (uF q k x) v = vN q v := rfl
theorem vN_uA (q : QS) (k : Nat) (f : Nat → Int32) (v : Nat) : vN (uA q k f) v = vN q v := rfl
theorem upd_at (f : Nat → Int32) (k : Nat) (x : Int32) (j : Nat) : upd f k x j = if j = k then x else f j := rfl
theorem updL_at (f : Nat → Int64) (k : Nat) (x : Int64) (j : Nat) : vp_updL f k x j = if j = k then x else f j := rfl
/-! numbers -/
theorem nI_m (a b : Nat) : nI a * nI b = nI (a * b) := pk_mul a b
theorem nI_inj {a b : Nat} (ha : a < 2 ^ 31) (hb : b < 2 ^ 31) (h : nI a = nI b) : a = b := (nI_eq ha hb).mp h
theorem nI_lit4 (a : Nat) : nI a * (4 : Int32) = nI (a * 4) := pk_mul a 4
theorem nI_lit8 (a : Nat) : nI a * (8 : Int32) = nI (a * 8) := pk_mul a 8
theorem lit4_nI (a : Nat) : (4 : Int32) * nI a = nI (4 * a) := pk_mul 4 a
theorem lit8_nI (a : Nat) : (8 : Int32) * nI a = nI (8 * a) := pk_mul 8 a
theorem lit40_nI (a : Nat) : (40 : Int32) * nI a = nI (40 * a) := pk_mul 40 a
theorem nI_lit40 (a : Nat) : nI a * (40 : Int32) = nI (a * 40) := pk_mul a 40
theorem nI_l1 (a : Nat) : nI a + (1 : Int32) = nI (a + 1) := nI_add a 1
theorem nI_l2 (a : Nat) : nI a + (2 : Int32) = nI (a + 2) := nI_add a 2
theorem nI_l3 (a : Nat) : nI a + (3 : Int32) = nI (a + 3) := nI_add a 3
theorem nI_i1 (a : Nat) : nI (a + 1) - (1 : Int32) = nI a := nI_pred a
/-- an index is wrong, or a number below n -/
theorem ix_cases (x : Int32) (n : Nat) (hn : n < 2 ^ 31) : (x < 0 ∨ nI n ≤ x) ∨ ∃ j : Nat, j < n ∧ x = nI j := by
  rcases pk_ix x hn with h | h | h
  · exact Or.inl (Or.inl h)
  · exact Or.inl (Or.inr h)
  · exact Or.inr h
theorem f_in_yes {x lo hi : Int32} (h1 : ¬ x < lo) (h2 : ¬ hi < x) : f_X10_in x lo hi = some 1 := by
  unfold f_X10_in f_X10_in_0
  rw [if_neg h1, if_neg h2]
theorem f_in_no {x lo hi : Int32} (h : x < lo ∨ hi < x) : f_X10_in x lo hi = some 0 := by
  unfold f_X10_in f_X10_in_0
  by_cases h1 : x < lo
  · rw [if_pos h1]
  · rw [if_neg h1, if_pos (h.resolve_left h1)]
theorem nI_lt0 {n : Nat} (h : n < 2 ^ 31) : ¬ nI n < (0 : Int32) := nI_pos h
theorem i32_lt {a b : Int32} : a < b ↔ a.toInt < b.toInt := Int32.lt_iff_toInt_lt
theorem i32_le {a b : Int32} : a ≤ b ↔ a.toInt ≤ b.toInt := Int32.le_iff_toInt_le
/-- in 0 .. n - 1, as the reference asks it with a bound that is one less -/
theorem in_yes {n j : Nat} (hn : n < 2 ^ 31) (h : j < n) : f_X10_in (nI j) 0 (nI n - 1) = some 1 := by
  obtain ⟨k, rfl⟩ : ∃ k, n = k + 1 := ⟨n - 1, by omega⟩
  refine f_in_yes (nI_pos (by omega)) ?_
  rw [nI_pred, i32_lt, nI_toInt (by omega), nI_toInt (by omega)]
  omega
theorem in_no {n : Nat} {x : Int32} (hn : n < 2 ^ 31) (h : x < 0 ∨ nI n ≤ x) : f_X10_in x 0 (nI n - 1) = some 0 := by
  refine f_in_no ?_
  rcases h with h | h
  · exact Or.inl h
  · refine Or.inr ?_
    rcases Nat.eq_zero_or_pos n with h0 | h0
    · subst h0
      have e : (nI 0 - 1).toInt = -1 := by decide
      rw [i32_le, nI_toInt (by omega)] at h
      rw [i32_lt, e]
      omega
    · obtain ⟨k, rfl⟩ : ∃ k, n = k + 1 := ⟨n - 1, by omega⟩
      rw [i32_le, nI_toInt hn] at h
      rw [nI_pred, i32_lt, nI_toInt (by omega)]
      omega
/-! Arrays.fill -/
theorem fill_loop {k : Nat} {nf : QS → Nat} (hnf : ∀ q j x, nf (uI q k j x) = nf q) (x : Int32) (fu : Nat) : ∀ (q : QS) (i : Nat), i ≤ nf q → nf q < 2 ^ 31 → nf q - i < fu → ∃ q', f_J7_fill_53178_5 k nf fu q x (nI i) (nI (nf q)) = some q' ∧ (∀ k', k' ≠ k → qI q' k' = qI q k') ∧ (∀ j, qI q' k j = if i ≤ j ∧ j < nf q then x else qI q k j) ∧ qL q' = qL q ∧ qF q' = qF q ∧ qC q' = qC q := by
  induction fu with
  | zero => intro q i _ _ h; omega
  | succ fu ih =>
    intro q i hi hn hf
    rw [f_J7_fill_53178_5, f_J7_fill_53178_5_b]
    by_cases he : i = nf q
    · subst he
      rw [if_pos (nI_le (Nat.le_refl _) hn)]
      exact ⟨q, rfl, fun _ _ => rfl, fun j => by rw [if_neg (by omega)], rfl, rfl, rfl⟩
    · rw [if_neg (nI_ge (by omega) hn), wI_nI (by omega) hn]
      obtain ⟨q', h1, h2, h3, h4, h5, h6⟩ := ih (uI q k i x) (i + 1) (by rw [hnf]; omega) (by rw [hnf]; exact hn) (by rw [hnf]; omega)
      rw [hnf] at h1 h3
      refine ⟨q', ?_, fun k' hk => ?_, fun j => ?_, ?_, ?_, ?_⟩
      · show f_J7_fill_53178_5 k nf fu (uI q k i x) x (nI i + 1) (nI (nf q)) = some q'
        rw [nI_1]; exact h1
      · rw [h2 k' hk, qI_uI, if_neg hk]
      · rw [h3 j, qI_uI, if_pos rfl, upd_at]
        by_cases hj : j = i
        · subst hj
          rw [if_neg (by omega), if_pos rfl, if_pos (by omega)]
        · rw [if_neg hj]
          by_cases hc : i + 1 ≤ j ∧ j < nf q
          · rw [if_pos hc, if_pos (by omega)]
          · rw [if_neg hc, if_neg (by omega)]
      · rw [h4]; rfl
      · rw [h5]; rfl
      · rw [h6]; rfl
theorem fill_val {k : Nat} {nf : QS → Nat} (hnf : ∀ q j x, nf (uI q k j x) = nf q) (q : QS) (x : Int32) (hn : nf q < 100000) : ∃ q', f_J7_fill_53178 k nf q x = some q' ∧ (∀ k', k' ≠ k → qI q' k' = qI q k') ∧ (∀ j, qI q' k j = if j < nf q then x else qI q k j) ∧ qL q' = qL q ∧ qF q' = qF q ∧ qC q' = qC q := by
  obtain ⟨q', h1, h2, h3, h4⟩ := fill_loop hnf x FU q 0 (Nat.zero_le _) (by omega) (by show nf q - 0 < 100000; omega)
  refine ⟨q', h1, h2, fun j => ?_, h4⟩
  rw [h3 j]
  by_cases hj : j < nf q
  · rw [if_pos ⟨Nat.zero_le _, hj⟩, if_pos hj]
  · rw [if_neg (fun z => hj z.2), if_neg hj]
