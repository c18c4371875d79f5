theorem nx63 {a : Nat} (h : a < 18446744073709551616) : a ^^^ 2 ^ 63 = (a + 9223372036854775808) % 18446744073709551616 := by
  have h1 : (a ^^^ 2 ^ 63) % 2 ^ 63 = a % 2 ^ 63 := by rw [Nat.xor_mod_two_pow, Nat.mod_self, Nat.xor_zero]
  have h2 : (a ^^^ 2 ^ 63) / 2 ^ 63 = (a / 2 ^ 63) ^^^ 1 := by rw [Nat.xor_div_two_pow, Nat.div_self (Nat.two_pow_pos 63)]
  have h3 : a / 2 ^ 63 = 0 ∨ a / 2 ^ 63 = 1 := by omega
  generalize a ^^^ 2 ^ 63 = t at h1 h2
  rcases h3 with h3 | h3
  · rw [h3] at h2
    have h2 : t / 2 ^ 63 = 1 := h2
    omega
  · rw [h3] at h2
    have h2 : t / 2 ^ 63 = 0 := h2
    omega
theorem un_xm (x : Int64) : un (x ^^^ (-9223372036854775808)) = (un x + 9223372036854775808) % 18446744073709551616 := by
  rw [← nx63 (un_lt x), un_xor]; rfl
theorem un_int (x : Int64) : x.toInt = if 2 * un x < 18446744073709551616 then (un x : Int) else (un x : Int) - 18446744073709551616 := BitVec.toInt_eq_toNat_cond _
theorem xm_lt (x y : Int64) : (x ^^^ (-9223372036854775808)) < (y ^^^ (-9223372036854775808)) ↔ un x < un y := by
  have hx := un_lt x
  have hy := un_lt y
  rw [Int64.lt_iff_toInt_lt, un_int, un_int, un_xm, un_xm]
  omega
theorem xm_eq (x y : Int64) : (x ^^^ (-9223372036854775808)) = (y ^^^ (-9223372036854775808)) ↔ x = y := by
  constructor
  · intro h
    have h1 := congrArg un h
    rw [un_xm, un_xm] at h1
    have hx := un_lt x
    have hy := un_lt y
    exact un_inj (by omega)
  · intro h; rw [h]
/-- words without sign -/
def wcmp (x y : Int64) : Int32 := lg_cmp (x ^^^ (-9223372036854775808)) (y ^^^ (-9223372036854775808))
theorem lg_eq0 (x y : Int64) : lg_cmp x y = 0 ↔ x = y := by
  unfold lg_cmp
  by_cases h1 : x > y
  · rw [if_pos h1]
    constructor
    · intro h; exact absurd h (by decide)
    · intro h; subst h; exact absurd h1 (fun z => Int64.lt_irrefl z)
  · rw [if_neg h1]
    by_cases h2 : x = y
    · rw [if_pos h2]; exact ⟨fun _ => h2, fun _ => rfl⟩
    · rw [if_neg h2]
      exact ⟨fun h => absurd h (by decide), fun h => absurd h h2⟩
theorem lg_sgn (x y : Int64) (h : ¬ lg_cmp x y = 0) : (if 0 ≤ lg_cmp x y then (some 1 : Option Int32) else some (-1)) = some (lg_cmp x y) := by
  unfold lg_cmp at h ⊢
  by_cases h1 : x > y
  · rw [if_pos h1]; rfl
  · rw [if_neg h1] at h ⊢
    by_cases h2 : x = y
    · rw [if_pos h2] at h; exact absurd rfl h
    · rw [if_neg h2]; rfl
/-- words in use, and the class's words -/
def nW (x : Vl) : Nat := if vk x = 0 then 0 else if vk x = 2 then 4 else 1
def cword (x : Vl) (j : Nat) : Int64 := if vk x = 2 then cw x j else vn x
theorem nW_le (x : Vl) : nW x ≤ 4 := by unfold nW; split <;> (try split) <;> omega
theorem VC_w {q : QS} {v i : Nat} {x : Vl} (h : VC q v i x) (h4 : vk x < 4) : ∀ j, j < nW x → qL q (3 * v + 2) (i * 4 + j) = cword x j := by
  intro j hj
  unfold nW at hj
  unfold cword
  by_cases h0 : vk x = 0
  · rw [if_pos h0] at hj; omega
  · rw [if_neg h0] at hj
    by_cases h2 : vk x = 2
    · rw [if_pos h2] at hj ⊢
      exact h.2.2 h2 j hj
    · rw [if_neg h2] at hj ⊢
      obtain rfl : j = 0 := by omega
      exact h.2.1 (by omega)
theorem VC_of {q : QS} {v i : Nat} {x : Vl} (hk : qI q (3 * v + 1) i = nI (vk x)) (h : ∀ j, j < nW x → qL q (3 * v + 2) (i * 4 + j) = cword x j) : VC q v i x := by
  refine ⟨hk, fun h1 => ?_, fun h2 j hj => ?_⟩
  · have h3 := h 0 (by unfold nW; rw [if_neg (by omega), if_neg (by omega)]; omega)
    unfold cword at h3
    rw [if_neg (by omega)] at h3
    exact h3
  · have h3 := h j (by unfold nW; rw [if_neg (by omega), if_pos h2]; exact hj)
    unfold cword at h3
    rw [if_pos h2] at h3
    exact h3
theorem f_wiu {q : QS} {v i : Nat} {x : Vl} (hx : VC q v i x) (h4 : vk x < 4) (hi : i < vN q v) (hv : vN q v < 20000) : f_X8_wordsInUse v q (nI i) = some (nI (nW x)) := by
  unfold f_X8_wordsInUse f_X8_wordsInUse_0
  rw [v_kind hx hi hv, Option.bind_some]
  unfold nW
  by_cases h0 : vk x = 0
  · rw [if_pos h0, h0, if_pos (by decide)]; rfl
  · rw [if_neg h0, if_neg (nI_ne0 (by omega) (by omega))]
    by_cases h2 : vk x = 2
    · rw [if_pos h2, h2, if_pos (by decide)]; rfl
    · rw [if_neg h2, if_neg (show ¬ nI (vk x) = (2 : Int32) from fun e => h2 (nI_inj (by omega) (by decide) (show nI (vk x) = nI 2 from e)))]; rfl
theorem copy_loop {v u i j m : Nat} {S : Nat → Int64} (hm : m ≤ 4) (fu : Nat) : ∀ (q : QS) (t : Nat), i < vN q v → vN q v < 20000 → j < vN q u → vN q u < 20000 → t ≤ m → m - t < fu → (∀ s, s < m → qL q (3 * u + 2) (j * 4 + s) = S s) → (∀ s, s < t → qL q (3 * v + 2) (i * 4 + s) = S s) → ∃ q', f_X8_copy_22 v u fu q (nI i) (nI j) (nI m) (nI t) = some q' ∧ Oc v i q q' ∧ qI q' = qI q ∧ ∀ s, s < m → qL q' (3 * v + 2) (i * 4 + s) = S s := by
  induction fu with
  | zero => intro q t _ _ _ _ _ h; omega
  | succ fu ih =>
    intro q t hi hv hj hu ht hf hS hT
    rw [f_X8_copy_22, f_X8_copy_22_b]
    by_cases he : t = m
    · subst he
      rw [if_pos (nI_le (Nat.le_refl _) (by omega))]
      exact ⟨q, rfl, Oc.rfl, rfl, hT⟩
    · rw [if_neg (nI_ge (by omega) (by omega)), nI_lit4, nI_lit4, nI_add, nI_add, rd_nI (by omega) (by omega), Option.bind_some, hS t (by omega), wL_nI (by omega) (by omega), Option.bind_some, nI_1]
      obtain ⟨q', h1, h2, h3, h4⟩ := ih (uL q (3 * v + 2) (i * 4 + t) (S t)) (t + 1) (by rw [vN_uL]; exact hi) (by rw [vN_uL]; exact hv) (by rw [vN_uL]; exact hj) (by rw [vN_uL]; exact hu) (by omega) (by omega) (fun s hs => by
          rw [qL_uL]
          by_cases e : 3 * u + 2 = 3 * v + 2
          · rw [if_pos e, updL_at]
            have e2 : u = v := by omega
            subst e2
            by_cases e3 : j * 4 + s = i * 4 + t
            · rw [if_pos e3, ← hS s hs, ← hS t (by omega)]
              have : s = t := by omega
              rw [this]
            · rw [if_neg e3]; exact hS s hs
          · rw [if_neg e]; exact hS s hs) (fun s hs => by
          rw [qL_uL, if_pos rfl, updL_at]
          by_cases e3 : s = t
          · rw [if_pos (by omega), e3]
          · rw [if_neg (by omega)]; exact hT s (by omega))
      exact ⟨q', h1, (Oc.L (by omega)).trans h2, h3, h4⟩
theorem v_copy {q : QS} {v u i j : Nat} {x : Vl} (hx : VC q u j x) (h4 : vk x < 4) (hi : i < vN q v) (hv : vN q v < 20000) (hj : j < vN q u) (hu : vN q u < 20000) : ∃ q', f_X8_copy v u q (nI i) (nI j) = some q' ∧ VC q' v i x ∧ Oc v i q q' := by
  obtain ⟨q', h1, h2, h3, h5⟩ := copy_loop (v := v) (u := u) (i := i) (j := j) (S := cword x) (nW_le x) FU (uI q (3 * v + 1) i (nI (vk x))) 0 (by rw [vN_uI]; exact hi) (by rw [vN_uI]; exact hv) (by rw [vN_uI]; exact hj) (by rw [vN_uI]; exact hu) (Nat.zero_le _) (by have := nW_le x; show nW x - 0 < 100000; omega) (fun s hs => VC_w hx h4 s hs) (fun s hs => by omega)
  refine ⟨q', ?_, VC_of ?_ h5, (Oc.I rfl).trans h2⟩
  · unfold f_X8_copy f_X8_copy_0
    rw [f_wiu hx h4 hj hu, Option.bind_some, v_kind hx hj hu, Option.bind_some, wI_nI hi (by omega), Option.bind_some]
    exact h1
  · rw [h3, qI_uI, if_pos rfl, upd_at, if_pos rfl]
theorem f_isTruth {q : QS} {v i : Nat} {x : Vl} (hx : VC q v i x) (h4 : vk x < 4) (hi : i < vN q v) (hv : vN q v < 20000) (b : Int32) (hb : b = 0 ∨ b = 1) : f_X8_isTruth v q (nI i) b = some (if vk x = 3 ∧ ((vn x = 0 ∧ b = 0) ∨ (vn x ≠ 0 ∧ b = 1)) then 1 else 0) := by
  unfold f_X8_isTruth f_X8_isTruth_0
  rw [v_kind hx hi hv, Option.bind_some]
  by_cases h3 : vk x = 3
  · rw [h3, if_pos (show nI 3 = 3 from rfl), f_numberOf hx (Or.inr h3) hi hv, Option.bind_some]
    by_cases hn : vn x = 0
    · rw [if_pos ((lg_eq0 _ _).mpr hn)]
      rcases hb with rfl | rfl
      · rw [if_pos rfl, if_pos ⟨rfl, Or.inl ⟨hn, rfl⟩⟩]
      · rw [if_neg (by decide), if_neg (by intro z; rcases z.2 with z | z; exact absurd z.2 (by decide); exact z.1 hn)]
    · rw [if_neg (fun z => hn ((lg_eq0 _ _).mp z))]
      rcases hb with rfl | rfl
      · rw [if_neg (by decide), if_neg (by intro z; rcases z.2 with z | z; exact hn z.1; exact absurd z.2 (by decide))]
      · rw [if_pos rfl, if_pos ⟨rfl, Or.inr ⟨hn, rfl⟩⟩]
  · rw [if_neg (show ¬ nI (vk x) = (3 : Int32) from fun e => h3 (nI_inj (by omega) (by decide) (show nI (vk x) = nI 3 from e))), if_neg (fun z => h3 z.1)]
/-! likeness -/
theorem like_loop {q : QS} {v i j m : Nat} {S T : Nat → Int64} (hi : i < vN q v) (hj : j < vN q v) (hv : vN q v < 20000) (hm : m ≤ 4) (hS : ∀ s, s < m → qL q (3 * v + 2) (i * 4 + s) = S s) (hT : ∀ s, s < m → qL q (3 * v + 2) (j * 4 + s) = T s) (fu : Nat) : ∀ t, t ≤ m → m - t < fu → (∀ s, s < t → S s = T s) → ((∀ s, s < m → S s = T s) → f_X8_areLike_26 v q fu (nI i) (nI j) (nI m) (nI t) = some 1) ∧ (¬ (∀ s, s < m → S s = T s) → f_X8_areLike_26 v q fu (nI i) (nI j) (nI m) (nI t) = some 0) := by
  induction fu with
  | zero => intro t _ h; omega
  | succ fu ih =>
    intro t ht hf hE
    rw [f_X8_areLike_26, f_X8_areLike_26_b]
    by_cases he : t = m
    · subst he
      rw [if_pos (nI_le (Nat.le_refl _) (by omega))]
      exact ⟨fun _ => rfl, fun h => absurd hE h⟩
    · rw [if_neg (nI_ge (by omega) (by omega)), nI_lit4, nI_lit4, nI_add, nI_add, rd_nI (by omega) (by omega), Option.bind_some, rd_nI (by omega) (by omega), Option.bind_some, hS t (by omega), hT t (by omega), nI_1]
      by_cases hd : S t = T t
      · rw [if_pos ((lg_eq0 _ _).mpr hd)]
        exact ih (t + 1) (by omega) (by omega) (fun s hs => by
          by_cases e : s = t
          · rw [e]; exact hd
          · exact hE s (by omega))
      · rw [if_neg (fun z => hd ((lg_eq0 _ _).mp z))]
        exact ⟨fun h => absurd (h t (by omega)) hd, fun _ => rfl⟩
theorem cw_inj {x y : Vl} (hx : tOk (vw x) (vl x)) (hy : tOk (vw y) (vl y)) (h : ∀ s, s < 4 → cw x s = cw y s) : vw x = vw y ∧ vl x = vl y := by
  have h3 := congrArg un (h 3 (by decide))
  unfold cw at h3
  rw [if_pos rfl, if_pos rfl, un_len (tOk_low hx) (by have := hx.1; omega), un_len (tOk_low hy) (by have := hy.1; omega)] at h3
  have a := tOk_low hx
  have b := tOk_low hy
  have c := hx.1
  have d := hy.1
  refine ⟨?_, by omega⟩
  funext j
  rcases Nat.lt_or_ge j 4 with hj | hj
  · by_cases e : j = 3
    · subst e; exact un_inj (by omega)
    · have := h j hj
      unfold cw at this
      rw [if_neg e, if_neg e] at this
      exact this
  · rw [hx.2.2 j hj, hy.2.2 j hj]
theorem vOk_k {x : Vl} (h : vOk x) : vk x < 4 := by
  rcases h with rfl | ⟨n, rfl⟩ | ⟨b, -, rfl⟩ | ⟨W, len, -, rfl⟩ <;> simp [vk, vNull, vInt, vBool, vTxt]
/-- equal kinds and equal words in use: equal -/
theorem vOk_inj {x y : Vl} (hx : vOk x) (hy : vOk y) (hk : vk x = vk y) (hw : ∀ s, s < nW x → cword x s = cword y s) : x = y := by
  rcases hx with rfl | ⟨n, rfl⟩ | ⟨b, hb, rfl⟩ | ⟨W, len, hT, rfl⟩
  · rcases hy with rfl | ⟨n, rfl⟩ | ⟨b, hb, rfl⟩ | ⟨W, len, hT, rfl⟩ <;> first | rfl | cases hk
  · rcases hy with rfl | ⟨m, rfl⟩ | ⟨b, hb, rfl⟩ | ⟨W, len, hT, rfl⟩
    · cases hk
    · have := hw 0 (Nat.le_of_ble_eq_true rfl)
      simp [cword, vk, vInt, vn] at this
      rw [this]
    · cases hk
    · cases hk
  · rcases hy with rfl | ⟨m, rfl⟩ | ⟨b2, hb2, rfl⟩ | ⟨W, len, hT, rfl⟩
    · cases hk
    · cases hk
    · have := hw 0 (Nat.le_of_ble_eq_true rfl)
      simp [cword, vk, vBool, vn] at this
      rw [this]
    · cases hk
  · rcases hy with rfl | ⟨m, rfl⟩ | ⟨b2, hb2, rfl⟩ | ⟨W2, len2, hT2, rfl⟩
    · cases hk
    · cases hk
    · cases hk
    · obtain ⟨e1, e2⟩ := cw_inj (x := vTxt W len) (y := vTxt W2 len2) hT hT2 (fun s hs => hw s hs)
      have e1 : W = W2 := e1
      have e2 : len = len2 := e2
      rw [e1, e2]
theorem f_areLike {q : QS} {v i j : Nat} {x y : Vl} (hx : VC q v i x) (hy : VC q v j y) (ox : vOk x) (oy : vOk y) (hi : i < vN q v) (hj : j < vN q v) (hv : vN q v < 20000) : (x = y → f_X8_areLike v q (nI i) (nI j) = some 1) ∧ (¬ x = y → f_X8_areLike v q (nI i) (nI j) = some 0) := by
  have kx := vOk_k ox
  have ky := vOk_k oy
  unfold f_X8_areLike f_X8_areLike_0
  rw [v_kind hx hi hv, Option.bind_some, v_kind hy hj hv, Option.bind_some]
  by_cases hk : vk x = vk y
  · rw [hk, if_pos rfl, f_wiu hx kx hi hv, Option.bind_some]
    have hnw : nW y = nW x := by unfold nW; rw [hk]
    obtain ⟨h1, h2⟩ := like_loop hi hj hv (nW_le x) (VC_w hx kx) (fun s hs => VC_w hy ky s (by rw [hnw]; exact hs)) FU 0 (Nat.zero_le _) (by have := nW_le x; show nW x - 0 < 100000; omega) (fun s hs => by omega)
    exact ⟨fun e => h1 (fun s _ => by rw [e]), fun e => h2 (fun z => e (vOk_inj ox oy hk z))⟩
  · rw [if_neg (fun z => hk (nI_inj (by omega) (by omega) z))]
    exact ⟨fun e => absurd (by rw [e]) hk, fun _ => rfl⟩
