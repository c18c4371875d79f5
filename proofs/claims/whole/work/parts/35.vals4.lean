theorem empty_loop {v i : Nat} (fu : Nat) : ∀ (q : QS) (t : Nat), i < vN q v → vN q v < 20000 → t ≤ 4 → 4 - t < fu → (∀ s, s < t → qL q (3 * v + 2) (i * 4 + s) = 0) → ∃ q', f_X8_setEmptyText_9 v fu q (nI i) (nI t) = some q' ∧ Oc v i q q' ∧ qI q' = qI q ∧ ∀ s, s < 4 → qL q' (3 * v + 2) (i * 4 + s) = 0 := by
  induction fu with
  | zero => intro q t _ _ _ h; omega
  | succ fu ih =>
    intro q t hi hv ht hf hT
    rw [f_X8_setEmptyText_9, f_X8_setEmptyText_9_b]
    by_cases he : t = 4
    · subst he
      rw [if_pos (show (4 : Int32) ≤ nI 4 from nI_le (a := 4) (Nat.le_refl _) (by decide))]
      exact ⟨q, rfl, Oc.rfl, rfl, hT⟩
    · rw [if_neg (show ¬ (4 : Int32) ≤ nI t from nI_ge (b := 4) (by omega) (by decide)), nI_lit4, nI_add, wL_nI (by omega) (by omega), Option.bind_some, nI_1]
      obtain ⟨q', h1, h2, h3, h4⟩ := ih (uL q (3 * v + 2) (i * 4 + t) 0) (t + 1) (by rw [vN_uL]; exact hi) (by rw [vN_uL]; exact hv) (by omega) (by omega) (fun s hs => by
          rw [qL_uL, if_pos rfl, updL_at]
          by_cases e3 : s = t
          · rw [if_pos (by omega)]
          · rw [if_neg (by omega)]; exact hT s (by omega))
      exact ⟨q', h1, (Oc.L (by omega)).trans h2, h3, h4⟩
theorem gb_zero (k : Nat) : gb (fun _ => 0) k = 0 := b8_zero _
theorem tOk_zero : tOk (fun _ => 0) 0 := ⟨by decide, fun k _ _ => gb_zero k, fun _ _ => rfl⟩
theorem v_empty {q : QS} {v i : Nat} (hi : i < vN q v) (hv : vN q v < 20000) : ∃ q', f_X8_setEmptyText v q (nI i) = some q' ∧ VC q' v i (vTxt (fun _ => 0) 0) ∧ Oc v i q q' := by
  obtain ⟨q', h1, h2, h3, h4⟩ := empty_loop (v := v) (i := i) FU (uI q (3 * v + 1) i 2) 0 (by rw [vN_uI]; exact hi) (by rw [vN_uI]; exact hv) (Nat.zero_le _) (by show 4 - 0 < 100000; omega) (fun s hs => by omega)
  refine ⟨q', ?_, VC_of ?_ (fun j hj => ?_), (Oc.I rfl).trans h2⟩
  · unfold f_X8_setEmptyText f_X8_setEmptyText_0
    rw [wI_nI hi (by omega), Option.bind_some]
    exact h1
  · rw [h3, qI_uI, if_pos rfl, upd_at, if_pos rfl]; rfl
  · rw [h4 j hj]
    show 0 = cw _ j
    unfold cw
    by_cases e : j = 3
    · rw [if_pos e]; rfl
    · rw [if_neg e]; rfl
/-- bytes of a text one behind another -/
def tcat (x : Vl) (W' : Nat → Int64) : Nat → Vl
  | 0 => x
  | t + 1 => tapp (tcat x W' t) (gb W' t)
theorem tcat_spec {W W' : Nat → Int64} {len : Nat} (hT : tOk W len) : ∀ t, ∃ W2, tcat (vTxt W len) W' t = vTxt W2 (min 31 (len + t)) ∧ tOk W2 (min 31 (len + t)) ∧ ∀ k, k < 32 → gb W2 k = if k < len then gb W k else if k < min 31 (len + t) then gb W' (k - len) else 0 := by
  intro t
  induction t with
  | zero =>
    have h := hT.1
    refine ⟨W, by rw [tcat, Nat.add_zero, Nat.min_eq_right h], by rw [Nat.add_zero, Nat.min_eq_right h]; exact hT, fun k hk => ?_⟩
    by_cases c : k < len
    · rw [if_pos c]
    · rw [if_neg c, if_neg (by omega), hT.2.1 k (by omega) hk]
  | succ t ih =>
    obtain ⟨W2, h1, h2, h3⟩ := ih
    have hl := hT.1
    rw [tcat, h1]
    by_cases c : len + t < 31
    · have e1 : min 31 (len + t) = len + t := by omega
      have e2 : min 31 (len + (t + 1)) = len + t + 1 := by omega
      rw [e1] at h2 h3 ⊢
      rw [e2]
      refine ⟨setb W2 (len + t) (gb W' t), if_pos c, tOk_setb h2 (b8_lt _ _) c, fun k hk => ?_⟩
      rw [gb_setb (show gb W' t < 256 from b8_lt _ _)]
      by_cases e : k = len + t
      · subst e
        rw [if_pos rfl, h2.2.1 _ (Nat.le_refl _) hk, Nat.zero_or, if_neg (by omega), if_pos (by omega), show len + t - len = t by omega]
      · rw [if_neg e, h3 k hk]
        by_cases c2 : k < len
        · rw [if_pos c2, if_pos c2]
        · rw [if_neg c2, if_neg c2]
          by_cases c3 : k < len + t
          · rw [if_pos c3, if_pos (by omega)]
          · rw [if_neg c3, if_neg (by omega)]
    · have e1 : min 31 (len + t) = 31 := by omega
      have e2 : min 31 (len + (t + 1)) = 31 := by omega
      rw [e1] at h2 h3 ⊢
      rw [e2]
      exact ⟨W2, if_neg (by show ¬ 31 < 31; omega), h2, h3⟩
theorem tcat_ok {x : Vl} (ox : vOk x) (hk : vk x = 2) (W' : Nat → Int64) (t : Nat) : vOk (tcat x W' t) ∧ vk (tcat x W' t) = 2 := by
  obtain ⟨W, len, hT, rfl⟩ := tx_of ox hk
  obtain ⟨W2, h1, h2, -⟩ := tcat_spec (W' := W') hT t
  rw [h1]
  exact ⟨Or.inr (Or.inr (Or.inr ⟨_, _, h2, rfl⟩)), rfl⟩
theorem atext_loop {v i j : Nat} {x y : Vl} (ox : vOk x) (hkx : vk x = 2) (oy : vOk y) (hky : vk y = 2) (hij : i ≠ j) (fu : Nat) : ∀ (q : QS) (t : Nat), i < vN q v → j < vN q v → vN q v < 20000 → t ≤ vl y → vl y - t < fu → VC q v i (tcat x (vw y) t) → VC q v j y → ∃ q', f_X8_appendText_9 v fu q (nI i) (nI j) (nI (vl y)) (nI t) = some q' ∧ VC q' v i (tcat x (vw y) (vl y)) ∧ Oc v i q q' := by
  induction fu with
  | zero => intro q t _ _ _ _ h; omega
  | succ fu ih =>
    intro q t hi hj hv ht hf hx hy
    have hT : tOk (vw y) (vl y) := by
      obtain ⟨W', len', hT', rfl⟩ := tx_of oy hky
      exact hT'
    have hl' := hT.1
    rw [f_X8_appendText_9, f_X8_appendText_9_b]
    by_cases he : t = vl y
    · subst he
      rw [if_pos (nI_le (Nat.le_refl _) (by omega))]
      exact ⟨q, rfl, hx, Oc.rfl⟩
    · rw [if_neg (nI_ge (by omega) (by omega)), f_byteOf hy hky hT (by omega) hj hv, Option.bind_some]
      obtain ⟨o1, o2⟩ := tcat_ok ox hkx (vw y) t
      obtain ⟨q1, a1, a2, a3, a4, a5⟩ := v_append (b := gb (vw y) t) hx o1 o2 (b8_lt _ _) hi hv
      rw [a1, Option.bind_some, nI_1]
      obtain ⟨q', b1, b2, b3⟩ := ih q1 (t + 1) (by rw [Oc_vN a3]; exact hi) (by rw [Oc_vN a3]; exact hj) (by rw [Oc_vN a3]; exact hv) (by omega) (by omega) a2 (hy.other a3 (Or.inr (Ne.symm hij)))
      exact ⟨q', b1, b2, a3.trans b3⟩
theorem v_atext {q : QS} {v i j : Nat} {x y : Vl} (hx : VC q v i x) (hy : VC q v j y) (ox : vOk x) (hkx : vk x = 2) (oy : vOk y) (hky : vk y = 2) (hij : i ≠ j) (hi : i < vN q v) (hj : j < vN q v) (hv : vN q v < 20000) : ∃ q', f_X8_appendText v q (nI i) (nI j) = some q' ∧ VC q' v i (tcat x (vw y) (vl y)) ∧ Oc v i q q' := by
  have hT : tOk (vw y) (vl y) := by
    obtain ⟨W', len', hT', rfl⟩ := tx_of oy hky
    exact hT'
  unfold f_X8_appendText f_X8_appendText_0
  rw [f_lengthOf hy hky hT hj hv, Option.bind_some]
  exact atext_loop ox hkx oy hky hij FU q 0 hi hj hv (Nat.zero_le _) (by have := hT.1; show vl y - 0 < 100000; omega) hx hy
