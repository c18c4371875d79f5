/-! values: kind, number, words, length -/
abbrev Vl : Type := Nat × Int64 × (Nat → Int64) × Nat
def vk (x : Vl) : Nat := x.1
def vn (x : Vl) : Int64 := x.2.1
def vw (x : Vl) : Nat → Int64 := x.2.2.1
def vl (x : Vl) : Nat := x.2.2.2
def vNull : Vl := (0, 0, fun _ => 0, 0)
def vInt (n : Int64) : Vl := (1, n, fun _ => 0, 0)
def vBool (n : Int64) : Vl := (3, n, fun _ => 0, 0)
def vTxt (W : Nat → Int64) (len : Nat) : Vl := (2, 0, W, len)
/-- byte k of a text's words, the first 0 -/
def gb (W : Nat → Int64) (k : Nat) : Nat := b8 (W (k / 8)) (7 - k % 8)
def tOk (W : Nat → Int64) (len : Nat) : Prop := len ≤ 31 ∧ (∀ k, len ≤ k → k < 32 → gb W k = 0) ∧ ∀ j, 4 ≤ j → W j = 0
def vOk (x : Vl) : Prop := x = vNull ∨ (∃ n, x = vInt n) ∨ (∃ b : Int64, (b = 0 ∨ b = 1) ∧ x = vBool b) ∨ ∃ W len, tOk W len ∧ x = vTxt W len
theorem gb_ext {W W' : Nat → Int64} (h : ∀ k, k < 32 → gb W k = gb W' k) (h4 : ∀ j, 4 ≤ j → W j = W' j) : W = W' := by
  funext j
  rcases Nat.lt_or_ge j 4 with hj | hj
  · refine b8_ext fun i hi => ?_
    have h1 := h (8 * j + (7 - i)) (by omega)
    unfold gb at h1
    rw [show (8 * j + (7 - i)) / 8 = j by omega, show 7 - (8 * j + (7 - i)) % 8 = i by omega] at h1
    exact h1
  · exact h4 j hj
theorem tOk_low {W : Nat → Int64} {len : Nat} (h : tOk W len) : un (W 3) % 256 = 0 := by
  have h1 := h.2.1 31 h.1 (by decide)
  unfold gb b8 at h1
  simpa using h1
theorem un_len {w : Int64} {n : Nat} (h : un w % 256 = 0) (hn : n < 256) : un (w + lN n) = un w + n := by
  have h1 := un_lt w
  rw [un_add, un_lN (by omega), Nat.mod_eq_of_lt (by omega)]
theorem b8_len0 {w : Int64} {n : Nat} (h : un w % 256 = 0) (hn : n < 256) : b8 (w + lN n) 0 = n := by
  unfold b8
  rw [un_len h hn]
  omega
theorem b8_lenS {w : Int64} {n i : Nat} (h : un w % 256 = 0) (hn : n < 256) : b8 (w + lN n) (i + 1) = b8 w (i + 1) := by
  unfold b8
  rw [un_len h hn, show 8 * (i + 1) = 8 + 8 * i by omega, Nat.pow_add, ← Nat.div_div_eq_div_mul, ← Nat.div_div_eq_div_mul]
  congr 2
  rw [show (2 : Nat) ^ 8 = 256 from rfl]
  omega
/-- the words that the class keeps of a value -/
def cw (x : Vl) (j : Nat) : Int64 := if j = 3 then vw x 3 + lN (vl x) else vw x j
/-- the class's cell i of the Values v holds x -/
def VC (q : QS) (v i : Nat) (x : Vl) : Prop := qI q (3 * v + 1) i = nI (vk x) ∧ ((vk x = 1 ∨ vk x = 3) → qL q (3 * v + 2) (i * 4) = vn x) ∧ (vk x = 2 → ∀ j, j < 4 → qL q (3 * v + 2) (i * 4 + j) = cw x j)
/-- only the cell i of the Values v has changed -/
def Oc (v i : Nat) (q q' : QS) : Prop := (∀ k, k ≠ 3 * v + 1 → qI q' k = qI q k) ∧ (∀ j, j ≠ i → qI q' (3 * v + 1) j = qI q (3 * v + 1) j) ∧ (∀ k, k ≠ 3 * v + 2 → qL q' k = qL q k) ∧ (∀ j, j / 4 ≠ i → qL q' (3 * v + 2) j = qL q (3 * v + 2) j) ∧ qF q' = qF q ∧ qC q' = qC q
theorem Oc.rfl {v i : Nat} {q : QS} : Oc v i q q := ⟨fun _ _ => Eq.refl _, fun _ _ => Eq.refl _, fun _ _ => Eq.refl _, fun _ _ => Eq.refl _, Eq.refl _, Eq.refl _⟩
theorem Oc.trans {v i : Nat} {q q1 q2 : QS} (h : Oc v i q q1) (g : Oc v i q1 q2) : Oc v i q q2 := ⟨fun k hk => (g.1 k hk).trans (h.1 k hk), fun j hj => (g.2.1 j hj).trans (h.2.1 j hj), fun k hk => (g.2.2.1 k hk).trans (h.2.2.1 k hk), fun j hj => (g.2.2.2.1 j hj).trans (h.2.2.2.1 j hj), g.2.2.2.2.1.trans h.2.2.2.2.1, g.2.2.2.2.2.trans h.2.2.2.2.2⟩
theorem Oc.I {v i j : Nat} {q : QS} {x : Int32} (h : j = i) : Oc v i q (uI q (3 * v + 1) j x) := by
  subst h
  refine ⟨fun k hk => ?_, fun z hz => ?_, fun _ _ => Eq.refl _, fun _ _ => Eq.refl _, Eq.refl _, Eq.refl _⟩
  · rw [qI_uI, if_neg hk]
  · rw [qI_uI, if_pos (Eq.refl _), upd_at, if_neg hz]
theorem Oc.L {v i j : Nat} {q : QS} {x : Int64} (h : j / 4 = i) : Oc v i q (uL q (3 * v + 2) j x) := by
  subst h
  refine ⟨fun _ _ => Eq.refl _, fun _ _ => Eq.refl _, fun k hk => ?_, fun z hz => ?_, Eq.refl _, Eq.refl _⟩
  · rw [qL_uL, if_neg hk]
  · rw [qL_uL, if_pos (Eq.refl _), updL_at, if_neg (fun e => hz (by rw [e]))]
theorem Oc_vN {v i : Nat} {q q' : QS} (h : Oc v i q q') (u : Nat) : vN q' u = vN q u := by
  unfold vN
  rw [h.2.2.2.2.2]
/-- another cell stays -/
theorem VC.other {v i : Nat} {q q' : QS} (h : Oc v i q q') {u j : Nat} {x : Vl} (hne : u ≠ v ∨ j ≠ i) (hx : VC q u j x) : VC q' u j x := by
  have e1 : qI q' (3 * u + 1) j = qI q (3 * u + 1) j := by
    by_cases hu : u = v
    · subst hu
      exact h.2.1 j (hne.resolve_left (fun z => z (Eq.refl _)))
    · rw [h.1 (3 * u + 1) (by omega)]
  have e2 : ∀ t, t < 4 → qL q' (3 * u + 2) (j * 4 + t) = qL q (3 * u + 2) (j * 4 + t) := fun t ht => by
    by_cases hu : u = v
    · subst hu
      refine h.2.2.2.1 _ ?_
      have := hne.resolve_left (fun z => z (Eq.refl _))
      omega
    · rw [h.2.2.1 (3 * u + 2) (by omega)]
  exact ⟨e1.trans hx.1, fun hk => (e2 0 (by decide)).trans (hx.2.1 hk), fun hk t ht => (e2 t ht).trans (hx.2.2 hk t ht)⟩
section VA
variable {q : QS} {v i : Nat}
theorem v_kind {x : Vl} (hx : VC q v i x) (hi : i < vN q v) (hv : vN q v < 20000) : rd (qI q (3 * v + 1)) (vN q v) (nI i) = some (nI (vk x)) := by
  rw [rd_nI hi (by omega), hx.1]
theorem v_word {x : Vl} (hx : VC q v i x) (hk : vk x = 2) {j : Nat} (hj : j < 4) (hi : i < vN q v) (hv : vN q v < 20000) : rd (qL q (3 * v + 2)) (vN q v * 4) (nI (i * 4 + j)) = some (cw x j) := by
  rw [rd_nI (by omega) (by omega), hx.2.2 hk j hj]
theorem f_isNull {x : Vl} (hx : VC q v i x) (hk4 : vk x < 4) (hi : i < vN q v) (hv : vN q v < 20000) : f_X8_isNull v q (nI i) = some (if vk x = 0 then 1 else 0) := by
  unfold f_X8_isNull f_X8_isNull_0
  rw [v_kind hx hi hv, Option.bind_some]
  by_cases h : vk x = 0
  · rw [if_pos h, h, if_pos (by decide)]
  · rw [if_neg h, if_neg (nI_ne0 (by omega) (by omega))]
theorem f_numberOf {x : Vl} (hx : VC q v i x) (hk : vk x = 1 ∨ vk x = 3) (hi : i < vN q v) (hv : vN q v < 20000) : f_X8_numberOf v q (nI i) = some (vn x) := by
  unfold f_X8_numberOf f_X8_numberOf_0
  rw [nI_lit4, rd_nI (by omega) (by omega), Option.bind_some, hx.2.1 hk]
theorem f_numberOf_any (hi : i < vN q v) (hv : vN q v < 20000) : f_X8_numberOf v q (nI i) = some (qL q (3 * v + 2) (i * 4)) := by
  unfold f_X8_numberOf f_X8_numberOf_0
  rw [nI_lit4, rd_nI (by omega) (by omega), Option.bind_some]
theorem l255 {w : Int64} {n : Nat} (h : b8 w 0 = n) : ((w &&& (255 : Int64))).toInt32 = nI n := by
  have h1 : (w &&& (255 : Int64)) = lN n := by
    refine un_inj ?_
    have hn := b8_lt w 0
    rw [un_and, un_lN (by omega), show un 255 = 2 ^ 8 - 1 from Eq.refl _, Nat.and_two_pow_sub_one_eq_mod, ← h]
    unfold b8
    simp
  rw [h1, lN_i]
theorem f_lengthOf {x : Vl} (hx : VC q v i x) (hk : vk x = 2) (ht : tOk (vw x) (vl x)) (hi : i < vN q v) (hv : vN q v < 20000) : f_X8_lengthOf v q (nI i) = some (nI (vl x)) := by
  unfold f_X8_lengthOf f_X8_lengthOf_0
  rw [nI_lit4, nI_l3, v_word hx hk (by decide) hi hv, Option.bind_some]
  congr 1
  refine l255 ?_
  unfold cw
  rw [if_pos (Eq.refl _)]
  exact b8_len0 (tOk_low ht) (by have := ht.1; omega)
theorem sh_b (k : Nat) (hk : k < 2 ^ 20) : (56 : Int32) - (8 : Int32) * (nI k - nI k / (8 : Int32) * (8 : Int32)) = nI (8 * (7 - k % 8)) := by
  have h1 : nI k - nI k / (8 : Int32) * (8 : Int32) = nI (k % 8) := pk_rem (d := 8) (by omega) (by decide) (by decide)
  rw [h1, lit8_nI, show (56 : Int32) = nI 56 from Eq.refl _, pk_sub (by omega)]
  congr 1
  omega
theorem div8 (k : Nat) (hk : k < 2 ^ 20) : nI k / (8 : Int32) = nI (k / 8) := pk_div (d := 8) (by omega) (by decide) (by decide)
theorem f_byteOf {x : Vl} (hx : VC q v i x) (hk : vk x = 2) (ht : tOk (vw x) (vl x)) {k : Nat} (hk2 : k < 31) (hi : i < vN q v) (hv : vN q v < 20000) : f_X8_byteOf v q (nI i) (nI k) = some (nI (gb (vw x) k)) := by
  unfold f_X8_byteOf f_X8_byteOf_0
  rw [sh_b k (by omega), nI_lit4, div8 k (by omega), nI_add, v_word hx hk (by omega) hi hv, Option.bind_some, byte_ushr _ (by omega)]
  congr 2
  unfold gb cw
  by_cases h3 : k / 8 = 3
  · rw [if_pos h3, h3, show 7 - k % 8 = (6 - k % 8) + 1 by omega]
    exact b8_lenS (tOk_low ht) (by have := ht.1; omega)
  · rw [if_neg h3]
theorem v_null (hi : i < vN q v) (hv : vN q v < 20000) : ∃ q', f_X8_setNull v q (nI i) = some q' ∧ VC q' v i vNull ∧ Oc v i q q' := by
  refine ⟨uI q (3 * v + 1) i 0, ?_, ⟨?_, fun h => ?_, fun h => ?_⟩, Oc.I (Eq.refl _)⟩
  · unfold f_X8_setNull f_X8_setNull_0
    rw [wI_nI hi (by omega), Option.bind_some]
  · rw [qI_uI, if_pos (Eq.refl _), upd_at, if_pos (Eq.refl _)]; rfl
  · rcases h with h | h <;> cases h
  · cases h
theorem v_int (hi : i < vN q v) (hv : vN q v < 20000) (n : Int64) : ∃ q', f_X8_setNumber v q (nI i) n = some q' ∧ VC q' v i (vInt n) ∧ Oc v i q q' := by
  refine ⟨uL (uI q (3 * v + 1) i 1) (3 * v + 2) (i * 4) n, ?_, ⟨?_, fun _ => ?_, fun h => ?_⟩, (Oc.I (Eq.refl _)).trans (Oc.L (by omega))⟩
  · unfold f_X8_setNumber f_X8_setNumber_0
    rw [wI_nI hi (by omega), Option.bind_some, nI_lit4, wL_nI (by rw [vN_uI]; omega) (by rw [vN_uI]; omega), Option.bind_some]
  · rw [qI_uL, qI_uI, if_pos (Eq.refl _), upd_at, if_pos (Eq.refl _)]; rfl
  · rw [qL_uL, if_pos (Eq.refl _), updL_at, if_pos (Eq.refl _)]; rfl
  · cases h
theorem v_bool (hi : i < vN q v) (hv : vN q v < 20000) (b : Int32) : ∃ q', f_X8_setTruth v q (nI i) b = some q' ∧ VC q' v i (vBool (if b = 0 then 0 else 1)) ∧ Oc v i q q' := by
  refine ⟨uL (uI q (3 * v + 1) i 3) (3 * v + 2) (i * 4) (if b = 0 then 0 else 1), ?_, ⟨?_, fun _ => ?_, fun h => ?_⟩, (Oc.I (Eq.refl _)).trans (Oc.L (by omega))⟩
  · unfold f_X8_setTruth f_X8_setTruth_0
    rw [wI_nI hi (by omega), Option.bind_some, nI_lit4]
    by_cases hb : b = 0
    · rw [if_pos hb, if_pos hb, wL_nI (by rw [vN_uI]; omega) (by rw [vN_uI]; omega), Option.bind_some]
    · rw [if_neg hb, if_neg hb, wL_nI (by rw [vN_uI]; omega) (by rw [vN_uI]; omega), Option.bind_some]
  · rw [qI_uL, qI_uI, if_pos (Eq.refl _), upd_at, if_pos (Eq.refl _)]; rfl
  · rw [qL_uL, if_pos (Eq.refl _), updL_at, if_pos (Eq.refl _)]; rfl
  · cases h
end VA
