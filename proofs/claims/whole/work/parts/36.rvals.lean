/-! the reference's node cells: none 17, number 18, length 19, words 20 -/
def VR (r : QS) (i : Nat) (x : Vl) : Prop := qI r 17 i = (if vk x = 0 then 1 else 0) ∧ qL r 18 i = vn x ∧ qI r 19 i = nI (vl x) ∧ ∀ j, j < 4 → qL r 20 (4 * i + j) = vw x j
/-- only the node cell i has changed -/
def On (i : Nat) (r r' : QS) : Prop := (∀ k, k ≠ 17 → k ≠ 19 → qI r' k = qI r k) ∧ (∀ j, j ≠ i → qI r' 17 j = qI r 17 j ∧ qI r' 19 j = qI r 19 j) ∧ (∀ k, k ≠ 18 → k ≠ 20 → qL r' k = qL r k) ∧ (∀ j, j ≠ i → qL r' 18 j = qL r 18 j) ∧ (∀ j, j / 4 ≠ i → qL r' 20 j = qL r 20 j) ∧ qF r' = qF r ∧ qC r' = qC r
theorem On.rfl {i : Nat} {r : QS} : On i r r := ⟨fun _ _ _ => Eq.refl _, fun _ _ => ⟨Eq.refl _, Eq.refl _⟩, fun _ _ _ => Eq.refl _, fun _ _ => Eq.refl _, fun _ _ => Eq.refl _, Eq.refl _, Eq.refl _⟩
theorem On.trans {i : Nat} {r r1 r2 : QS} (h : On i r r1) (g : On i r1 r2) : On i r r2 := ⟨fun k a b => (g.1 k a b).trans (h.1 k a b), fun j a => ⟨((g.2.1 j a).1).trans (h.2.1 j a).1, ((g.2.1 j a).2).trans (h.2.1 j a).2⟩, fun k a b => (g.2.2.1 k a b).trans (h.2.2.1 k a b), fun j a => (g.2.2.2.1 j a).trans (h.2.2.2.1 j a), fun j a => (g.2.2.2.2.1 j a).trans (h.2.2.2.2.1 j a), g.2.2.2.2.2.1.trans h.2.2.2.2.2.1, g.2.2.2.2.2.2.trans h.2.2.2.2.2.2⟩
theorem On.n {i : Nat} {r : QS} {x : Int32} : On i r (uI r 17 i x) := by
  refine ⟨fun k h _ => ?_, fun z hz => ⟨?_, ?_⟩, fun _ _ _ => Eq.refl _, fun _ _ => Eq.refl _, fun _ _ => Eq.refl _, Eq.refl _, Eq.refl _⟩
  · rw [qI_uI, if_neg h]
  · rw [qI_uI, if_pos (Eq.refl _), upd_at, if_neg hz]
  · rw [qI_uI, if_neg (by decide)]
theorem On.l {i : Nat} {r : QS} {x : Int32} : On i r (uI r 19 i x) := by
  refine ⟨fun k _ h => ?_, fun z hz => ⟨?_, ?_⟩, fun _ _ _ => Eq.refl _, fun _ _ => Eq.refl _, fun _ _ => Eq.refl _, Eq.refl _, Eq.refl _⟩
  · rw [qI_uI, if_neg h]
  · rw [qI_uI, if_neg (by decide)]
  · rw [qI_uI, if_pos (Eq.refl _), upd_at, if_neg hz]
theorem On.v {i : Nat} {r : QS} {x : Int64} : On i r (uL r 18 i x) := by
  refine ⟨fun _ _ _ => Eq.refl _, fun _ _ => ⟨Eq.refl _, Eq.refl _⟩, fun k h _ => ?_, fun z hz => ?_, fun z _ => ?_, Eq.refl _, Eq.refl _⟩
  · rw [qL_uL, if_neg h]
  · rw [qL_uL, if_pos (Eq.refl _), updL_at, if_neg hz]
  · rw [qL_uL, if_neg (by decide)]
theorem On.w {i j : Nat} {r : QS} {x : Int64} (h : j / 4 = i) : On i r (uL r 20 j x) := by
  subst h
  refine ⟨fun _ _ _ => Eq.refl _, fun _ _ => ⟨Eq.refl _, Eq.refl _⟩, fun k _ h => ?_, fun z _ => ?_, fun z hz => ?_, Eq.refl _, Eq.refl _⟩
  · rw [qL_uL, if_neg h]
  · rw [qL_uL, if_neg (by decide)]
  · rw [qL_uL, if_pos (Eq.refl _), updL_at, if_neg (fun e => hz (by rw [e]))]
theorem VR.other {i : Nat} {r r' : QS} (h : On i r r') {j : Nat} {x : Vl} (hne : j ≠ i) (hx : VR r j x) : VR r' j x :=
  ⟨(h.2.1 j hne).1.trans hx.1, (h.2.2.2.1 j hne).trans hx.2.1, (h.2.1 j hne).2.trans hx.2.2.1, fun t ht => (h.2.2.2.2.1 _ (by omega)).trans (hx.2.2.2 t ht)⟩
theorem f_sign (x y : Int64) : f_X10_sign x y = some (lg_cmp x y) := by
  unfold f_X10_sign f_X10_sign_0
  unfold lg_cmp
  by_cases h1 : x > y
  · rw [if_pos h1]; rfl
  · rw [if_neg h1]
    by_cases h2 : x = y
    · rw [if_pos h2]; rfl
    · rw [if_neg h2]; rfl
theorem ow_stay {o : Int32} {W W' : Nat → Int64} {t : Nat} (h : ¬ ow o W W' t = 0) : ∀ d, ow o W W' (t + d) = ow o W W' t := by
  intro d
  induction d with
  | zero => rfl
  | succ d ih =>
    rw [← Nat.add_assoc, ow, ih, if_neg h]
theorem cn_loop {r : QS} {a b : Nat} {x y : Vl} {o : Int32} {K : Int32 → Int32 → Int32 → Option Int32} (ha : a < 200) (hb : b < 200) (hx : VR r a x) (hy : VR r b y) (fu : Nat) : ∀ t, t ≤ 4 → 4 - t < fu → f_X10_compareNodes_19 r K fu (nI a) (nI b) (ow o (vw x) (vw y) t) (nI t) = K (nI a) (nI b) (ow o (vw x) (vw y) 4) := by
  induction fu with
  | zero => intro t _ h; omega
  | succ fu ih =>
    intro t ht hf
    rw [f_X10_compareNodes_19, f_X10_compareNodes_19_b]
    by_cases he : t = 4
    · subst he
      rw [if_pos (show (4 : Int32) ≤ nI 4 from nI_le (a := 4) (Nat.le_refl _) (by decide))]
    · rw [if_neg (show ¬ (4 : Int32) ≤ nI t from nI_ge (b := 4) (by omega) (by decide))]
      by_cases hz : ow o (vw x) (vw y) t = 0
      · rw [if_pos hz, lit4_nI, lit4_nI, nI_add, nI_add, rd_nI (by omega) (by decide), Option.bind_some, rd_nI (by omega) (by decide), Option.bind_some, hx.2.2.2 t (by omega), hy.2.2.2 t (by omega), f_sign, Option.bind_some, nI_1]
        have e : ow o (vw x) (vw y) (t + 1) = wcmp (vw x t) (vw y t) := by rw [ow, if_pos hz]
        have h := ih (t + 1) (by omega) (by omega)
        rw [e] at h
        exact h
      · rw [if_neg hz]
        have e := ow_stay hz (4 - t)
        rw [show t + (4 - t) = 4 by omega] at e
        rw [e]
theorem f_cn {r : QS} {a b : Nat} {x y : Vl} (ha : a < 200) (hb : b < 200) (hx : VR r a x) (hy : VR r b y) (lx : vl x < 2 ^ 31) (ly : vl y < 2 ^ 31) : f_X10_compareNodes r (nI a) (nI b) = some (rcmp x y) := by
  unfold f_X10_compareNodes f_X10_compareNodes_0
  rw [rd_nI ha (by decide), Option.bind_some, rd_nI hb (by decide), Option.bind_some, hx.2.1, hy.2.1, f_sign, Option.bind_some]
  have h := cn_loop (o := lg_cmp (vn x) (vn y)) (K := f_X10_compareNodes_69 r) ha hb hx hy FU 0 (Nat.zero_le _) (by show 4 - 0 < 100000; omega)
  refine Eq.trans h ?_
  unfold f_X10_compareNodes_69 rcmp
  by_cases hz : ow (lg_cmp (vn x) (vn y)) (vw x) (vw y) 4 = 0
  · rw [if_pos hz, if_pos hz, rd_nI ha (by decide), Option.bind_some, rd_nI hb (by decide), Option.bind_some, hx.2.2.1, hy.2.2.1, nI_l64 lx, nI_l64 ly, f_sign, Option.bind_some]
  · rw [if_neg hz, if_neg hz]
theorem z_loop {i : Nat} (hi : i < 200) (fu : Nat) : ∀ (r : QS) (t : Nat), t ≤ 4 → 4 - t < fu → (∀ s, s < t → qL r 20 (4 * i + s) = 0) → ∃ r', f_X10_setNumber_32 fu r (nI i) (nI t) = some r' ∧ On i r r' ∧ qI r' = qI r ∧ qL r' 18 = qL r 18 ∧ ∀ s, s < 4 → qL r' 20 (4 * i + s) = 0 := by
  induction fu with
  | zero => intro q t _ h; omega
  | succ fu ih =>
    intro r t ht hf hT
    rw [f_X10_setNumber_32, f_X10_setNumber_32_b]
    by_cases he : t = 4
    · subst he
      rw [if_pos (show (4 : Int32) ≤ nI 4 from nI_le (a := 4) (Nat.le_refl _) (by decide))]
      exact ⟨r, rfl, On.rfl, rfl, rfl, hT⟩
    · rw [if_neg (show ¬ (4 : Int32) ≤ nI t from nI_ge (b := 4) (by omega) (by decide)), lit4_nI, nI_add, wL_nI (by omega) (by decide), Option.bind_some, nI_1]
      obtain ⟨r', h1, h2, h3, h4, h5⟩ := ih (uL r 20 (4 * i + t) 0) (t + 1) (by omega) (by omega) (fun s hs => by
          rw [qL_uL, if_pos rfl, updL_at]
          by_cases e3 : s = t
          · rw [if_pos (by omega)]
          · rw [if_neg (by omega)]; exact hT s (by omega))
      exact ⟨r', h1, (On.w (by omega)).trans h2, h3, h4, h5⟩
theorem nar0 : vp_nar .boolean 0 = 0 := rfl
theorem nar1 : vp_nar .boolean 1 = 1 := rfl
/-- setNumber: NULL, or a number -/
theorem r_num {r : QS} {i : Nat} (hi : i < 200) (b : Int32) (hb : b = 0 ∨ b = 1) (n : Int64) : ∃ r', f_X10_setNumber r (nI i) b n = some r' ∧ On i r r' ∧ qI r' 17 i = b ∧ qL r' 18 i = (if b = 0 then n else 0) ∧ qI r' 19 i = 0 ∧ ∀ s, s < 4 → qL r' 20 (4 * i + s) = 0 := by
  unfold f_X10_setNumber f_X10_setNumber_0
  have hnb : vp_nar .boolean b = b := by rcases hb with rfl | rfl <;> rfl
  rw [wI_nI hi (by decide), Option.bind_some, hnb]
  have key : ∀ m : Int64, ∃ r', f_X10_setNumber_21 (uI r 17 i b) (nI i) (nI i) m = some r' ∧ On i r r' ∧ qI r' 17 i = b ∧ qL r' 18 i = m ∧ qI r' 19 i = 0 ∧ ∀ s, s < 4 → qL r' 20 (4 * i + s) = 0 := fun m => by
    unfold f_X10_setNumber_21
    rw [wL_nI hi (by decide), Option.bind_some, wI_nI hi (by decide), Option.bind_some]
    obtain ⟨r', h1, h2, h3, h4, h5⟩ := z_loop hi FU (uI (uL (uI r 17 i b) 18 i m) 19 i 0) 0 (Nat.zero_le _) (by show 4 - 0 < 100000; omega) (fun s hs => by omega)
    refine ⟨r', h1, ((On.n.trans On.v).trans On.l).trans h2, ?_, ?_, ?_, h5⟩
    · rw [h3, qI_uI, if_neg (by decide), qI_uL, qI_uI, if_pos rfl, upd_at, if_pos rfl]
    · rw [h4, qL_uI, qL_uL, if_pos rfl, updL_at, if_pos rfl]
    · rw [h3, qI_uI, if_pos rfl, upd_at, if_pos rfl]
  rcases hb with rfl | rfl
  · rw [if_pos rfl, if_pos rfl]; exact key n
  · rw [if_neg (by decide), if_neg (by decide)]; exact key 0
theorem r_null {r : QS} {i : Nat} (hi : i < 200) (n : Int64) : ∃ r', f_X10_setNumber r (nI i) 1 n = some r' ∧ On i r r' ∧ VR r' i vNull := by
  obtain ⟨r', h1, h2, h3, h4, h5, h6⟩ := r_num (r := r) hi 1 (Or.inr rfl) n
  exact ⟨r', h1, h2, h3, h4, h5, h6⟩
theorem r_nm {r : QS} {i : Nat} (hi : i < 200) (x : Vl) (hx : (∃ n, x = vInt n) ∨ ∃ n, x = vBool n) : ∃ r', f_X10_setNumber r (nI i) 0 (vn x) = some r' ∧ On i r r' ∧ VR r' i x := by
  obtain ⟨r', h1, h2, h3, h4, h5, h6⟩ := r_num (r := r) hi 0 (Or.inl rfl) (vn x)
  refine ⟨r', h1, h2, ?_⟩
  rcases hx with ⟨n, rfl⟩ | ⟨n, rfl⟩
  · exact ⟨h3, h4, h5, h6⟩
  · exact ⟨h3, h4, h5, h6⟩
/-! bytes of the reference's words -/
def pb (W : Nat → Int64) (k b : Nat) : Nat → Int64 := fun j => if j = k / 8 then (W j &&& (((255 : Int64) <<< ((nI (8 * (7 - k % 8))).toInt64 &&& 63)) ^^^ (-1))) ||| (lN b <<< ((nI (8 * (7 - k % 8))).toInt64 &&& 63)) else W j
theorem gb_pb {W : Nat → Int64} {k b t : Nat} (hb : b < 256) : gb (pb W k b) t = if t = k then b else gb W t := by
  unfold gb pb
  by_cases h : t / 8 = k / 8
  · rw [if_pos h, b8_or, b8_put hb (by omega) (by omega), b8_and, b8_xor, show (255 : Int64) = lN 255 from rfl, b8_put (by decide) (by omega) (by omega), b8_ff _ (by omega)]
    by_cases e : t = k
    · subst e
      rw [if_pos rfl, if_pos rfl, if_pos rfl, Nat.xor_self, Nat.and_zero, Nat.zero_or]
    · rw [if_neg e, if_neg (by omega), if_neg (by omega), Nat.zero_xor, Nat.or_zero, show 255 = 2 ^ 8 - 1 from rfl, Nat.and_two_pow_sub_one_eq_mod, Nat.mod_eq_of_lt (b8_lt _ _)]
  · rw [if_neg h, if_neg (fun e => h (by rw [e]))]
theorem r_put_b {r : QS} {i k b : Nat} {W : Nat → Int64} (hi : i < 200) (hk : k < 32) (hb : b < 256) (hW : ∀ j, j < 4 → qL r 20 (4 * i + j) = W j) : ∃ r', f_X10_putByte r (nI (4 * i)) (nI k) (nI b) = some r' ∧ On i r r' ∧ qI r' = qI r ∧ qL r' 18 = qL r 18 ∧ ∀ j, j < 4 → qL r' 20 (4 * i + j) = pb W k b j := by
  unfold f_X10_putByte f_X10_putByte_0
  rw [sh_b k (by omega), div8 k (by omega), nI_add, rd_nI (by omega) (by decide), Option.bind_some, wL_nI (by omega) (by decide), Option.bind_some, nI_l64 (n := b) (show b < 2 ^ 31 by omega)]
  refine ⟨_, rfl, On.w (by omega), rfl, rfl, fun j hj => ?_⟩
  rw [qL_uL, if_pos rfl, updL_at]
  unfold pb
  by_cases e : j = k / 8
  · rw [if_pos (by omega), if_pos e, e, hW (k / 8) (by omega)]
  · rw [if_neg (by omega), if_neg e, hW j hj]
theorem r_byte {r : QS} {i k : Nat} {W : Nat → Int64} (hi : i < 200) (hk : k < 32) (hW : ∀ j, j < 4 → qL r 20 (4 * i + j) = W j) : f_X10_byteOf r (nI (4 * i)) (nI k) = some (nI (gb W k)) := by
  unfold f_X10_byteOf f_X10_byteOf_0
  rw [sh_b k (by omega), div8 k (by omega), nI_add, rd_nI (by omega) (by decide), Option.bind_some, hW _ (by omega), byte_sshr _ (by omega)]
  rfl
