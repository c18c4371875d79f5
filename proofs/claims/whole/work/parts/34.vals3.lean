/-! comparing -/
def ow (o : Int32) (W W' : Nat → Int64) : Nat → Int32
  | 0 => o
  | t + 1 => if ow o W W' t = 0 then wcmp (W t) (W' t) else ow o W W' t
def rcmp (x y : Vl) : Int32 := if ow (lg_cmp (vn x) (vn y)) (vw x) (vw y) 4 = 0 then lg_cmp (lN (vl x)) (lN (vl y)) else ow (lg_cmp (vn x) (vn y)) (vw x) (vw y) 4
theorem cmp_loop {q : QS} {v i j m : Nat} {S T : Nat → Int64} {tn : Int64} (hi : i < vN q v) (hj : j < vN q v) (hv : vN q v < 20000) (hm : m ≤ 4) (hS : ∀ s, s < m → qL q (3 * v + 2) (i * 4 + s) = S s) (hT : ∀ s, s < m → qL q (3 * v + 2) (j * 4 + s) = T s) (fu : Nat) : ∀ t, t ≤ m → m - t < fu → (∃ s, t ≤ s ∧ s < m ∧ ¬ lg_cmp (S s ^^^ tn) (T s ^^^ tn) = 0 ∧ (∀ r, t ≤ r → r < s → lg_cmp (S r ^^^ tn) (T r ^^^ tn) = 0) ∧ f_X8_compare_43 v q fu (nI i) (nI j) (nI m) tn (nI t) = some (lg_cmp (S s ^^^ tn) (T s ^^^ tn))) ∨ ((∀ r, t ≤ r → r < m → lg_cmp (S r ^^^ tn) (T r ^^^ tn) = 0) ∧ f_X8_compare_43 v q fu (nI i) (nI j) (nI m) tn (nI t) = some 0) := by
  induction fu with
  | zero => intro t _ h; omega
  | succ fu ih =>
    intro t ht hf
    rw [f_X8_compare_43, f_X8_compare_43_b]
    by_cases he : t = m
    · subst he
      rw [if_pos (nI_le (Nat.le_refl _) (by omega))]
      exact Or.inr ⟨fun r h1 h2 => by omega, rfl⟩
    · rw [if_neg (nI_ge (by omega) (by omega)), nI_lit4, nI_lit4, nI_add, nI_add, rd_nI (by omega) (by omega), Option.bind_some, rd_nI (by omega) (by omega), Option.bind_some, hS t (by omega), hT t (by omega), nI_1]
      by_cases hd : lg_cmp (S t ^^^ tn) (T t ^^^ tn) = 0
      · rw [if_pos hd]
        rcases ih (t + 1) (by omega) (by omega) with ⟨s, a, b, c, d, e⟩ | ⟨a, b⟩
        · exact Or.inl ⟨s, by omega, b, c, fun r h1 h2 => by
            by_cases e : r = t
            · rw [e]; exact hd
            · exact d r (by omega) h2, e⟩
        · exact Or.inr ⟨fun r h1 h2 => by
            by_cases e : r = t
            · rw [e]; exact hd
            · exact a r (by omega) h2, b⟩
      · rw [if_neg hd, lg_sgn _ _ hd]
        exact Or.inl ⟨t, Nat.le_refl _, by omega, hd, fun r h1 h2 => by omega, rfl⟩
theorem xor0 (x : Int64) : x ^^^ 0 = x := by
  refine un_inj ?_
  rw [un_xor, show un 0 = 0 from rfl, Nat.xor_zero]
theorem wcmp0 (x y : Int64) : wcmp x y = 0 ↔ x = y := (lg_eq0 _ _).trans (xm_eq x y)
theorem wcmp_un (x y : Int64) : wcmp x y = if un y < un x then 1 else if un x = un y then 0 else -1 := by
  unfold wcmp lg_cmp
  by_cases h : un y < un x
  · rw [if_pos h, if_pos ((xm_lt y x).mpr h)]
  · rw [if_neg h, if_neg (fun z => h ((xm_lt y x).mp z))]
    by_cases e : un x = un y
    · rw [if_pos e, if_pos ((xm_eq x y).mpr (un_inj e))]
    · rw [if_neg e, if_neg (fun z => e (by rw [(xm_eq x y).mp z]))]
theorem lgN (a b : Nat) (ha : a < 2 ^ 31) (hb : b < 2 ^ 31) : lg_cmp (lN a) (lN b) = if b < a then 1 else if a = b then 0 else -1 := by
  unfold lg_cmp
  by_cases h : b < a
  · rw [if_pos h, if_pos ((lN_lt hb ha).mpr h)]
  · rw [if_neg h, if_neg (fun z => h ((lN_lt hb ha).mp z))]
    by_cases e : a = b
    · rw [if_pos e, if_pos (by rw [e])]
    · rw [if_neg e, if_neg (fun z => e ((lN_eq ha hb).mp z))]
theorem wcmp_len {w w' : Int64} {n n' : Nat} (h : un w % 256 = 0) (h' : un w' % 256 = 0) (hn : n < 256) (hn' : n' < 256) : wcmp (w + lN n) (w' + lN n') = if wcmp w w' = 0 then lg_cmp (lN n) (lN n') else wcmp w w' := by
  rw [wcmp_un, un_len h hn, un_len h' hn']
  by_cases e : un w = un w'
  · rw [if_pos ((wcmp0 w w').mpr (un_inj e)), lgN _ _ (by omega) (by omega)]
    by_cases c1 : n' < n
    · rw [if_pos (by omega), if_pos c1]
    · rw [if_neg (by omega), if_neg c1]
      by_cases c2 : n = n'
      · rw [if_pos (by omega), if_pos c2]
      · rw [if_neg (by omega), if_neg c2]
  · have hz : ¬ wcmp w w' = 0 := fun z => e (by rw [(wcmp0 w w').mp z])
    rw [if_neg hz, wcmp_un w w']
    by_cases c1 : un w' < un w
    · rw [if_pos (by omega), if_pos c1]
    · rw [if_neg (by omega), if_neg (by omega), if_neg c1, if_neg e]
theorem ow_first {o : Int32} {W W' : Nat → Int64} (ho : o = 0) : ∀ m, (∃ s, s < m ∧ ¬ wcmp (W s) (W' s) = 0 ∧ (∀ r, r < s → wcmp (W r) (W' r) = 0) ∧ ow o W W' m = wcmp (W s) (W' s)) ∨ ((∀ r, r < m → wcmp (W r) (W' r) = 0) ∧ ow o W W' m = 0) := by
  intro m
  induction m with
  | zero => exact Or.inr ⟨fun r h => by omega, ho⟩
  | succ m ih =>
    rw [ow]
    rcases ih with ⟨s, a, b, c, d⟩ | ⟨a, b⟩
    · rw [d, if_neg b]
      exact Or.inl ⟨s, by omega, b, c, rfl⟩
    · rw [b, if_pos rfl]
      by_cases hd : wcmp (W m) (W' m) = 0
      · exact Or.inr ⟨fun r h => by
          by_cases e : r = m
          · rw [e]; exact hd
          · exact a r (by omega), hd⟩
      · exact Or.inl ⟨m, by omega, hd, a, rfl⟩
theorem f_compare {q : QS} {v i j : Nat} {x y : Vl} (hx : VC q v i x) (hy : VC q v j y) (ox : vOk x) (oy : vOk y) (hk : vk x = vk y) (h0 : ¬ vk x = 0) (hi : i < vN q v) (hj : j < vN q v) (hv : vN q v < 20000) : f_X8_compare v q (nI i) (nI j) = some (rcmp x y) := by
  have kx := vOk_k ox
  have ky := vOk_k oy
  have hnw : nW y = nW x := by unfold nW; rw [hk]
  unfold f_X8_compare f_X8_compare_0
  rw [v_kind hx hi hv, Option.bind_some]
  by_cases h2 : vk x = 2
  · have n4 : nW x = 4 := by unfold nW; rw [if_neg h0, if_pos h2]
    rw [h2, if_pos (show nI 2 = 2 from rfl), f_X8_compare_15, if_neg (by decide), f_X8_compare_25, if_neg (by decide), f_X8_compare_38]
    have hwx := VC_w hx kx
    have hwy := VC_w hy ky
    rw [hnw] at hwy
    rw [n4] at hwx hwy
    have hl := cmp_loop (tn := -9223372036854775808) hi hj hv (Nat.le_refl 4) hwx hwy FU 0 (Nat.zero_le _) (by show 4 - 0 < 100000; omega)
    obtain ⟨W, len, hT, rfl⟩ : ∃ W len, tOk W len ∧ x = vTxt W len := by
      rcases ox with rfl | ⟨n, rfl⟩ | ⟨b, -, rfl⟩ | h
      · cases h2
      · cases h2
      · cases h2
      · exact h
    obtain ⟨W', len', hT', rfl⟩ : ∃ W len, tOk W len ∧ y = vTxt W len := by
      rcases oy with rfl | ⟨n, rfl⟩ | ⟨b, -, rfl⟩ | h
      · cases hk
      · cases hk
      · cases hk
      · exact h
    have ew : ∀ s, s < 3 → wcmp (cword (vTxt W len) s) (cword (vTxt W' len') s) = wcmp (W s) (W' s) := fun s hs => by
      show wcmp (cw (vTxt W len) s) (cw (vTxt W' len') s) = _
      unfold cw
      rw [if_neg (by omega), if_neg (by omega)]
      rfl
    have e3 : wcmp (cword (vTxt W len) 3) (cword (vTxt W' len') 3) = if wcmp (W 3) (W' 3) = 0 then lg_cmp (lN len) (lN len') else wcmp (W 3) (W' 3) := by
      show wcmp (W 3 + lN len) (W' 3 + lN len') = _
      exact wcmp_len (tOk_low hT) (tOk_low hT') (by have := hT.1; omega) (by have := hT'.1; omega)
    have hr : rcmp (vTxt W len) (vTxt W' len') = if ow 0 W W' 4 = 0 then lg_cmp (lN len) (lN len') else ow 0 W W' 4 := rfl
    have hl : (∃ s, 0 ≤ s ∧ s < 4 ∧ ¬ wcmp (cword (vTxt W len) s) (cword (vTxt W' len') s) = 0 ∧ (∀ r, 0 ≤ r → r < s → wcmp (cword (vTxt W len) r) (cword (vTxt W' len') r) = 0) ∧ f_X8_compare_43 v q FU (nI i) (nI j) (nI 4) (-9223372036854775808) (nI 0) = some (wcmp (cword (vTxt W len) s) (cword (vTxt W' len') s))) ∨ ((∀ r, 0 ≤ r → r < 4 → wcmp (cword (vTxt W len) r) (cword (vTxt W' len') r) = 0) ∧ f_X8_compare_43 v q FU (nI i) (nI j) (nI 4) (-9223372036854775808) (nI 0) = some 0) := hl
    show f_X8_compare_43 v q FU (nI i) (nI j) (nI 4) (-9223372036854775808) (nI 0) = _
    rw [hr]
    rcases hl with ⟨s, -, a, b, c, d⟩ | ⟨a, b⟩
    · rw [d]
      rcases ow_first (o := 0) (W := W) (W' := W') rfl 4 with ⟨s', a', b', c', d'⟩ | ⟨a', d'⟩
      · rw [d', if_neg b']
        have hs : s = s' := by
          rcases Nat.lt_trichotomy s s' with z | z | z
          · exact absurd ((ew s (by omega)).trans (c' s z)) b
          · exact z
          · exact absurd ((ew s' (by omega)).symm.trans (c s' (Nat.zero_le _) z)) b'
        subst hs
        by_cases h3 : s = 3
        · subst h3; rw [e3, if_neg b']
        · rw [ew s (by omega)]
      · rw [d', if_pos rfl]
        have h3 : s = 3 := by
          rcases Nat.lt_or_ge s 3 with z | z
          · exact absurd ((ew s z).trans (a' s (by omega))) b
          · omega
        subst h3
        rw [e3, if_pos (a' 3 (by decide))]
    · rw [b]
      have hall : ∀ r, r < 4 → wcmp (W r) (W' r) = 0 := fun r hr => by
        by_cases h3 : r = 3
        · subst h3
          have := a 3 (Nat.zero_le _) (by decide)
          rw [e3] at this
          by_cases hz : wcmp (W 3) (W' 3) = 0
          · exact hz
          · rw [if_neg hz] at this; exact this
        · exact (ew r (by omega)).symm.trans (a r (Nat.zero_le _) hr)
      have hz : ow 0 W W' 4 = 0 := by
        rcases ow_first (o := 0) (W := W) (W' := W') rfl 4 with ⟨s', a', b', c', d'⟩ | ⟨a', d'⟩
        · exact absurd (hall s' a') b'
        · exact d'
      rw [hz, if_pos rfl]
      have := a 3 (Nat.zero_le _) (by decide)
      rw [e3, if_pos (hall 3 (by decide))] at this
      rw [this]
  · have n1 : nW x = 1 := by unfold nW; rw [if_neg h0, if_neg h2]
    have hz : vw x = (fun _ => 0) ∧ vl x = 0 := by
      rcases ox with rfl | ⟨n, rfl⟩ | ⟨b, -, rfl⟩ | ⟨W, len, -, rfl⟩
      · exact ⟨rfl, rfl⟩
      · exact ⟨rfl, rfl⟩
      · exact ⟨rfl, rfl⟩
      · exact absurd rfl h2
    have hz' : vw y = (fun _ => 0) ∧ vl y = 0 := by
      rcases oy with rfl | ⟨n, rfl⟩ | ⟨b, -, rfl⟩ | ⟨W, len, -, rfl⟩
      · exact ⟨rfl, rfl⟩
      · exact ⟨rfl, rfl⟩
      · exact ⟨rfl, rfl⟩
      · exact absurd hk h2
    rw [if_neg (show ¬ nI (vk x) = (2 : Int32) from fun e => h2 (nI_inj (by omega) (by decide) (show nI (vk x) = nI 2 from e))), f_X8_compare_15, if_pos rfl, f_X8_compare_25, if_pos rfl, f_X8_compare_38]
    have hwx := VC_w hx kx
    have hwy := VC_w hy ky
    rw [hnw] at hwy
    rw [n1] at hwx hwy
    have cx : cword x 0 = vn x := by unfold cword; rw [if_neg h2]
    have cy : cword y 0 = vn y := by unfold cword; rw [if_neg (by omega)]
    have hr : rcmp x y = lg_cmp (vn x) (vn y) := by
      unfold rcmp
      rw [hz.1, hz.2, hz'.1, hz'.2]
      have h00 : lg_cmp (lN 0) (lN 0) = 0 := (lg_eq0 _ _).mpr rfl
      have hw0 : wcmp 0 0 = 0 := (wcmp0 0 0).mpr rfl
      have ho : ∀ t, ow (lg_cmp (vn x) (vn y)) (fun _ => 0) (fun _ => 0) t = lg_cmp (vn x) (vn y) := fun t => by
        induction t with
        | zero => rfl
        | succ t ih =>
          rw [ow, ih]
          by_cases z : lg_cmp (vn x) (vn y) = 0
          · rw [if_pos z, z]; exact hw0
          · rw [if_neg z]
      rw [ho 4, h00]
      by_cases z : lg_cmp (vn x) (vn y) = 0
      · rw [if_pos z, z]
      · rw [if_neg z]
    rcases cmp_loop (tn := 0) hi hj hv (by decide : 1 ≤ 4) hwx hwy FU 0 (Nat.zero_le _) (by show 1 - 0 < 100000; omega) with ⟨s, -, a, b, c, d⟩ | ⟨a, b⟩
    · obtain rfl : s = 0 := by omega
      rw [xor0, xor0, cx, cy] at d
      rw [hr]; exact d
    · have a := a 0 (Nat.le_refl _) (by decide)
      rw [xor0, xor0, cx, cy] at a
      rw [hr, a]; exact b
/-- orders: NULL behind all -/
def ocmp (x y : Vl) : Int32 := if vk x = 0 ∨ vk y = 0 then (if vk x = 0 then (if vk y = 0 then 0 else 1) else -1) else rcmp x y
theorem f_cnl {q : QS} {v i j : Nat} {x y : Vl} (hx : VC q v i x) (hy : VC q v j y) (ox : vOk x) (oy : vOk y) (hk : vk x = 0 ∨ vk y = 0 ∨ vk x = vk y) (hi : i < vN q v) (hj : j < vN q v) (hv : vN q v < 20000) : f_X8_compareNullsLast v q (nI i) (nI j) = some (ocmp x y) := by
  have kx := vOk_k ox
  have ky := vOk_k oy
  unfold f_X8_compareNullsLast f_X8_compareNullsLast_0 f_X8_compareNullsLast_16 ocmp
  rw [f_isNull hx kx hi hv, f_isNull hy ky hj hv]
  simp only [Option.bind_some]
  by_cases a : vk x = 0
  · by_cases b : vk y = 0
    · simp [a, b]
    · simp [a, b]
  · by_cases b : vk y = 0
    · simp [a, b]
    · rw [if_neg a, if_pos rfl, if_neg b, if_pos rfl, f_compare hx hy ox oy (by omega) a hi hj hv, if_neg (by omega)]
      rfl
/-! hashing: it depends on the value alone -/
def hstep (h w : Int64) : Int64 := ((h ^^^ w) * (-7046029254386353131)) ^^^ ((((h ^^^ w) * (-7046029254386353131)).toUInt64 >>> (((32 : Int32)).toInt64.toUInt64 &&& Int64.toUInt64 63)).toInt64)
def hfold (x : Vl) (h : Int64) : Nat → Int64
  | 0 => h
  | t + 1 => hstep (hfold x h t) (cword x t)
def hsh (h : Int64) (x : Vl) : Int64 := hfold x (h * 31 + (nI (vk x)).toInt64) (nW x)
theorem hash_loop {q : QS} {v i m : Nat} {x : Vl} {h : Int64} (hi : i < vN q v) (hv : vN q v < 20000) (hm : m ≤ 4) (hS : ∀ s, s < m → qL q (3 * v + 2) (i * 4 + s) = cword x s) (fu : Nat) : ∀ t, t ≤ m → m - t < fu → f_X8_hashOnto_25 v q fu (nI i) (hfold x h t) (nI m) (nI t) = some (hfold x h m) := by
  induction fu with
  | zero => intro t _ h; omega
  | succ fu ih =>
    intro t ht hf
    rw [f_X8_hashOnto_25, f_X8_hashOnto_25_b]
    by_cases he : t = m
    · subst he
      rw [if_pos (nI_le (Nat.le_refl _) (by omega))]
    · rw [if_neg (nI_ge (by omega) (by omega)), nI_lit4, nI_add, rd_nI (by omega) (by omega), Option.bind_some, hS t (by omega), nI_1]
      exact ih (t + 1) (by omega) (by omega)
theorem f_hash {q : QS} {v i : Nat} {x : Vl} (hx : VC q v i x) (ox : vOk x) (h : Int64) (hi : i < vN q v) (hv : vN q v < 20000) : f_X8_hashOnto v q h (nI i) = some (hsh h x) := by
  have kx := vOk_k ox
  unfold f_X8_hashOnto f_X8_hashOnto_0
  rw [v_kind hx hi hv, Option.bind_some, f_wiu hx kx hi hv, Option.bind_some]
  exact hash_loop (h := h * 31 + (nI (vk x)).toInt64) hi hv (nW_le x) (VC_w hx kx) FU 0 (Nat.zero_le _) (by have := nW_le x; show nW x - 0 < 100000; omega)
/-! texts: one more byte, a text behind a text -/
def setb (W : Nat → Int64) (k b : Nat) : Nat → Int64 := fun j => if j = k / 8 then W j ||| (lN b <<< ((nI (8 * (7 - k % 8))).toInt64 &&& 63)) else W j
theorem gb_setb {W : Nat → Int64} {k b t : Nat} (hb : b < 256) : gb (setb W k b) t = if t = k then gb W k ||| b else gb W t := by
  unfold gb setb
  by_cases h : t / 8 = k / 8
  · rw [if_pos h, b8_or, b8_put hb (by omega) (by omega)]
    by_cases e : t = k
    · subst e
      rw [if_pos rfl, if_pos rfl]
    · rw [if_neg e, if_neg (by omega), Nat.or_zero]
  · rw [if_neg h, if_neg (fun e => h (by rw [e]))]
theorem tOk_setb {W : Nat → Int64} {len b : Nat} (h : tOk W len) (hb : b < 256) (hl : len < 31) : tOk (setb W len b) (len + 1) := by
  refine ⟨by omega, fun k h1 h2 => ?_, fun j hj => ?_⟩
  · rw [gb_setb hb, if_neg (by omega)]
    exact h.2.1 k (by omega) h2
  · unfold setb
    rw [if_neg (by omega)]
    exact h.2.2 j hj
/-- a byte for which there is no place is cut off -/
def tapp (x : Vl) (b : Nat) : Vl := if vl x < 31 then vTxt (setb (vw x) (vl x) b) (vl x + 1) else x
theorem tx_of {x : Vl} (ox : vOk x) (h : vk x = 2) : ∃ W len, tOk W len ∧ x = vTxt W len := by
  rcases ox with rfl | ⟨n, rfl⟩ | ⟨b, -, rfl⟩ | h2
  · cases h
  · cases h
  · cases h
  · exact h2
theorem l255' {w : Int64} {n : Nat} (h : b8 w 0 = n) : (w.toInt32 &&& (255 : Int32)) = nI n := by
  rw [pk_and _ (m := 255) 8 (by decide)]
  have h2 : w.toInt32.toBitVec.toNat = un w % 2 ^ 32 := by
    unfold un
    rw [show w.toInt32.toBitVec = w.toBitVec.signExtend 32 from rfl, BitVec.signExtend_eq_setWidth_of_le _ (by decide), BitVec.toNat_setWidth]
  rw [h2, show (2 : Nat) ^ 8 = 256 from rfl, Nat.mod_mod_of_dvd _ (by decide : 256 ∣ 2 ^ 32)]
  congr 1
  rw [← h]
  unfold b8
  simp
theorem or_len {w : Int64} {b i n : Nat} (h : un w % 256 = 0) (hn : n < 256) (hb : b < 256) (hi : 0 < i) (hi8 : i < 8) : (w + lN n) ||| (lN b <<< ((nI (8 * i)).toInt64 &&& 63)) = (w ||| (lN b <<< ((nI (8 * i)).toInt64 &&& 63))) + lN n := by
  have hp0 : b8 (lN b <<< ((nI (8 * i)).toInt64 &&& 63)) 0 = 0 := by rw [b8_put hb hi8 (by decide), if_neg (by omega)]
  have hlow : un (w ||| (lN b <<< ((nI (8 * i)).toInt64 &&& 63))) % 256 = 0 := by
    have : b8 (w ||| (lN b <<< ((nI (8 * i)).toInt64 &&& 63))) 0 = 0 := by
      rw [b8_or, hp0, Nat.or_zero]
      unfold b8
      simpa using h
    unfold b8 at this
    simpa using this
  refine b8_ext fun t ht => ?_
  rcases t with _ | t
  · rw [b8_or, b8_len0 h hn, b8_len0 hlow hn, hp0, Nat.or_zero]
  · rw [b8_or, b8_lenS h hn, b8_lenS hlow hn, b8_or]
theorem v_append {q : QS} {v i : Nat} {x : Vl} (hx : VC q v i x) (ox : vOk x) (hk : vk x = 2) {b : Nat} (hb : b < 256) (hi : i < vN q v) (hv : vN q v < 20000) : ∃ q', f_X8_appendByte v q (nI i) (nI b) = some q' ∧ VC q' v i (tapp x b) ∧ Oc v i q q' ∧ vOk (tapp x b) ∧ vk (tapp x b) = 2 := by
  obtain ⟨W, len, hT, rfl⟩ := tx_of ox hk
  have hlen := hT.1
  have hw := hx.2.2 hk
  have hw3 : qL q (3 * v + 2) (i * 4 + 3) = W 3 + lN len := hw 3 (by decide)
  have hl8 : b8 (W 3 + lN len) 0 = len := b8_len0 (tOk_low hT) (by omega)
  unfold f_X8_appendByte f_X8_appendByte_0
  rw [nI_lit4, nI_l3, rd_nI (by omega) (by omega), Option.bind_some, hw3, l255' hl8]
  by_cases h31 : len < 31
  · have ht : tapp (vTxt W len) b = vTxt (setb W len b) (len + 1) := if_pos h31
    rw [if_neg (show ¬ (31 : Int32) ≤ nI len from nI_ge (b := 31) h31 (by decide)), sh_b len (by omega), div8 len (by omega), nI_add, rd_nI (by omega) (by omega), Option.bind_some, wL_nI (by omega) (by omega), Option.bind_some, rd_nI (by rw [vN_uL]; omega) (by rw [vN_uL]; omega), Option.bind_some, wL_nI (by rw [vN_uL]; omega) (by rw [vN_uL]; omega), Option.bind_some, nI_l64 (by omega), ht]
    refine ⟨_, rfl, VC_of ?_ (fun j hj => ?_), (Oc.L (by omega)).trans (Oc.L (by omega)), Or.inr (Or.inr (Or.inr ⟨_, _, tOk_setb hT hb h31, rfl⟩)), rfl⟩
    · exact hx.1
    · have hj : j < 4 := hj
      show _ = cw (vTxt (setb W len b) (len + 1)) j
      have hwj := hw j hj
      rw [qL_uL, if_pos rfl, updL_at, qL_uL, if_pos rfl, updL_at, updL_at]
      unfold cw
      show _ = if j = 3 then setb W len b 3 + lN (len + 1) else setb W len b j
      have h1 : lN (len + 1) = lN len + 1 := (lN_1 len).symm
      by_cases h3 : j = 3
      · subst h3
        rw [if_pos rfl, if_pos rfl]
        unfold setb
        by_cases h24 : len / 8 = 3
        · rw [if_pos (by omega), if_pos h24.symm, h24, hw3, or_len (tOk_low hT) (by omega) hb (by omega) (by omega), h1]
          exact Int64.add_assoc _ _ _
        · rw [if_neg (by omega), if_neg (fun e => h24 e.symm), hw3, h1]
          exact Int64.add_assoc _ _ _
      · rw [if_neg (by omega), if_neg h3]
        unfold setb
        by_cases hd : j = len / 8
        · rw [if_pos (by omega), if_pos hd, ← hd, hwj]
          unfold cw
          rw [if_neg h3]
          rfl
        · rw [if_neg (by omega), if_neg hd, hwj]
          unfold cw
          rw [if_neg h3]
          rfl
  · have ht : tapp (vTxt W len) b = vTxt W len := if_neg h31
    rw [if_pos (show (31 : Int32) ≤ nI len from nI_le (a := 31) (by omega) (by omega)), ht]
    exact ⟨q, rfl, hx, Oc.rfl, ox, rfl⟩
