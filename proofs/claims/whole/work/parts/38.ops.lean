/-! what the kinds work out to -/
def bB (p : Prop) [Decidable p] : Int64 := if p then 1 else 0
def hld (k : Nat) (o : Int32) : Prop := (k = 17 ∧ o = 0) ∨ (k = 18 ∧ ¬ o = 0) ∨ (k = 19 ∧ o < 0) ∨ (k = 20 ∧ o ≤ 0) ∨ (k = 21 ∧ 0 < o) ∨ (k = 22 ∧ 0 ≤ o)
def hldB (k : Nat) (o : Int32) : Int64 := if k = 17 then (if o = 0 then 1 else 0) else if k = 18 then (if o = 0 then 0 else 1) else if k = 19 then (if 0 ≤ o then 0 else 1) else if k = 20 then (if 0 < o then 0 else 1) else if k = 21 then (if o ≤ 0 then 0 else 1) else (if o < 0 then 0 else 1)
def ari (k : Nat) (a b : Int64) : Int64 := if k = 11 then a + b else if k = 12 then a - b else if k = 13 then a * b else if k = 14 then a / b else a - a / b * b
/-- a text behind a text, cut -/
def jv (x y : Vl) : Vl := vTxt (wob (fun k => if k < vl x then gb (vw x) k else gb (vw y) (k - vl x)) (min 31 (vl x + vl y))) (min 31 (vl x + vl y))
def dcd (d : Int64) (x y : Vl) : Vl := if (¬ vk x = 0 ∧ vn x = d) ∨ (¬ vk y = 0 ∧ vn y = d) then vBool d else if vk x = 0 ∨ vk y = 0 then vNull else vBool (1 - d)
def opv (k : Nat) (x y : Vl) : Vl :=
  if k = 10 then (if vk x = 0 then vNull else vInt (-vn x))
  else if k ≤ 15 then (if vk x = 0 ∨ vk y = 0 ∨ (13 < k ∧ vn y = 0) then vNull else vInt (ari k (vn x) (vn y)))
  else if k = 16 then (if vk x = 0 ∨ vk y = 0 then vNull else jv x y)
  else if k ≤ 22 then (if vk x = 0 ∨ vk y = 0 then vNull else vBool (hldB k (rcmp x y)))
  else if k = 23 then vBool (if vk x = 0 then 1 else 0)
  else if k = 24 then vBool (if vk x = 0 then 0 else 1)
  else if k = 25 then (if vk x = 0 then vNull else vBool (1 - vn x))
  else dcd (if k = 26 then 0 else 1) x y
/-! numbers against constants -/
theorem cLe {c k : Nat} (h : c ≤ k) (hk : k < 2 ^ 31) : nI c ≤ nI k := nI_le h hk
theorem cNle {c k : Nat} (h : k < c) (hc : c < 2 ^ 31) : ¬ nI c ≤ nI k := nI_ge h hc
theorem cNe {c k : Nat} (h : ¬ k = c) (hk : k < 2 ^ 31) (hc : c < 2 ^ 31) : ¬ nI k = nI c := fun e => h (nI_inj hk hc e)
theorem f_ari {k : Nat} (h1 : 11 ≤ k) (h2 : k ≤ 15) (a b : Int64) : ∃ z, f_X10_arithmetic (nI k) a b = some z ∧ ((k ≤ 13 ∨ ¬ b = 0) → z = ari k a b) := by
  unfold f_X10_arithmetic f_X10_arithmetic_0 ari
  by_cases c11 : k = 11
  · subst c11; exact ⟨_, rfl, fun _ => rfl⟩
  · rw [if_neg (show ¬ nI k = (11 : Int32) from cNe c11 (by omega) (by decide)), if_neg c11]
    by_cases c12 : k = 12
    · subst c12; exact ⟨_, rfl, fun _ => rfl⟩
    · rw [if_neg (show ¬ nI k = (12 : Int32) from cNe c12 (by omega) (by decide)), if_neg c12]
      by_cases c13 : k = 13
      · subst c13; exact ⟨_, rfl, fun _ => rfl⟩
      · rw [if_neg (show ¬ nI k = (13 : Int32) from cNe c13 (by omega) (by decide)), if_neg c13]
        by_cases hb : b = 0
        · rw [if_pos ((lg_eq0 _ _).mpr hb)]
          exact ⟨_, rfl, fun h => by rcases h with h | h; omega; exact absurd hb h⟩
        · rw [if_neg (fun z => hb ((lg_eq0 _ _).mp z))]
          by_cases c14 : k = 14
          · subst c14
            rw [if_pos (show nI 14 = (14 : Int32) from rfl), if_neg hb, if_pos rfl]
            exact ⟨_, rfl, fun _ => rfl⟩
          · rw [if_neg (show ¬ nI k = (14 : Int32) from cNe c14 (by omega) (by decide)), if_neg hb, if_neg c14]
            exact ⟨_, rfl, fun _ => rfl⟩
theorem f_holdsR {k : Nat} (h1 : 17 ≤ k) (h2 : k ≤ 22) (o : Int32) : ∃ z, f_X10_holds (nI k) o = some z ∧ (z = 0 → hldB k o = 0) ∧ (¬ z = 0 → hldB k o = 1) := by
  unfold f_X10_holds f_X10_holds_0 hldB
  have two : ∀ (p : Prop) [Decidable p], ∃ z : Int32, (if p then some (1 : Int32) else some 0) = some z ∧ (z = 0 → (if p then (1 : Int64) else 0) = 0) ∧ (¬ z = 0 → (if p then (1 : Int64) else 0) = 1) := fun p _ => by
    by_cases h : p
    · simp only [if_pos h]; exact ⟨1, rfl, fun e => absurd e (by decide), fun _ => trivial⟩
    · simp only [if_neg h]; exact ⟨0, rfl, fun _ => trivial, fun e => absurd rfl e⟩
  have two' : ∀ (p : Prop) [Decidable p], ∃ z : Int32, (if p then some (0 : Int32) else some 1) = some z ∧ (z = 0 → (if p then (0 : Int64) else 1) = 0) ∧ (¬ z = 0 → (if p then (0 : Int64) else 1) = 1) := fun p _ => by
    by_cases h : p
    · simp only [if_pos h]; exact ⟨0, rfl, fun _ => trivial, fun e => absurd rfl e⟩
    · simp only [if_neg h]; exact ⟨1, rfl, fun e => absurd e (by decide), fun _ => trivial⟩
  by_cases c17 : k = 17
  · subst c17
    rw [if_pos (show nI 17 = (17 : Int32) from rfl), if_pos rfl]; exact two _
  · rw [if_neg (show ¬ nI k = (17 : Int32) from cNe c17 (by omega) (by decide)), if_neg c17]
    by_cases c18 : k = 18
    · subst c18
      rw [if_pos (show nI 18 = (18 : Int32) from rfl), if_pos rfl]; exact two' _
    · rw [if_neg (show ¬ nI k = (18 : Int32) from cNe c18 (by omega) (by decide)), if_neg c18]
      by_cases c19 : k = 19
      · subst c19
        rw [if_pos (show nI 19 = (19 : Int32) from rfl), if_pos rfl]; exact two' _
      · rw [if_neg (show ¬ nI k = (19 : Int32) from cNe c19 (by omega) (by decide)), if_neg c19]
        by_cases c20 : k = 20
        · subst c20
          rw [if_pos (show nI 20 = (20 : Int32) from rfl), if_pos rfl]; exact two' _
        · rw [if_neg (show ¬ nI k = (20 : Int32) from cNe c20 (by omega) (by decide)), if_neg c20]
          by_cases c21 : k = 21
          · subst c21
            rw [if_pos (show nI 21 = (21 : Int32) from rfl), if_pos rfl]; exact two' _
          · rw [if_neg (show ¬ nI k = (21 : Int32) from cNe c21 (by omega) (by decide)), if_neg c21]; exact two' _
/-- none's flag, and what it decides -/
theorem nflag {r : QS} {a : Nat} {x : Vl} (hx : VR r a x) (ha : a < 200) : rd (qI r 17) 200 (nI a) = some (if vk x = 0 then 1 else 0) := by
  rw [rd_nI ha (by decide), hx.1]
theorem nnum {r : QS} {a : Nat} {x : Vl} (hx : VR r a x) (ha : a < 200) : rd (qL r 18) 200 (nI a) = some (vn x) := by
  rw [rd_nI ha (by decide), hx.2.1]
theorem nlen {r : QS} {a : Nat} {x : Vl} (hx : VR r a x) (ha : a < 200) : rd (qI r 19) 200 (nI a) = some (nI (vl x)) := by
  rw [rd_nI ha (by decide), hx.2.2.1]
/-! joining in the reference -/
theorem join_loop {i a b L : Nat} {x y : Vl} (hi : i < 200) (ha : a < 200) (hb : b < 200) (hia : i ≠ a) (hib : i ≠ b) (hL : L ≤ 31) (lx : vl x ≤ 31) (fu : Nat) : ∀ (r : QS) (k : Nat) (W : Nat → Int64), VR r a x → VR r b y → qI r 19 i = nI L → k ≤ L → L - k < fu → (∀ j, j < 4 → qL r 20 (4 * i + j) = W j) → (∀ t, t < 32 → gb W t = if t < k then (if t < vl x then gb (vw x) t else gb (vw y) (t - vl x)) else 0) → ∃ r' W', f_X10_join_80 fu r (nI i) (nI a) (nI b) (nI k) = some r' ∧ On i r r' ∧ qI r' = qI r ∧ qL r' 18 = qL r 18 ∧ (∀ j, j < 4 → qL r' 20 (4 * i + j) = W' j) ∧ ∀ t, t < 32 → gb W' t = if t < L then (if t < vl x then gb (vw x) t else gb (vw y) (t - vl x)) else 0 := by
  induction fu with
  | zero => intro r k W _ _ _ _ hf; omega
  | succ fu ih =>
    intro r k W hx hy hl hk hf hW hg
    rw [f_X10_join_80, f_X10_join_80_b, rd_nI hi (by decide), Option.bind_some, hl]
    by_cases he : k = L
    · subst he
      rw [if_pos (nI_le (Nat.le_refl _) (by omega))]
      exact ⟨r, W, rfl, On.rfl, rfl, rfl, hW, hg⟩
    · rw [if_neg (nI_ge (by omega) (by omega)), nlen hx ha, Option.bind_some]
      have go : ∀ c : Nat, c < 256 → (c = if k < vl x then gb (vw x) k else gb (vw y) (k - vl x)) → ∃ r' W', f_X10_join_136 (f_X10_join_80 fu) r (nI i) (nI a) (nI b) (nI k) (nI (4 * i)) (nI k) (nI c) = some r' ∧ On i r r' ∧ qI r' = qI r ∧ qL r' 18 = qL r 18 ∧ (∀ j, j < 4 → qL r' 20 (4 * i + j) = W' j) ∧ ∀ t, t < 32 → gb W' t = if t < L then (if t < vl x then gb (vw x) t else gb (vw y) (t - vl x)) else 0 := fun c hc hcv => by
        obtain ⟨r1, a1, a2, a3, a4, a5⟩ := r_put_b (r := r) (i := i) (k := k) (b := c) (W := W) hi (by omega) hc hW
        unfold f_X10_join_136
        rw [a1, Option.bind_some, nI_1]
        obtain ⟨r', W', c1, c2, c3, c4, c5, c6⟩ := ih r1 (k + 1) (pb W k c) (hx.other a2 (Ne.symm hia)) (hy.other a2 (Ne.symm hib)) (by rw [a3]; exact hl) (by omega) (by omega) a5 (fun t ht => by
          rw [gb_pb hc]
          by_cases e : t = k
          · subst e; rw [if_pos rfl, if_pos (by omega)]; exact hcv
          · rw [if_neg e, hg t ht]
            by_cases c : t < k
            · rw [if_pos c, if_pos (show t < k + 1 by omega)]
            · rw [if_neg c, if_neg (show ¬ t < k + 1 by omega)])
        exact ⟨r', W', c1, a2.trans c2, c3.trans a3, c4.trans a4, c5, c6⟩
      by_cases hc : k < vl x
      · rw [if_neg (nI_ge hc (by omega)), lit4_nI, lit4_nI, r_byte ha (by omega) hx.2.2.2, Option.bind_some]
        exact go _ (gb_lt _ _) (by rw [if_pos hc])
      · rw [if_pos (nI_le (by omega) (by omega)), Option.bind_some, pk_sub (by omega : vl x ≤ k), lit4_nI, lit4_nI, r_byte hb (by omega) hy.2.2.2, Option.bind_some]
        exact go _ (gb_lt _ _) (by rw [if_neg hc])
theorem r_join {r : QS} {i a b : Nat} {x y : Vl} (hi : i < 200) (ha : a < 200) (hb : b < 200) (hia : i ≠ a) (hib : i ≠ b) (hx : VR r a x) (hy : VR r b y) (lx : vl x ≤ 31) (ly : vl y ≤ 31) : ∃ r', f_X10_join r (nI i) (nI a) (nI b) = some r' ∧ On i r r' ∧ VR r' i (if vk x = 0 ∨ vk y = 0 then vNull else jv x y) := by
  have tail : ∀ (r1 : QS) (L : Nat), On i r r1 → L ≤ 31 → (∀ j, j < 4 → qL r1 20 (4 * i + j) = 0) → ∃ r' W', f_X10_join_55 r1 (nI i) (nI a) (nI b) (nI L) = some r' ∧ On i r1 r' ∧ qI r' 17 = qI r1 17 ∧ qL r' 18 = qL r1 18 ∧ qI r' 19 i = nI L ∧ (∀ j, j < 4 → qL r' 20 (4 * i + j) = W' j) ∧ ∀ t, t < 32 → gb W' t = if t < L then (if t < vl x then gb (vw x) t else gb (vw y) (t - vl x)) else 0 := fun r1 L o1 hL hz => by
    unfold f_X10_join_55 f_X10_join_76
    rw [if_pos (show nI L ≤ (31 : Int32) from nI_le (b := 31) hL (by decide)), wI_nI hi (by decide), Option.bind_some]
    obtain ⟨r', W', c1, c2, c3, c4, c5, c6⟩ := join_loop (x := x) (y := y) (L := L) hi ha hb hia hib hL lx FU (uI r1 19 i (nI L)) 0 (fun _ => 0) ((hx.other o1 (Ne.symm hia)).other On.l (Ne.symm hia)) ((hy.other o1 (Ne.symm hib)).other On.l (Ne.symm hib)) (by rw [qI_uI, if_pos rfl, upd_at, if_pos rfl]) (Nat.zero_le _) (by show L - 0 < 100000; omega) hz (fun t _ => by rw [gb_zero, if_neg (by omega)])
    refine ⟨r', W', c1, On.l.trans c2, ?_, ?_, ?_, c5, c6⟩
    · rw [c3, qI_uI, if_neg (by decide)]
    · rw [c4]; rfl
    · rw [c3, qI_uI, if_pos rfl, upd_at, if_pos rfl]
  have null : ∃ r', f_X10_join_25 r (nI i) (nI a) (nI b) (nI i) 1 = some r' ∧ On i r r' ∧ VR r' i vNull := by
    unfold f_X10_join_25
    obtain ⟨r1, a1, a2, a3, a4, a5, a6⟩ := r_num (r := r) hi 1 (Or.inr rfl) 0
    rw [a1, Option.bind_some, rd_nI hi (by decide), Option.bind_some, a3, if_neg (by decide)]
    obtain ⟨r', W', c1, c2, c3, c4, c5, c6, c7⟩ := tail r1 0 a2 (by decide) a6
    refine ⟨r', c1, a2.trans c2, by rw [c3]; exact a3, by rw [c4]; exact a4, c5, fun j hj => ?_⟩
    have e : (fun j => if j < 4 then W' j else 0) = fun _ => 0 := by
      refine gb_ext (fun k hk => ?_) (fun j hj => if_neg (by omega))
      have : gb (fun j => if j < 4 then W' j else 0) k = gb W' k := by
        unfold gb
        dsimp only
        rw [if_pos (by omega)]
      rw [this, c7 k hk, if_neg (by omega), gb_zero]
    have this : (if j < 4 then W' j else 0) = 0 := congrFun e j
    rw [if_pos hj] at this
    rw [c6 j hj, this]
    rfl
  unfold f_X10_join f_X10_join_0 f_X10_join_20
  rw [nflag hx ha, Option.bind_some]
  by_cases kx : vk x = 0
  · rw [if_pos kx, if_neg (by decide), if_pos (Or.inl kx)]
    exact null
  · rw [if_neg kx, if_pos rfl, nflag hy hb, Option.bind_some]
    by_cases ky : vk y = 0
    · rw [if_pos ky, if_neg (by decide), if_pos (Or.inr ky)]
      exact null
    · rw [if_neg ky, if_pos rfl, if_neg (by omega)]
      unfold f_X10_join_25
      obtain ⟨r1, a1, a2, a3, a4, a5, a6⟩ := r_num (r := r) hi 0 (Or.inl rfl) 0
      rw [a1, Option.bind_some, rd_nI hi (by decide), Option.bind_some, a3, if_pos rfl, nlen (hx.other a2 (Ne.symm hia)) ha, Option.bind_some, nlen (hy.other a2 (Ne.symm hib)) hb, Option.bind_some, nI_add]
      have fin : ∃ r' W', f_X10_join_55 r1 (nI i) (nI a) (nI b) (nI (vl x + vl y)) = some r' ∧ On i r1 r' ∧ qI r' 17 = qI r1 17 ∧ qL r' 18 = qL r1 18 ∧ qI r' 19 i = nI (min 31 (vl x + vl y)) ∧ (∀ j, j < 4 → qL r' 20 (4 * i + j) = W' j) ∧ ∀ t, t < 32 → gb W' t = if t < min 31 (vl x + vl y) then (if t < vl x then gb (vw x) t else gb (vw y) (t - vl x)) else 0 := by
        by_cases h31 : vl x + vl y ≤ 31
        · rw [Nat.min_eq_right h31]; exact tail r1 _ a2 h31 a6
        · rw [Nat.min_eq_left (by omega)]
          have e : f_X10_join_55 r1 (nI i) (nI a) (nI b) (nI (vl x + vl y)) = f_X10_join_55 r1 (nI i) (nI a) (nI b) (nI 31) := by
            unfold f_X10_join_55
            rw [if_neg (show ¬ nI (vl x + vl y) ≤ (31 : Int32) from nI_ge (a := 31) (by omega) (by omega)), if_pos (show nI 31 ≤ (31 : Int32) from nI_le (b := 31) (Nat.le_refl _) (by decide))]
            rfl
          rw [e]
          exact tail r1 31 a2 (by decide) a6
      obtain ⟨r', W', c1, c2, c3, c4, c5, c6, c7⟩ := fin
      refine ⟨r', c1, a2.trans c2, by rw [c3]; exact a3, by rw [c4]; exact a4, c5, fun j hj => ?_⟩
      have e : (fun j => if j < 4 then W' j else 0) = vw (jv x y) := by
        refine wob_eq ⟨Nat.min_le_left _ _, fun k h1 h2 => ?_, fun j hj => if_neg (by omega)⟩ (fun k hk => ?_)
        · have : gb (fun j => if j < 4 then W' j else 0) k = gb W' k := by
            unfold gb
            dsimp only
            rw [if_pos (by omega)]
          rw [this, c7 k h2, if_neg (by omega)]
        · have : gb (fun j => if j < 4 then W' j else 0) k = gb W' k := by
            unfold gb
            dsimp only
            rw [if_pos (by omega)]
          rw [this, c7 k (by omega), if_pos hk]
      rw [c6 j hj, ← e]
      dsimp only
      rw [if_pos hj]
/-! compute -/
section RC
variable {r : QS} {i k a b : Nat} {x y : Vl} {cb : Int32}
theorem r_c2 (hi : i < 200) (ha : a < i) (hb : b < i) (hK : qI r 11 i = nI k) (hA : qI r 12 i = nI a) (hB : qI r 13 i = nI b) (hx : VR r a x) (hy : VR r b y) (lx : vl x ≤ 31) (ly : vl y ≤ 31) (hk : (11 ≤ k ∧ k ≤ 22) ∨ k = 26 ∨ k = 27) : ∃ r', f_X10_compute r (nI i) cb = some r' ∧ On i r r' ∧ VR r' i (opv k x y) := by
  unfold f_X10_compute f_X10_compute_0
  rw [rd_nI hi (by decide), Option.bind_some, rd_nI hi (by decide), Option.bind_some, rd_nI hi (by decide), Option.bind_some, hK, hA, hB, if_pos (show (4 : Int32) ≤ nI k from cLe (c := 4) (by omega) (by omega)), if_neg (show ¬ nI k = (4 : Int32) from cNe (c := 4) (by omega) (by omega) (by decide)), if_neg (show ¬ nI k = (10 : Int32) from cNe (c := 10) (by omega) (by omega) (by decide))]
  have hnul : ∀ n, ∃ r', ((f_X10_setNumber r (nI i) 1 n).bind fun r1 => some r1) = some r' ∧ On i r r' ∧ VR r' i vNull := fun n => by
    obtain ⟨r', h1, h2, h3⟩ := r_null (r := r) hi n
    rw [h1]; exact ⟨r', rfl, h2, h3⟩
  have hnum : ∀ n, ∃ r', ((f_X10_setNumber r (nI i) 0 n).bind fun r1 => some r1) = some r' ∧ On i r r' ∧ VR r' i (vInt n) := fun n => by
    obtain ⟨r', h1, h2, h3⟩ := r_nm (r := r) hi (vInt n) (Or.inl ⟨n, rfl⟩)
    have h1 : f_X10_setNumber r (nI i) 0 n = some r' := h1
    rw [h1]; exact ⟨r', rfl, h2, h3⟩
  have hboo : ∀ n, ∃ r', ((f_X10_setNumber r (nI i) 0 n).bind fun r1 => some r1) = some r' ∧ On i r r' ∧ VR r' i (vBool n) := fun n => by
    obtain ⟨r', h1, h2, h3⟩ := r_nm (r := r) hi (vBool n) (Or.inr ⟨n, rfl⟩)
    have h1 : f_X10_setNumber r (nI i) 0 n = some r' := h1
    rw [h1]; exact ⟨r', rfl, h2, h3⟩
  by_cases c15 : k ≤ 15
  · have ho : opv k x y = if vk x = 0 ∨ vk y = 0 ∨ (13 < k ∧ vn y = 0) then vNull else vInt (ari k (vn x) (vn y)) := by
      unfold opv; rw [if_neg (by omega), if_pos c15]
    rw [ho, if_neg (show ¬ (16 : Int32) ≤ nI k from cNle (c := 16) (by omega) (by decide)), nflag hx (by omega), Option.bind_some]
    obtain ⟨z, hz, hz2⟩ := f_ari (k := k) (by omega) c15 (vn x) (vn y)
    have h150 : ∃ r', f_X10_compute_150 r (nI k) (nI a) (nI b) (nI i) = some r' ∧ On i r r' ∧ VR r' i vNull := by
      unfold f_X10_compute_150
      rw [nnum hx (by omega), Option.bind_some, nnum hy (by omega), Option.bind_some, hz, Option.bind_some]
      exact hnul z
    by_cases kx : vk x = 0
    · rw [if_pos kx, if_neg (by decide), if_pos (Or.inl kx)]; exact h150
    · rw [if_neg kx, if_pos rfl, nflag hy (by omega), Option.bind_some]
      by_cases ky : vk y = 0
      · rw [if_pos ky, if_neg (by decide), if_pos (Or.inr (Or.inl ky))]; exact h150
      · rw [if_neg ky, if_pos rfl]
        by_cases c13 : k ≤ 13
        · rw [if_pos (show nI k ≤ (13 : Int32) from nI_le (b := 13) c13 (by decide)), nnum hx (by omega), Option.bind_some, nnum hy (by omega), Option.bind_some, hz, Option.bind_some, hz2 (Or.inl c13), if_neg (by omega)]
          exact hnum _
        · rw [if_neg (show ¬ nI k ≤ (13 : Int32) from nI_ge (a := 13) (by omega) (by omega)), nnum hy (by omega), Option.bind_some]
          by_cases hz0 : vn y = 0
          · rw [if_pos ((lg_eq0 _ _).mpr hz0), if_pos (Or.inr (Or.inr ⟨by omega, hz0⟩))]; exact h150
          · rw [if_neg (fun w => hz0 ((lg_eq0 _ _).mp w)), nnum hx (by omega), Option.bind_some, Option.bind_some, hz, Option.bind_some, hz2 (Or.inr hz0), if_neg (by intro w; rcases w with w | w | w; exact kx w; exact ky w; exact hz0 w.2)]
            exact hnum _
  · rw [if_pos (show (16 : Int32) ≤ nI k from cLe (c := 16) (by omega) (by omega))]
    by_cases c16 : k = 16
    · subst c16
      rw [if_pos (show nI 16 = (16 : Int32) from rfl)]
      obtain ⟨r', h1, h2, h3⟩ := r_join (r := r) (x := x) (y := y) hi (by omega : a < 200) (by omega : b < 200) (by omega) (by omega) hx hy lx ly
      rw [h1]; exact ⟨r', rfl, h2, h3⟩
    · rw [if_neg (show ¬ nI k = (16 : Int32) from cNe c16 (by omega) (by decide))]
      by_cases c22 : k ≤ 22
      · have ho : opv k x y = if vk x = 0 ∨ vk y = 0 then vNull else vBool (hldB k (rcmp x y)) := by
          unfold opv; rw [if_neg (by omega), if_neg (by omega), if_neg c16, if_pos c22]
        rw [ho, if_neg (show ¬ (23 : Int32) ≤ nI k from cNle (c := 23) (by omega) (by decide)), nflag hx (by omega), Option.bind_some]
        obtain ⟨z, hz, hz1, hz2⟩ := f_holdsR (k := k) (by omega) c22 (rcmp x y)
        have h225 : ∃ r', f_X10_compute_225 r (nI k) (nI a) (nI b) (nI i) = some r' ∧ On i r r' ∧ VR r' i vNull := by
          unfold f_X10_compute_225 f_X10_compute_230
          rw [f_cn (by omega) (by omega) hx hy (by omega) (by omega), Option.bind_some, hz, Option.bind_some]
          by_cases z0 : z = 0
          · rw [if_pos z0]; exact hnul _
          · rw [if_neg z0]; exact hnul _
        by_cases kx : vk x = 0
        · rw [if_pos kx, if_neg (by decide), if_pos (Or.inl kx)]; exact h225
        · rw [if_neg kx, if_pos rfl, nflag hy (by omega), Option.bind_some]
          by_cases ky : vk y = 0
          · rw [if_pos ky, if_neg (by decide), if_pos (Or.inr ky)]; exact h225
          · rw [if_neg ky, if_pos rfl, if_neg (by omega)]
            unfold f_X10_compute_230
            rw [f_cn (by omega) (by omega) hx hy (by omega) (by omega), Option.bind_some, hz, Option.bind_some]
            by_cases z0 : z = 0
            · rw [if_pos z0, hz1 z0]; exact hboo _
            · rw [if_neg z0, hz2 z0]; exact hboo _
      · have hk : k = 26 ∨ k = 27 := by omega
        have ho : opv k x y = dcd (if k = 26 then 0 else 1) x y := by
          unfold opv; rw [if_neg (by omega), if_neg (by omega), if_neg c16, if_neg c22, if_neg (by omega), if_neg (by omega), if_neg (by omega)]
        rw [ho, if_pos (show (23 : Int32) ≤ nI k from cLe (c := 23) (by omega) (by omega)), if_pos (show (25 : Int32) ≤ nI k from cLe (c := 25) (by omega) (by omega)), if_neg (show ¬ nI k = (25 : Int32) from cNe (c := 25) (by omega) (by omega) (by decide))]
        have main : ∀ d : Int64, ∃ r', f_X10_compute_338 r (nI i) (nI a) (nI b) d = some r' ∧ On i r r' ∧ VR r' i (dcd d x y) := fun d => by
          have h386 : ∃ r', f_X10_compute_386 r (nI i) (nI a) (nI b) d = some r' ∧ On i r r' ∧ VR r' i (vBool d) := by
            unfold f_X10_compute_386 f_X10_compute_391
            rw [if_neg (by decide), if_neg (by decide)]
            exact hboo d
          have h390 : ∃ r', f_X10_compute_390 r (nI i) (nI a) (nI b) d = some r' ∧ On i r r' ∧ VR r' i (if vk x = 0 ∨ vk y = 0 then vNull else vBool (1 - d)) := by
            unfold f_X10_compute_390 f_X10_compute_391
            rw [if_pos rfl, nflag hx (by omega), Option.bind_some]
            by_cases kx : vk x = 0
            · rw [if_pos kx, if_neg (by decide), if_pos rfl, if_pos (Or.inl kx)]; exact hnul _
            · rw [if_neg kx, if_pos rfl, nflag hy (by omega), Option.bind_some]
              by_cases ky : vk y = 0
              · rw [if_pos ky, if_neg (by decide), if_pos rfl, if_pos (Or.inr ky)]; exact hnul _
              · rw [if_neg ky, if_pos rfl, if_pos rfl, if_neg (by omega)]; exact hboo _
          have h363 : ¬ (¬ vk x = 0 ∧ vn x = d) → ∃ r', f_X10_compute_363 r (nI i) (nI a) (nI b) d = some r' ∧ On i r r' ∧ VR r' i (dcd d x y) := fun hxd => by
            unfold f_X10_compute_363 dcd
            rw [nflag hy (by omega), Option.bind_some]
            by_cases ky : vk y = 0
            · rw [if_pos ky, if_neg (by decide), if_neg (by intro w; rcases w with w | w; exact hxd w; exact w.1 ky)]; exact h390
            · rw [if_neg ky, if_pos rfl, nnum hy (by omega), Option.bind_some]
              by_cases hd : vn y = d
              · rw [if_pos ((lg_eq0 _ _).mpr hd), if_pos (Or.inr ⟨ky, hd⟩)]; exact h386
              · rw [if_neg (fun w => hd ((lg_eq0 _ _).mp w)), if_neg (by intro w; rcases w with w | w; exact hxd w; exact hd w.2)]; exact h390
          unfold f_X10_compute_338
          rw [nflag hx (by omega), Option.bind_some]
          by_cases kx : vk x = 0
          · rw [if_pos kx, if_neg (by decide)]; exact h363 (fun w => w.1 kx)
          · rw [if_neg kx, if_pos rfl, nnum hx (by omega), Option.bind_some]
            by_cases hd : vn x = d
            · rw [if_pos ((lg_eq0 _ _).mpr hd)]
              have : dcd d x y = vBool d := if_pos (Or.inl ⟨kx, hd⟩)
              rw [this]; exact h386
            · rw [if_neg (fun w => hd ((lg_eq0 _ _).mp w))]; exact h363 (fun w => hd w.2)
        rcases hk with rfl | rfl
        · rw [if_pos (show nI 26 = (26 : Int32) from rfl), if_pos rfl]; exact main 0
        · rw [if_neg (by decide), if_neg (by decide)]; exact main 1
theorem r_c1 (hi : i < 200) (ha : a < i) (hK : qI r 11 i = nI k) (hA : qI r 12 i = nI a) (hx : VR r a x) (hk : k = 10 ∨ k = 23 ∨ k = 24 ∨ k = 25) : ∃ r', f_X10_compute r (nI i) cb = some r' ∧ On i r r' ∧ VR r' i (opv k x y) := by
  unfold f_X10_compute f_X10_compute_0
  rw [rd_nI hi (by decide), Option.bind_some, rd_nI hi (by decide), Option.bind_some, rd_nI hi (by decide), Option.bind_some, hK, hA, if_pos (show (4 : Int32) ≤ nI k from cLe (c := 4) (by omega) (by omega)), if_neg (show ¬ nI k = (4 : Int32) from cNe (c := 4) (by omega) (by omega) (by decide))]
  have hnul : ∀ n, ∃ r', ((f_X10_setNumber r (nI i) 1 n).bind fun r1 => some r1) = some r' ∧ On i r r' ∧ VR r' i vNull := fun n => by
    obtain ⟨r', h1, h2, h3⟩ := r_null (r := r) hi n
    rw [h1]; exact ⟨r', rfl, h2, h3⟩
  have hnum : ∀ n, ∃ r', ((f_X10_setNumber r (nI i) 0 n).bind fun r1 => some r1) = some r' ∧ On i r r' ∧ VR r' i (vInt n) := fun n => by
    obtain ⟨r', h1, h2, h3⟩ := r_nm (r := r) hi (vInt n) (Or.inl ⟨n, rfl⟩)
    have h1 : f_X10_setNumber r (nI i) 0 n = some r' := h1
    rw [h1]; exact ⟨r', rfl, h2, h3⟩
  have hboo : ∀ n, ∃ r', ((f_X10_setNumber r (nI i) 0 n).bind fun r1 => some r1) = some r' ∧ On i r r' ∧ VR r' i (vBool n) := fun n => by
    obtain ⟨r', h1, h2, h3⟩ := r_nm (r := r) hi (vBool n) (Or.inr ⟨n, rfl⟩)
    have h1 : f_X10_setNumber r (nI i) 0 n = some r' := h1
    rw [h1]; exact ⟨r', rfl, h2, h3⟩
  rcases hk with rfl | rfl | rfl | rfl
  · rw [if_pos (show nI 10 = (10 : Int32) from rfl), nflag hx (by omega), Option.bind_some, nnum hx (by omega), Option.bind_some]
    show ∃ r', _ ∧ _ ∧ VR r' i (if vk x = 0 then vNull else vInt (-vn x))
    by_cases kx : vk x = 0
    · rw [if_pos kx, if_pos kx]; exact hnul _
    · rw [if_neg kx, if_neg kx]; exact hnum _
  · rw [if_neg (by decide), if_pos (by decide), if_neg (by decide), if_pos (by decide), if_neg (by decide), nflag hx (by omega), Option.bind_some, if_pos (show nI 23 = (23 : Int32) from rfl)]
    show ∃ r', _ ∧ _ ∧ VR r' i (vBool (if vk x = 0 then 1 else 0))
    by_cases kx : vk x = 0
    · rw [if_pos kx, if_pos kx, if_pos rfl]; exact hboo _
    · rw [if_neg kx, if_neg kx, if_neg (by decide)]; exact hboo _
  · rw [if_neg (by decide), if_pos (by decide), if_neg (by decide), if_pos (by decide), if_neg (by decide), nflag hx (by omega), Option.bind_some, if_neg (by decide)]
    show ∃ r', _ ∧ _ ∧ VR r' i (vBool (if vk x = 0 then 0 else 1))
    by_cases kx : vk x = 0
    · rw [if_pos kx, if_pos kx, if_neg (by decide)]; exact hboo _
    · rw [if_neg kx, if_neg kx, if_pos rfl]; exact hboo _
  · rw [if_neg (by decide), if_pos (by decide), if_neg (by decide), if_pos (by decide), if_pos (by decide), if_pos (show nI 25 = (25 : Int32) from rfl), nflag hx (by omega), Option.bind_some, nnum hx (by omega), Option.bind_some]
    show ∃ r', _ ∧ _ ∧ VR r' i (if vk x = 0 then vNull else vBool (1 - vn x))
    by_cases kx : vk x = 0
    · rw [if_pos kx, if_pos kx]; exact hnul _
    · rw [if_neg kx, if_neg kx]; exact hboo _
theorem r_c0 {n s : Nat} (h : SOk r n) (hi : i < 200) (hs : s ≤ n) (hK : qI r 11 i = nI k) (hA : qI r 12 i = nI s) (hk : k < 4) : ∃ r', f_X10_compute r (nI i) cb = some r' ∧ On i r r' ∧ VR r' i (sv r s) := by
  unfold f_X10_compute f_X10_compute_0
  rw [rd_nI hi (by decide), Option.bind_some, rd_nI hi (by decide), Option.bind_some, rd_nI hi (by decide), Option.bind_some, hK, hA, if_neg (show ¬ (4 : Int32) ≤ nI k from cNle (c := 4) hk (by decide))]
  obtain ⟨r', h1, h2, h3⟩ := r_step h hi hs
  rw [h1]; exact ⟨r', rfl, h2, h3⟩
theorem r_c4 {n s t c row : Nat} (h : SOk r n) (hi : i < 200) (hs : s ≤ n) (hK : qI r 11 i = nI 4) (hA : qI r 12 i = nI t) (hB : qI r 13 i = nI c) (ht : t < 3) (hrow : row < 40) (hc : c < 8) (hr : f_X10_rowOf cb (nI t) = some (nI row)) (hcell : qI r 10 (8 * (40 * t + row) + c) = nI s) : ∃ r', f_X10_compute r (nI i) cb = some r' ∧ On i r r' ∧ VR r' i (sv r s) := by
  unfold f_X10_compute f_X10_compute_0
  rw [rd_nI hi (by decide), Option.bind_some, rd_nI hi (by decide), Option.bind_some, rd_nI hi (by decide), Option.bind_some, hK, hA, hB, if_pos (by decide), if_pos (show nI 4 = (4 : Int32) from rfl), hr, Option.bind_some, lit40_nI, nI_add, lit8_nI, nI_add, rd_nI (by omega) (by decide), Option.bind_some, hcell]
  obtain ⟨r', h1, h2, h3⟩ := r_step h hi hs
  rw [h1]; exact ⟨r', rfl, h2, h3⟩
end RC
