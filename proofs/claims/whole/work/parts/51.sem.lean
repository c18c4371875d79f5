/-! what a node works out to -/
def Ty (t : Nat) (x : Vl) : Prop := vOk x ∧ (vk x = 0 ∨ vk x = t)
theorem ok_null : vOk vNull := Or.inl rfl
theorem ok_int (n : Int64) : vOk (vInt n) := Or.inr (Or.inl ⟨n, rfl⟩)
theorem ok_bool {b : Int64} (h : b = 0 ∨ b = 1) : vOk (vBool b) := Or.inr (Or.inr (Or.inl ⟨b, h, rfl⟩))
theorem hldB01 (k : Nat) (o : Int32) : hldB k o = 0 ∨ hldB k o = 1 := by
  unfold hldB
  repeat' split
  all_goals first | exact Or.inl rfl | exact Or.inr rfl
theorem jv_ok (x y : Vl) : vOk (jv x y) := Or.inr (Or.inr (Or.inr ⟨_, _, tOk_wob (Nat.min_le_left _ _), rfl⟩))
theorem dcd_ok {d : Int64} (hd : d = 0 ∨ d = 1) (x y : Vl) : Ty 3 (dcd d x y) := by
  unfold dcd
  split
  · exact ⟨ok_bool hd, Or.inr rfl⟩
  · split
    · exact ⟨ok_null, Or.inl rfl⟩
    · refine ⟨ok_bool ?_, Or.inr rfl⟩
      rcases hd with h | h <;> subst h
      · exact Or.inr (by decide)
      · exact Or.inl (by decide)
theorem opv_ok {k ta : Nat} {x y : Vl} (hk : 10 ≤ k) (h27 : k ≤ 27) (hx : Ty ta x) (h25 : k = 25 → ta = 0 ∨ ta = 3) : Ty (tyOf k ta) (opv k x y) := by
  unfold opv tyOf
  rw [if_neg (show ¬ (k = 8 ∨ k = 9) by omega)]
  by_cases c10 : k = 10
  · rw [if_pos c10, if_pos (by omega)]
    split
    · exact ⟨ok_null, Or.inl rfl⟩
    · exact ⟨ok_int _, Or.inr rfl⟩
  rw [if_neg c10]
  by_cases c15 : k ≤ 15
  · rw [if_pos c15, if_pos (by omega)]
    split
    · exact ⟨ok_null, Or.inl rfl⟩
    · exact ⟨ok_int _, Or.inr rfl⟩
  rw [if_neg c15, if_neg (by omega)]
  by_cases c16 : k = 16
  · rw [if_pos c16, if_pos c16]
    split
    · exact ⟨ok_null, Or.inl rfl⟩
    · exact ⟨jv_ok x y, Or.inr rfl⟩
  rw [if_neg c16, if_neg c16]
  by_cases c22 : k ≤ 22
  · rw [if_pos c22]
    split
    · exact ⟨ok_null, Or.inl rfl⟩
    · exact ⟨ok_bool (hldB01 _ _), Or.inr rfl⟩
  rw [if_neg c22]
  by_cases c23 : k = 23
  · rw [if_pos c23]
    refine ⟨ok_bool ?_, Or.inr rfl⟩
    split
    · exact Or.inr rfl
    · exact Or.inl rfl
  rw [if_neg c23]
  by_cases c24 : k = 24
  · rw [if_pos c24]
    refine ⟨ok_bool ?_, Or.inr rfl⟩
    split
    · exact Or.inl rfl
    · exact Or.inr rfl
  rw [if_neg c24]
  by_cases c25 : k = 25
  · rw [if_pos c25]
    by_cases k0 : vk x = 0
    · rw [if_pos k0]; exact ⟨ok_null, Or.inl rfl⟩
    · rw [if_neg k0]
      have h3 : vk x = 3 := by
        rcases hx.2 with h | h
        · exact absurd h k0
        · rcases h25 c25 with h' | h'
          · omega
          · omega
      refine ⟨ok_bool ?_, Or.inr rfl⟩
      rcases bool_n hx.1 h3 with h | h <;> rw [h]
      · exact Or.inr (by decide)
      · exact Or.inl (by decide)
  rw [if_neg c25]
  exact dcd_ok (by split; exact Or.inl rfl; exact Or.inr rfl) x y
theorem opv_one {k : Nat} (h : k = 10 ∨ k = 23 ∨ k = 24 ∨ k = 25) (x y y' : Vl) : opv k x y = opv k x y' := by
  rcases h with h | h | h | h <;> subst h <;> simp [opv]
theorem vl31 {x : Vl} (h : vOk x) : vl x ≤ 31 := by
  rcases h with h | ⟨n, h⟩ | ⟨n, -, h⟩ | ⟨W, len, hW, h⟩ <;> subst h
  · show 0 ≤ 31; decide
  · show 0 ≤ 31; decide
  · show 0 ≤ 31; decide
  · exact hW.1
/-- a node's value from those before it -/
def nodv (r : QS) (ρ : Nat → Nat) (α : Nat → Vl) (i : Nat) (e : Nat → Vl) : Vl := if nK r i < 4 then sv r (nA r i) else if nK r i = 4 then sv r (tC r (nA r i) (ρ (nA r i)) (nB r i)) else if nK r i ≤ 9 then α i else opv (nK r i) (e (nA r i)) (e (nB r i))
def evT (r : QS) (ρ : Nat → Nat) (α : Nat → Vl) : Nat → Nat → Vl
  | 0 => fun _ => vNull
  | n + 1 => fun j => if j = n then nodv r ρ α n (evT r ρ α n) else evT r ρ α n j
def ev (r : QS) (ρ : Nat → Nat) (α : Nat → Vl) (i : Nat) : Vl := evT r ρ α (i + 1) i
theorem evT_lt {r : QS} {ρ : Nat → Nat} {α : Nat → Vl} : ∀ n i, i < n → evT r ρ α n i = ev r ρ α i := by
  intro n
  induction n with
  | zero => intro i h; omega
  | succ n ih =>
    intro i hi
    by_cases e : i = n
    · subst e; rfl
    · show (if i = n then _ else evT r ρ α n i) = _
      rw [if_neg e]
      exact ih i (by omega)
/-- parts come before -/
def Bef (r : QS) (i : Nat) : Prop := (10 ≤ nK r i → nA r i < i) ∧ (two (nK r i) → nB r i < i) ∧ nK r i ≤ 27
theorem nodv_ext {r : QS} {ρ : Nat → Nat} {α : Nat → Vl} {i : Nat} {e e' : Nat → Vl} (hb : Bef r i) (h : ∀ j, j < i → e j = e' j) : nodv r ρ α i e = nodv r ρ α i e' := by
  unfold nodv
  by_cases c4 : nK r i < 4
  · rw [if_pos c4, if_pos c4]
  rw [if_neg c4, if_neg c4]
  by_cases d4 : nK r i = 4
  · rw [if_pos d4, if_pos d4]
  rw [if_neg d4, if_neg d4]
  by_cases c9 : nK r i ≤ 9
  · rw [if_pos c9, if_pos c9]
  rw [if_neg c9, if_neg c9, h _ (hb.1 (by omega))]
  by_cases h2 : two (nK r i)
  · rw [h _ (hb.2.1 h2)]
  · refine opv_one ?_ _ _ _
    have := hb.2.2
    unfold two at h2
    omega
theorem ev_eq {r : QS} {ρ : Nat → Nat} {α : Nat → Vl} {i : Nat} (hb : Bef r i) : ev r ρ α i = nodv r ρ α i (ev r ρ α) := by
  show (if i = i then nodv r ρ α i (evT r ρ α i) else _) = _
  rw [if_pos rfl]
  exact nodv_ext hb (fun j hj => evT_lt i j hj)
theorem NodOk.bef {q r : QS} {S T i : Nat} (h : NodOk q r S T i) : Bef r i := by
  refine ⟨fun hk => (h.2.2.2.2.2.2.2.2.2.2.2.2.2 (by omega)).1, fun h2 => ((h.2.2.2.2.2.2.2.2.2.2.2.2.2 ?_).2.2.2.2.2.1 h2).1, h.1⟩
  unfold two at h2; omega
theorem TabOk.cell {q r : QS} {S t row c : Nat} (hS : SOk r S) (h : TabOk q r S t) (hr : row < tR r t) (hc : c < tW r t) : tC r t row c ≤ S ∧ qI r 10 (8 * (40 * t + row) + c) = nI (tC r t row c) ∧ VC q 1 ((t * 40 + row) * 8 + c) (sv r (tC r t row c)) ∧ Ty (tY r t c) (sv r (tC r t row c)) := by
  obtain ⟨⟨s, z1, z2, z3⟩, z4⟩ := h.2.2.2.2.2.2.2.2 row c hr hc
  have k2 : tC r t row c = s := by unfold tC nt; rw [z2]; exact nI_clamp (by have := hS.1; omega)
  rw [k2] at z4 ⊢
  obtain ⟨o1, o2⟩ := sv_ok hS z1
  exact ⟨z1, z2, z3, o1, by rw [o2]; exact z4⟩
theorem NodOk.cons {q r : QS} {S T i : Nat} (hS : SOk r S) (h : NodOk q r S T i) (hk : nK r i < 4) : nA r i ≤ S ∧ qI r 12 i = nI (nA r i) ∧ VC q 2 i (sv r (nA r i)) ∧ Ty (nT r i) (sv r (nA r i)) := by
  obtain ⟨c1, c2, ⟨s, s1, s2, s3⟩, c4, c5⟩ := h.2.2.2.2.2.2.2.2.2.2.1 hk
  have k2 : nA r i = s := by unfold nA nt; rw [s2]; exact nI_clamp (by have := hS.1; omega)
  rw [k2] at c4 ⊢
  obtain ⟨o1, o2⟩ := sv_ok hS s1
  exact ⟨s1, s2, s3, o1, Or.inr (by rw [o2, c4, c1])⟩
/-- the rows that a node reads are there -/
def rowAt (r : QS) (ρ : Nat → Nat) (i : Nat) : Prop := nK r i = 4 → ρ (nA r i) < tR r (nA r i)
theorem nodv_ok {q r : QS} {S T i : Nat} {ρ : Nat → Nat} {α : Nat → Vl} {e : Nat → Vl} (hS : SOk r S) (hT : SimT q r S T) (h : NodOk q r S T i) (hr : rowAt r ρ i) (hα : 5 ≤ nK r i → nK r i ≤ 9 → Ty (nT r i) (α i)) (ha : 10 ≤ nK r i → Ty (nT r (nA r i)) (e (nA r i))) : Ty (nT r i) (nodv r ρ α i e) := by
  unfold nodv
  by_cases c4 : nK r i < 4
  · rw [if_pos c4]; exact (h.cons hS c4).2.2.2
  rw [if_neg c4]
  by_cases d4 : nK r i = 4
  · rw [if_pos d4]
    obtain ⟨e1, e2, e3, e4, e5, e6, e7, e8, -⟩ := h.2.2.2.2.2.2.2.2.2.2.2.1 d4
    rw [e8]
    exact ((hT.2.2.2 _ e2).cell hS (hr d4) e3).2.2.2
  rw [if_neg d4]
  by_cases c9 : nK r i ≤ 9
  · rw [if_pos c9]; exact hα (by omega) c9
  rw [if_neg c9]
  obtain ⟨e1, e2, e3, e4, e5, e6, e7⟩ := h.2.2.2.2.2.2.2.2.2.2.2.2.2 (by omega)
  rw [e4]
  refine opv_ok (by omega) h.1 (ha (by omega)) (fun h25 => ?_)
  have h2 : ¬ two (nK r i) := by unfold two; omega
  exact (e7.1 h2).2.2.1.2.2.2.2.2.1 h25
/-! aggregates -/
def agb (k : Nat) (o : Int32) : Prop := if k = 8 then o < 0 else 0 < o
def agf (k : Nat) (acc x : Vl) : Vl := if k = 5 then vInt (vn acc + 1) else if vk x = 0 then acc else if k = 6 then vInt (vn acc + 1) else if vk acc = 0 then x else if k = 7 then vInt (vn acc + vn x) else if k = 8 then (if rcmp x acc < 0 then x else acc) else (if 0 < rcmp x acc then x else acc)
def ag0 (k : Nat) : Vl := if k ≤ 6 then vInt 0 else vNull
def AgOk (k t : Nat) (acc : Vl) : Prop := (k ≤ 6 → ∃ m, acc = vInt m) ∧ Ty t acc
theorem ag0_ok {k t : Nat} (h : k ≤ 6 → t = 1) : AgOk k t (ag0 k) := by
  unfold ag0
  by_cases c : k ≤ 6
  · rw [if_pos c, h c]; exact ⟨fun _ => ⟨0, rfl⟩, ok_int 0, Or.inr rfl⟩
  · rw [if_neg c]; exact ⟨fun z => absurd z c, ok_null, Or.inl rfl⟩
theorem agf_ok {k t tx : Nat} {acc x : Vl} (h5 : 5 ≤ k) (h : k ≤ 7 → t = 1) (h8 : 8 ≤ k → tx = t) (h7 : k = 7 → tx ≤ 1) (ha : AgOk k t acc) (hx : k ≠ 5 → Ty tx x) : AgOk k t (agf k acc x) := by
  unfold agf
  by_cases c5 : k = 5
  · rw [if_pos c5, h (by omega)]; exact ⟨fun _ => ⟨_, rfl⟩, ok_int _, Or.inr rfl⟩
  rw [if_neg c5]
  by_cases c0 : vk x = 0
  · rw [if_pos c0]; exact ha
  rw [if_neg c0]
  by_cases c6 : k = 6
  · rw [if_pos c6, h (by omega)]; exact ⟨fun _ => ⟨_, rfl⟩, ok_int _, Or.inr rfl⟩
  rw [if_neg c6]
  obtain ⟨x1, x2⟩ := hx c5
  have xt : Ty t x := by
    refine ⟨x1, x2.imp id (fun z => ?_)⟩
    by_cases c7 : k ≤ 7
    · have := h7
      have := h c7
      by_cases e : k = 7
      · have := h7 e; omega
      · exfalso
        have : k < 5 := by omega
        omega
    · rw [z, h8 (by omega)]
  by_cases ca : vk acc = 0
  · rw [if_pos ca]
    refine ⟨fun z => ?_, xt⟩
    obtain ⟨m, hm⟩ := ha.1 z
    rw [hm] at ca; cases ca
  rw [if_neg ca]
  by_cases c7 : k = 7
  · rw [if_pos c7, h (by omega)]; exact ⟨fun z => by omega, ok_int _, Or.inr rfl⟩
  rw [if_neg c7]
  have k8 : ∀ y, Ty t y → AgOk k t y := fun y hy => ⟨fun z => by exfalso; obtain ⟨m, hm⟩ := ha.1 z; omega, hy⟩
  split
  · split
    · exact k8 x xt
    · exact ha
  · split
    · exact k8 x xt
    · exact ha
