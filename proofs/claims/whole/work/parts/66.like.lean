/-! likeness of combinations -/
theorem ow_zero {W W' : Nat → Int64} : ∀ m, ow 0 W W' m = 0 → ∀ r, r < m → wcmp (W r) (W' r) = 0 := by
  intro m h
  rcases ow_first (o := 0) (W := W) (W' := W') rfl m with ⟨s, s1, s2, s3, s4⟩ | ⟨s1, s2⟩
  · rw [s4] at h; exact absurd h s2
  · exact s1
theorem ow_nz {o : Int32} {W W' : Nat → Int64} (h : ¬ o = 0) : ∀ m, ow o W W' m = o := by
  intro m
  have h0 : ow o W W' 0 = o := rfl
  have := ow_stay (o := o) (W := W) (W' := W') (t := 0) (by rw [h0]; exact h) m
  rw [Nat.zero_add, h0] at this
  exact this
theorem ow_same {W : Nat → Int64} : ∀ m, ow 0 W W m = 0 := by
  intro m
  rcases ow_first (o := 0) (W := W) (W' := W) rfl m with ⟨s, s1, s2, s3, s4⟩ | ⟨s1, s2⟩
  · exact absurd ((wcmp0 _ _).mpr rfl) s2
  · exact s2
theorem rcmp0 {x y : Vl} (ox : vOk x) (oy : vOk y) (hk : vk x = vk y) : rcmp x y = 0 ↔ x = y := by
  constructor
  · intro h
    unfold rcmp at h
    have hn : vn x = vn y := by
      refine Classical.byContradiction (fun z => ?_)
      have z' : ¬ lg_cmp (vn x) (vn y) = 0 := fun e => z ((lg_eq0 _ _).mp e)
      rw [ow_nz z' 4, if_neg z'] at h
      exact z' h
    have e0 : lg_cmp (vn x) (vn y) = 0 := (lg_eq0 _ _).mpr hn
    rw [e0] at h
    by_cases hz : ow 0 (vw x) (vw y) 4 = 0
    · rw [if_pos hz] at h
      have hw : ∀ j, j < 4 → vw x j = vw y j := fun j hj => (wcmp0 _ _).mp (ow_zero 4 hz j hj)
      have hl : vl x = vl y := by
        have h1 := vl31 ox
        have h2 := vl31 oy
        have := (lg_eq0 _ _).mp h
        exact (pk_lEQ (by omega) (by omega)).mp this
      refine vOk_inj ox oy hk (fun s hs => ?_)
      have hs4 : s < 4 := Nat.lt_of_lt_of_le hs (nW_le x)
      unfold cword cw
      rw [hk]
      split
      · split
        · rw [hw 3 (by decide), hl]
        · exact hw s hs4
      · exact hn
    · rw [if_neg hz] at h; exact absurd h hz
  · intro h
    subst h
    unfold rcmp
    rw [(lg_eq0 (vn x) (vn x)).mpr rfl, ow_same, if_pos rfl]
    exact (lg_eq0 _ _).mpr rfl
theorem null_of {x : Vl} (h : vOk x) (h0 : vk x = 0) : x = vNull := by
  rcases h with h | ⟨n, h⟩ | ⟨b, -, h⟩ | ⟨W, len, -, h⟩
  · exact h
  · rw [h] at h0; cases h0
  · rw [h] at h0; cases h0
  · rw [h] at h0; cases h0
theorem ocmp0 {t : Nat} {x y : Vl} (hx : Ty t x) (hy : Ty t y) : ocmp x y = 0 ↔ x = y := by
  unfold ocmp
  by_cases x0 : vk x = 0
  · rw [if_pos (Or.inl x0), if_pos x0]
    have hxn := null_of hx.1 x0
    by_cases y0 : vk y = 0
    · rw [if_pos y0]
      exact ⟨fun _ => by rw [hxn, null_of hy.1 y0], fun _ => rfl⟩
    · rw [if_neg y0]
      exact ⟨fun h => absurd h (by decide), fun h => by rw [← h] at y0; exact absurd x0 y0⟩
  · by_cases y0 : vk y = 0
    · rw [if_pos (Or.inr y0), if_neg x0]
      exact ⟨fun h => absurd h (by decide), fun h => by rw [h] at x0; exact absurd y0 x0⟩
    · rw [if_neg (fun z => z.elim x0 y0)]
      exact rcmp0 hx.1 hy.1 (by have := hx.2; have := hy.2; omega)
/-! chains -/
theorem Chain.cg {nx nx' : Nat → Int32} : ∀ {l : List Nat} {c : Int32}, (∀ x, x ∈ l → nx' x = nx x) → Chain nx c l → Chain nx' c l := by
  intro l
  induction l with
  | nil => intro c _ h; exact h
  | cons x l ih =>
    intro c hx h
    refine ⟨h.1, ?_⟩
    rw [hx x (List.mem_cons_self ..)]
    exact ih (fun y hy => hx y (List.mem_cons_of_mem _ hy)) h.2
theorem Chain.app {nx nx' : Nat → Int32} {y c : Nat} (h1 : nx' y = nI c) (h2 : nx' c = -1) : ∀ {i : List Nat} {z : Int32}, (∀ x, x ∈ i → nx' x = nx x) → Chain nx z (i ++ [y]) → Chain nx' z (i ++ [y] ++ [c]) := by
  intro i
  induction i with
  | nil => intro z _ h; exact ⟨h.1, h1, h2⟩
  | cons x i ih =>
    intro z hx h
    refine ⟨h.1, ?_⟩
    rw [hx x (List.mem_cons_self ..)]
    exact ih (fun y hy => hx y (List.mem_cons_of_mem _ hy)) h.2
/-! groups -/
/-- group g's node -/
def gn (r : QS) (g : Nat) : Nat := nt (qI r 27 g)
/-- group g's value for a combination -/
def Kv (r : QS) (cr : Nat → Nat → Nat) (c g : Nat) : Vl := sv r (tC r (nA r (gn r g)) (cr c (nA r (gn r g))) (nB r (gn r g)))
def Like (r : QS) (cr : Nat → Nat → Nat) (G c c' : Nat) : Prop := ∀ g, g < G → Kv r cr c g = Kv r cr c' g
theorem val_col {r : QS} {cr : Nat → Nat → Nat} {c i : Nat} {l : List Nat} (h : nK r i = 4) : val r cr (c :: l) i = sv r (tC r (nA r i) (cr c (nA r i)) (nB r i)) := by
  show (if i = i then nodv r (cr c) _ i _ else _) = _
  rw [if_pos rfl]
  unfold nodv
  rw [if_neg (by omega), if_pos h]
theorem il_loop {q0 r0 : QS} {S T N I G O C c c' : Nat} {cr : Nat → Nat → Nat} {l l' : List Nat} (hQ : SimQ q0 r0 N I G O) (fu : Nat) : ∀ (r : QS) (g : Nat) (z : Int32), EvC r0 r → Cx q0 r S T N C cr → Lk r C (nI c) (c :: l) → Lk r C (nI c') (c' :: l') → g ≤ G → G - g < fu → (z = 0 ∨ z = 1) → (z = 1 → ∀ g', g' < g → Kv r0 cr c g' = Kv r0 cr c' g') → (z = 0 → ¬ Like r0 cr G c c') → ∃ r' z', f_X10_isLike_5 fu r (nI c) (nI c') z (nI g) = some (z', r') ∧ EvC r r' ∧ (Like r0 cr G c c' → z' = 1) ∧ (¬ Like r0 cr G c c' → z' = 0) := by
  have hG4 := hQ.2.2.2.2.1
  induction fu with
  | zero => intro r g z _ _ _ _ _ h; omega
  | succ fu ih =>
    intro r g z he hc hl hl' hg hf hz h1 h0
    rw [f_X10_isLike_5, f_X10_isLike_5_b, he.2.1, hQ.2.2.2.2.2.2.1]
    have hn : vp_nar .boolean z = z := by rcases hz with h | h <;> rw [h] <;> rfl
    by_cases hd : g = G
    · subst hd
      rw [if_pos (nI_le (Nat.le_refl _) (by omega)), if_pos hn]
      refine ⟨r, z, rfl, EvC.rfl, fun h => ?_, fun h => ?_⟩
      · rcases hz with e | e
        · exact absurd h (h0 e)
        · exact e
      · rcases hz with e | e
        · exact e
        · exact absurd (h1 e) h
    · rw [if_neg (nI_ge (by omega) (by omega))]
      rcases hz with e | e
      · rw [if_pos e, if_pos hn]
        exact ⟨r, z, rfl, EvC.rfl, fun h => absurd h (h0 e), fun _ => e⟩
      · obtain ⟨g1, g2, g3, g4, g5⟩ := hQ.2.2.2.2.2.2.2.1 g (by omega)
        have hgn : qI r 27 g = nI (gn r0 g) := by rw [(he.1 27 (by decide)).1]; exact g2
        have hk4 : nK r (gn r0 g) = 4 := by rw [he.same.fs.1]; exact g3
        rw [if_neg (by rw [e]; decide), rd_nI (by omega) (by decide), Option.bind_some, hgn]
        obtain ⟨r2, a1, a2, a3, a4⟩ := r_compare hc g1 hl hl' (fun z => by cases z) (fun z => by cases z)
        have a1' : f_X10_compare r (nI (gn r0 g)) (nI c) (nI c') = _ := a1
        rw [a1', Option.bind_some]
        unfold f_X10_isLike_39
        rw [nI_1]
        have e1 : val r cr (c :: l) (nt (qI r0 27 g)) = Kv r0 cr c g := by
          rw [he.same.eVal]; exact val_col g3
        have e2 : val r cr (c' :: l') (nt (qI r0 27 g)) = Kv r0 cr c' g := by
          rw [he.same.eVal]; exact val_col g3
        rw [e1] at a3
        rw [e2] at a4
        rw [e1, e2]
        have hiff := ocmp0 a3 a4
        by_cases hq : Kv r0 cr c g = Kv r0 cr c' g
        · rw [if_pos (show (ocmp (Kv r0 cr c g) (Kv r0 cr c' g), r2).1 = 0 from hiff.mpr hq)]
          obtain ⟨r', z', b1, b2, b3⟩ := ih r2 (g + 1) 1 (he.trans a2) (hc.evc a2) (hl.evc a2) (hl'.evc a2) (by omega) (by omega) (Or.inr rfl) (fun _ g' hg' => by
            by_cases e3 : g' = g
            · rw [e3]; exact hq
            · exact h1 e g' (by omega)) (fun z => absurd z (by decide))
          exact ⟨r', z', b1, a2.trans b2, b3⟩
        · rw [if_neg (show ¬ (ocmp (Kv r0 cr c g) (Kv r0 cr c' g), r2).1 = 0 from fun z => hq (hiff.mp z))]
          obtain ⟨r', z', b1, b2, b3⟩ := ih r2 (g + 1) 0 (he.trans a2) (hc.evc a2) (hl.evc a2) (hl'.evc a2) (by omega) (by omega) (Or.inl rfl) (fun z => absurd z (by decide)) (fun _ h => hq (h g (by omega)))
          exact ⟨r', z', b1, a2.trans b2, b3⟩
theorem r_isLike {q0 r : QS} {S T N I G O C c c' : Nat} {cr : Nat → Nat → Nat} {l l' : List Nat} (hQ : SimQ q0 r N I G O) (hc : Cx q0 r S T N C cr) (hl : Lk r C (nI c) (c :: l)) (hl' : Lk r C (nI c') (c' :: l')) : ∃ r' z', f_X10_isLike r (nI c) (nI c') = some (z', r') ∧ EvC r r' ∧ (Like r cr G c c' → z' = 1) ∧ (¬ Like r cr G c c' → z' = 0) := by
  have hG4 := hQ.2.2.2.2.1
  unfold f_X10_isLike f_X10_isLike_0
  exact il_loop hQ FU r 0 1 EvC.rfl hc hl hl' (Nat.zero_le _) (by show G - 0 < 100000; omega) (Or.inr rfl) (fun _ g' h => by omega) (fun z => absurd z (by decide))
