/-! what the kinds work out to, in the class -/
section CO
variable {q : QS} {i k a b : Nat} {x y : Vl}
theorem n200 (q : QS) : vN q 2 = 200 := rfl
theorem c_nul (hi : i < 200) : ∃ q', ((f_X8_setNull 2 q (nI i)).bind fun r => some r) = some q' ∧ VC q' 2 i vNull ∧ Oc 2 i q q' := by
  obtain ⟨q', h1, h2, h3⟩ := v_null (q := q) (v := 2) (i := i) hi (by rw [n200]; decide)
  rw [h1]; exact ⟨q', rfl, h2, h3⟩
theorem c_num (hi : i < 200) (n : Int64) : ∃ q', ((f_X8_setNumber 2 q (nI i) n).bind fun r => some r) = some q' ∧ VC q' 2 i (vInt n) ∧ Oc 2 i q q' := by
  obtain ⟨q', h1, h2, h3⟩ := v_int (q := q) (v := 2) (i := i) hi (by rw [n200]; decide) n
  rw [h1]; exact ⟨q', rfl, h2, h3⟩
theorem c_boo (hi : i < 200) (c : Int32) (d : Int64) (h : (if c = 0 then 0 else 1) = d) : ∃ q', ((f_X8_setTruth 2 q (nI i) c).bind fun r => some r) = some q' ∧ VC q' 2 i (vBool d) ∧ Oc 2 i q q' := by
  obtain ⟨q', h1, h2, h3⟩ := v_bool (q := q) (v := 2) (i := i) hi (by rw [n200]; decide) c
  rw [h1, ← h]; exact ⟨q', rfl, h2, h3⟩
theorem f_holdsC (h1 : 17 ≤ k) (h2 : k ≤ 22) (o : Int32) : ∃ z, f_X1_holds (nI k) o = some z ∧ (if z = 0 then (0 : Int64) else 1) = hldB k o := by
  unfold f_X1_holds f_X1_holds_0 hldB
  have two : ∀ (p : Prop) [Decidable p], ∃ z : Int32, (if p then some (1 : Int32) else some 0) = some z ∧ (if z = 0 then (0 : Int64) else 1) = (if p then (1 : Int64) else 0) := fun p _ => by
    by_cases h : p
    · simp only [if_pos h]; exact ⟨1, rfl, rfl⟩
    · simp only [if_neg h]; exact ⟨0, rfl, rfl⟩
  have two' : ∀ (p : Prop) [Decidable p], ∃ z : Int32, (if p then some (0 : Int32) else some 1) = some z ∧ (if z = 0 then (0 : Int64) else 1) = (if p then (0 : Int64) else 1) := fun p _ => by
    by_cases h : p
    · simp only [if_pos h]; exact ⟨0, rfl, rfl⟩
    · simp only [if_neg h]; exact ⟨1, rfl, rfl⟩
  by_cases c17 : k = 17
  · subst c17
    rw [if_pos (show nI 17 = (17 : Int32) from rfl), if_pos rfl]; exact two _
  · rw [if_neg (show ¬ nI k = (17 : Int32) from cNe c17 (by omega) (by decide)), if_neg c17]
    by_cases c18 : k = 18
    · subst c18
      rw [if_pos (show nI 18 = (18 : Int32) from rfl), if_pos rfl]; exact two' _
    · rw [if_neg (show ¬ nI k = (18 : Int32) from cNe c18 (by omega) (by decide)), if_neg c18]
      by_cases c19 : k = 19
      · subst c19
        rw [if_pos (show nI 19 = (19 : Int32) from rfl), if_pos rfl]; exact two' _
      · rw [if_neg (show ¬ nI k = (19 : Int32) from cNe c19 (by omega) (by decide)), if_neg c19]
        by_cases c20 : k = 20
        · subst c20
          rw [if_pos (show nI 20 = (20 : Int32) from rfl), if_pos rfl]; exact two' _
        · rw [if_neg (show ¬ nI k = (20 : Int32) from cNe c20 (by omega) (by decide)), if_neg c20]
          by_cases c21 : k = 21
          · subst c21
            rw [if_pos (show nI 21 = (21 : Int32) from rfl), if_pos rfl]; exact two' _
          · rw [if_neg (show ¬ nI k = (21 : Int32) from cNe c21 (by omega) (by decide)), if_neg c21]; exact two' _
/-- the operands' types, as the kind asks them -/
def tyOk (k : Nat) (x y : Vl) : Prop := (k ≤ 15 → vk x ≤ 1 ∧ vk y ≤ 1) ∧ (k = 16 → (vk x = 0 ∨ vk x = 2) ∧ (vk y = 0 ∨ vk y = 2)) ∧ (17 ≤ k → k ≤ 22 → vk x = 0 ∨ vk y = 0 ∨ vk x = vk y) ∧ (25 ≤ k → (vk x = 0 ∨ vk x = 3) ∧ (vk y = 0 ∨ vk y = 3))
theorem jv_tcat {x y : Vl} (ox : vOk x) (kx : vk x = 2) (oy : vOk y) (ky : vk y = 2) : tcat x (vw y) (vl y) = jv x y := by
  obtain ⟨W, len, hT, rfl⟩ := tx_of ox kx
  obtain ⟨W2, h1, h2, h3⟩ := tcat_spec (W' := vw y) hT (vl y)
  rw [h1]
  unfold jv
  have e : W2 = wob (fun k => if k < len then gb W k else gb (vw y) (k - len)) (min 31 (len + vl y)) := by
    refine wob_eq h2 (fun k hk => ?_)
    rw [h3 k (by omega)]
    by_cases c : k < len
    · rw [if_pos c, if_pos c]
    · rw [if_neg c, if_neg c, if_pos hk]
  rw [e]
  rfl
theorem c_two (hi : i < 200) (ha : a < i) (hb : b < i) (hx : VC q 2 a x) (hy : VC q 2 b y) (ox : vOk x) (oy : vOk y) (h11 : 11 ≤ k) (h22 : k ≤ 22) (ht : tyOk k x y) : ∃ q', f_X1_workOutOfTwo q (nI k) (nI i) (nI a) (nI b) = some q' ∧ VC q' 2 i (opv k x y) ∧ Oc 2 i q q' := by
  have kx4 := vOk_k ox
  have ky4 := vOk_k oy
  have hv : vN q 2 < 20000 := by rw [n200]; decide
  have hai : a < vN q 2 := by rw [n200]; omega
  have hbi : b < vN q 2 := by rw [n200]; omega
  unfold f_X1_workOutOfTwo f_X1_workOutOfTwo_0
  rw [f_isNull hx kx4 hai hv, Option.bind_some]
  have hnull : (vk x = 0 ∨ vk y = 0) → opv k x y = vNull := fun h => by
    unfold opv
    rw [if_neg (by omega)]
    by_cases c15 : k ≤ 15
    · rw [if_pos c15, if_pos (by rcases h with h | h; exact Or.inl h; exact Or.inr (Or.inl h))]
    · rw [if_neg c15]
      by_cases c16 : k = 16
      · rw [if_pos c16, if_pos h]
      · rw [if_neg c16, if_pos h22, if_pos h]
  by_cases kx : vk x = 0
  · rw [if_pos kx, if_neg (by decide), hnull (Or.inl kx)]; exact c_nul hi
  · rw [if_neg kx, if_pos rfl, f_isNull hy ky4 hbi hv, Option.bind_some]
    by_cases ky : vk y = 0
    · rw [if_pos ky, if_neg (by decide), hnull (Or.inr ky)]; exact c_nul hi
    · rw [if_neg ky, if_pos rfl]
      by_cases c15 : k ≤ 15
      · have hxy := ht.1 c15
        rw [if_neg (show ¬ (16 : Int32) ≤ nI k from cNle (c := 16) (by omega) (by decide)), f_numberOf hx (by omega) hai hv, Option.bind_some, f_numberOf hy (by omega) hbi hv, Option.bind_some]
        have ho : opv k x y = if (13 < k ∧ vn y = 0) then vNull else vInt (ari k (vn x) (vn y)) := by
          unfold opv
          rw [if_neg (by omega), if_pos c15]
          by_cases c : 13 < k ∧ vn y = 0
          · rw [if_pos (Or.inr (Or.inr c)), if_pos c]
          · rw [if_neg (by intro w; rcases w with w | w | w; exact kx w; exact ky w; exact c w), if_neg c]
        rw [ho]
        unfold f_X1_reckon f_X1_reckon_0 ari
        have wrap : ∀ {f : Option QS} {z : Vl}, (∃ q', (f.bind fun r => some r) = some q' ∧ VC q' 2 i z ∧ Oc 2 i q q') → ∃ q', ((f.bind fun r => some r).bind fun r25 => some r25) = some q' ∧ VC q' 2 i z ∧ Oc 2 i q q' := fun h => by
          obtain ⟨q', h1, h2⟩ := h
          rw [h1]; exact ⟨q', rfl, h2⟩
        by_cases c11 : k = 11
        · subst c11; rw [if_neg (show ¬ (13 < 11 ∧ vn y = 0) from fun w => absurd w.1 (by decide)), if_pos (show nI 11 = (11 : Int32) from rfl)]; exact wrap (c_num hi _)
        · rw [if_neg (show ¬ nI k = (11 : Int32) from cNe c11 (by omega) (by decide)), if_neg c11]
          by_cases c12 : k = 12
          · subst c12; rw [if_neg (show ¬ (13 < 12 ∧ vn y = 0) from fun w => absurd w.1 (by decide)), if_pos (show nI 12 = (12 : Int32) from rfl)]; exact wrap (c_num hi _)
          · rw [if_neg (show ¬ nI k = (12 : Int32) from cNe c12 (by omega) (by decide)), if_neg c12]
            by_cases c13 : k = 13
            · subst c13; rw [if_neg (show ¬ (13 < 13 ∧ vn y = 0) from fun w => absurd w.1 (by decide)), if_pos (show nI 13 = (13 : Int32) from rfl)]; exact wrap (c_num hi _)
            · rw [if_neg (show ¬ nI k = (13 : Int32) from cNe c13 (by omega) (by decide)), if_neg c13]
              by_cases hz : vn y = 0
              · rw [if_pos ((lg_eq0 _ _).mpr hz), if_pos ⟨by omega, hz⟩]; exact wrap (c_nul hi)
              · rw [if_neg (fun w => hz ((lg_eq0 _ _).mp w)), if_neg (show ¬ (13 < k ∧ vn y = 0) from fun w => hz w.2)]
                by_cases c14 : k = 14
                · subst c14; rw [if_pos (show nI 14 = (14 : Int32) from rfl), if_neg hz, if_pos rfl]; exact wrap (c_num hi _)
                · rw [if_neg (show ¬ nI k = (14 : Int32) from cNe c14 (by omega) (by decide)), if_neg hz, if_neg c14]; exact wrap (c_num hi _)
      · rw [if_pos (show (16 : Int32) ≤ nI k from cLe (c := 16) (by omega) (by omega))]
        by_cases c16 : k = 16
        · subst c16
          obtain ⟨t1, t2⟩ := ht.2.1 rfl
          have ho : opv 16 x y = jv x y := by
            show (if vk x = 0 ∨ vk y = 0 then vNull else jv x y) = jv x y
            rw [if_neg (by omega)]
          rw [if_pos (show nI 16 = (16 : Int32) from rfl), ho]
          obtain ⟨q1, h1, h2, h3⟩ := v_copy (v := 2) (u := 2) (i := i) hx kx4 hi hv hai hv
          obtain ⟨q2, g1, g2, g3⟩ := v_atext (v := 2) (i := i) (j := b) h2 (hy.other h3 (Or.inr (by omega))) ox (by omega) oy (by omega) (by omega) hi (by rw [n200]; omega) (by rw [n200]; decide)
          rw [h1, Option.bind_some, g1, Option.bind_some, ← jv_tcat ox (by omega) oy (by omega)]
          exact ⟨q2, rfl, g2, h3.trans g3⟩
        · have ho : opv k x y = vBool (hldB k (rcmp x y)) := by
            unfold opv
            rw [if_neg (by omega), if_neg c15, if_neg c16, if_pos h22, if_neg (by omega)]
          obtain ⟨z, hz1, hz2⟩ := f_holdsC (k := k) (by omega) h22 (rcmp x y)
          rw [if_neg (show ¬ nI k = (16 : Int32) from cNe c16 (by omega) (by decide)), f_compare hx hy ox oy (by have := ht.2.2.1 (by omega) h22; omega) kx hai hbi hv, Option.bind_some, hz1, Option.bind_some, ho]
          exact c_boo hi z _ hz2
theorem c_neg (hi : i < 200) (ha : a < i) (hx : VC q 2 a x) (ox : vOk x) (ht : vk x ≤ 1) : ∃ q', f_X1_negate q (nI i) (nI a) = some q' ∧ VC q' 2 i (opv 10 x y) ∧ Oc 2 i q q' := by
  have kx4 := vOk_k ox
  have hv : vN q 2 < 20000 := by rw [n200]; decide
  have hai : a < vN q 2 := by rw [n200]; omega
  unfold f_X1_negate f_X1_negate_0
  show ∃ q', _ = some q' ∧ VC q' 2 i (if vk x = 0 then vNull else vInt (-vn x)) ∧ _
  rw [f_isNull hx kx4 hai hv, Option.bind_some]
  by_cases kx : vk x = 0
  · rw [if_pos kx, if_pos kx, if_neg (by decide)]; exact c_nul hi
  · rw [if_neg kx, if_neg kx, if_pos rfl, f_numberOf hx (by omega) hai hv, Option.bind_some]; exact c_num hi _
theorem bool_n {x : Vl} (ox : vOk x) (h3 : vk x = 3) : vn x = 0 ∨ vn x = 1 := by
  rcases ox with rfl | ⟨n, rfl⟩ | ⟨b, hb, rfl⟩ | ⟨W, len, -, rfl⟩
  · cases h3
  · cases h3
  · exact hb
  · cases h3
theorem c_not (hi : i < 200) (ha : a < i) (hx : VC q 2 a x) (ox : vOk x) (ht : vk x = 0 ∨ vk x = 3) : ∃ q', f_X1_turnOver q (nI i) (nI a) = some q' ∧ VC q' 2 i (opv 25 x y) ∧ Oc 2 i q q' := by
  have kx4 := vOk_k ox
  have hv : vN q 2 < 20000 := by rw [n200]; decide
  have hai : a < vN q 2 := by rw [n200]; omega
  unfold f_X1_turnOver f_X1_turnOver_0
  show ∃ q', _ = some q' ∧ VC q' 2 i (if vk x = 0 then vNull else vBool (1 - vn x)) ∧ _
  rw [f_isNull hx kx4 hai hv, Option.bind_some]
  by_cases kx : vk x = 0
  · rw [if_pos kx, if_pos kx, if_neg (by decide)]; exact c_nul hi
  · have k3 : vk x = 3 := by omega
    rw [if_neg kx, if_neg kx, if_pos rfl, f_isTruth hx kx4 hai hv 0 (Or.inl rfl), Option.bind_some]
    rcases bool_n ox k3 with hn | hn
    · rw [if_pos ⟨k3, Or.inl ⟨hn, rfl⟩⟩, hn]; exact c_boo hi 1 _ rfl
    · rw [if_neg (by intro w; rcases w.2 with w | w; rw [hn] at w; exact absurd w.1 (by decide); exact absurd w.2 (by decide)), hn]; exact c_boo hi 0 _ rfl
theorem truth_d {q : QS} {a : Nat} {x : Vl} (hx : VC q 2 a x) (ox : vOk x) (ht : vk x = 0 ∨ vk x = 3) (ha : a < 200) (d : Int64) (c : Int32) (hc : (c = 0 ∧ d = 0) ∨ (c = 1 ∧ d = 1)) : ((¬ vk x = 0 ∧ vn x = d) → f_X8_isTruth 2 q (nI a) c = some 1) ∧ (¬ (¬ vk x = 0 ∧ vn x = d) → f_X8_isTruth 2 q (nI a) c = some 0) := by
  have hv : vN q 2 < 20000 := by rw [n200]; decide
  rw [f_isTruth hx (vOk_k ox) (by rw [n200]; exact ha) hv c (by rcases hc with h | h; exact Or.inl h.1; exact Or.inr h.1)]
  constructor
  · intro h
    have k3 : vk x = 3 := by omega
    rw [if_pos]
    rcases hc with ⟨rfl, rfl⟩ | ⟨rfl, rfl⟩
    · exact ⟨k3, Or.inl ⟨h.2, rfl⟩⟩
    · exact ⟨k3, Or.inr ⟨by rw [h.2]; decide, rfl⟩⟩
  · intro h
    rw [if_neg]
    intro w
    refine h ⟨by omega, ?_⟩
    have hb := bool_n ox w.1
    rcases hc with ⟨rfl, rfl⟩ | ⟨rfl, rfl⟩
    · rcases w.2 with w | w
      · exact w.1
      · exact absurd w.2 (by decide)
    · rcases w.2 with w | w
      · exact absurd w.2 (by decide)
      · rcases hb with hb | hb
        · exact absurd hb w.1
        · exact hb
theorem c_dec (hi : i < 200) (ha : a < i) (hb : b < i) (hx : VC q 2 a x) (hy : VC q 2 b y) (ox : vOk x) (oy : vOk y) (tx : vk x = 0 ∨ vk x = 3) (ty : vk y = 0 ∨ vk y = 3) (d : Int64) (c : Int32) (hc : (c = 0 ∧ d = 0) ∨ (c = 1 ∧ d = 1)) : ∃ q', f_X1_decide q (nI i) (nI a) (nI b) c = some q' ∧ VC q' 2 i (dcd d x y) ∧ Oc 2 i q q' := by
  have hv : vN q 2 < 20000 := by rw [n200]; decide
  have hcd : (if c = 0 then (0 : Int64) else 1) = d := by rcases hc with ⟨rfl, rfl⟩ | ⟨rfl, rfl⟩ <;> rfl
  unfold f_X1_decide f_X1_decide_0 dcd
  obtain ⟨x1, x2⟩ := truth_d hx ox tx (by omega) d c hc
  obtain ⟨y1, y2⟩ := truth_d hy oy ty (by omega) d c hc
  by_cases hxd : ¬ vk x = 0 ∧ vn x = d
  · rw [x1 hxd, Option.bind_some, if_neg (by decide), if_pos (Or.inl hxd)]; exact c_boo hi c _ hcd
  · rw [x2 hxd, Option.bind_some, if_pos rfl]
    by_cases hyd : ¬ vk y = 0 ∧ vn y = d
    · rw [y1 hyd, Option.bind_some, if_neg (by decide), if_pos (Or.inr hyd)]; exact c_boo hi c _ hcd
    · rw [y2 hyd, Option.bind_some, if_pos rfl, if_neg (show ¬ ((¬ vk x = 0 ∧ vn x = d) ∨ (¬ vk y = 0 ∧ vn y = d)) from fun w => w.elim hxd hyd), f_isNull hx (vOk_k ox) (by rw [n200]; omega) hv, Option.bind_some]
      by_cases kx : vk x = 0
      · rw [if_pos kx, if_neg (by decide), if_pos (Or.inl kx)]; exact c_nul hi
      · rw [if_neg kx, if_pos rfl, f_isNull hy (vOk_k oy) (by rw [n200]; omega) hv, Option.bind_some]
        by_cases ky : vk y = 0
        · rw [if_pos ky, if_neg (by decide), if_pos (Or.inr ky)]; exact c_nul hi
        · rw [if_neg ky, if_pos rfl, if_neg (show ¬ (vk x = 0 ∨ vk y = 0) by omega)]
          rcases hc with ⟨rfl, rfl⟩ | ⟨rfl, rfl⟩
          · rw [if_pos rfl]; exact c_boo hi 1 _ rfl
          · rw [if_neg (by decide)]; exact c_boo hi 0 _ rfl
end CO
