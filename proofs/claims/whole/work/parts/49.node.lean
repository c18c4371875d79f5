/-! node -/
def tkB (k ta tb : Nat) : Bool := decide (((k = 7 ∨ k = 10) → ta ≤ 1) ∧ ((k = 8 ∨ k = 9) → ta ≤ 2) ∧ (11 ≤ k → k ≤ 15 → ta ≤ 1 ∧ tb ≤ 1) ∧ (k = 16 → (ta = 0 ∨ ta = 2) ∧ (tb = 0 ∨ tb = 2)) ∧ (17 ≤ k → k ≤ 22 → ta = 0 ∨ tb = 0 ∨ ta = tb) ∧ (k = 25 → ta = 0 ∨ ta = 3) ∧ ((k = 26 ∨ k = 27) → (ta = 0 ∨ ta = 3) ∧ (tb = 0 ∨ tb = 3)))
theorem tkB_tk {k ta tb : Nat} (h : tkB k ta tb = true) : tk k ta tb := by
  unfold tk
  exact of_decide_eq_true h
def twoB (k : Nat) : Bool := decide ((11 ≤ k ∧ k ≤ 22) ∨ k = 26 ∨ k = 27)
theorem twoB_iff (k : Nat) : twoB k = true ↔ two k := decide_eq_true_iff
/-- a state with types alone -/
def q31 (ta tb : Nat) : QS := uI (uI qX0 31 0 (nI ta)) 31 1 (nI tb)
theorem iso_at {q : QS} {a ta : Nat} (ha : a < 200) (h : qI q 31 a = nI ta) (c : Int32) : f_X2_isOfType q (nI a) c = if nI ta = c then some 1 else if nI ta = 0 then some 1 else some 0 := by
  unfold f_X2_isOfType f_X2_isOfType_0
  rw [rd_nI ha (by decide), Option.bind_some, Option.bind_some, h]
theorem iso_m {q : QS} (c : Int32) : f_X2_isOfType q (-1) c = none := by
  unfold f_X2_isOfType f_X2_isOfType_0
  have : rd (qI q 31) 200 (-1) = none := by
    unfold rd
    rw [if_neg (show ¬ ck (-1) 200 = true by decide)]
  rw [this]; rfl
theorem tf_two {q : QS} {a b ta tb : Nat} (ha : a < 200) (hb : b < 200) (h1 : qI q 31 a = nI ta) (h2 : qI q 31 b = nI tb) (x : Int32) : f_X2_typesFit q x (nI a) (nI b) = f_X2_typesFit (q31 ta tb) x (nI 0) (nI 1) := by
  unfold f_X2_typesFit f_X2_typesFit_0
  have e1 : ∀ c, f_X2_isOfType q (nI a) c = f_X2_isOfType (q31 ta tb) (nI 0) c := fun c => by
    rw [iso_at ha h1, iso_at (q := q31 ta tb) (a := 0) (ta := ta) (by decide) rfl]
  have e2 : ∀ c, f_X2_isOfType q (nI b) c = f_X2_isOfType (q31 ta tb) (nI 1) c := fun c => by
    rw [iso_at hb h2, iso_at (q := q31 ta tb) (a := 1) (ta := tb) (by decide) rfl]
  have e3 : rd (qI q 31) 200 (nI a) = rd (qI (q31 ta tb) 31) 200 (nI 0) := by
    rw [rd_nI ha (by decide), rd_nI (by decide) (by decide), h1]; rfl
  simp only [e1, e2, e3]
theorem tf_one {q : QS} {a ta : Nat} (ha : a < 200) (h1 : qI q 31 a = nI ta) (x : Int32) : f_X2_typesFit q x (nI a) (-1) = f_X2_typesFit (q31 ta 0) x (nI 0) (-1) := by
  unfold f_X2_typesFit f_X2_typesFit_0
  have e1 : ∀ c, f_X2_isOfType q (nI a) c = f_X2_isOfType (q31 ta 0) (nI 0) c := fun c => by
    rw [iso_at ha h1, iso_at (q := q31 ta 0) (a := 0) (ta := ta) (by decide) rfl]
  have e3 : rd (qI q 31) 200 (nI a) = rd (qI (q31 ta 0) 31) 200 (nI 0) := by
    rw [rd_nI ha (by decide), rd_nI (by decide) (by decide), h1]; rfl
  simp only [e1, iso_m, e3]
def tfT (k ta tb : Nat) : Bool := decide (f_X2_typesFit (q31 ta tb) (nI k) (nI 0) (nI 1) = some (if tkB k ta tb then 1 else 0))
def tfO (k ta : Nat) : Bool := decide (f_X2_typesFit (q31 ta 0) (nI k) (nI 0) (-1) = some (if tkB k ta 0 then 1 else 0))
def rtT (k ta tb : Nat) : Bool := decide (f_X10_takes (nI k) (nI ta) (nI tb) = some (if tkB k ta tb then 1 else 0))
def rtO (k ta : Nat) : Bool := decide (f_X10_takes (nI k) (nI ta) 0 = some (if tkB k ta 0 then 1 else 0))
theorem tf_fl : ∀ m, m < 448 → (decide (m / 16 < 6) || (if twoB (m / 16) then tfT (m / 16) (m / 4 % 4) (m % 4) && rtT (m / 16) (m / 4 % 4) (m % 4) else tfO (m / 16) (m / 4 % 4) && rtO (m / 16) (m / 4 % 4))) = true := by decide +kernel
theorem tf_idx {k ta tb : Nat} (hk : k < 28) (ha : ta < 4) (hb : tb < 4) (h6 : 6 ≤ k) : (if twoB k then tfT k ta tb && rtT k ta tb else tfO k ta && rtO k ta) = true := by
  have h := tf_fl (16 * k + 4 * ta + tb) (by omega)
  rw [show (16 * k + 4 * ta + tb) / 16 = k by omega, show (16 * k + 4 * ta + tb) / 4 % 4 = ta by omega, show (16 * k + 4 * ta + tb) % 4 = tb by omega] at h
  rw [show decide (k < 6) = false from decide_eq_false (by omega), Bool.false_or] at h
  exact h
theorem tf_two2 {k ta tb : Nat} (hk : k < 28) (ha : ta < 4) (hb : tb < 4) (h6 : 6 ≤ k) (h2 : twoB k = true) : f_X2_typesFit (q31 ta tb) (nI k) (nI 0) (nI 1) = some (if tkB k ta tb then 1 else 0) ∧ f_X10_takes (nI k) (nI ta) (nI tb) = some (if tkB k ta tb then 1 else 0) := by
  have h := tf_idx hk ha hb h6
  rw [if_pos h2, Bool.and_eq_true] at h
  exact ⟨of_decide_eq_true h.1, of_decide_eq_true h.2⟩
theorem tf_one2 {k ta : Nat} (hk : k < 28) (ha : ta < 4) (h6 : 6 ≤ k) (h2 : twoB k = false) : f_X2_typesFit (q31 ta 0) (nI k) (nI 0) (-1) = some (if tkB k ta 0 then 1 else 0) ∧ f_X10_takes (nI k) (nI ta) 0 = some (if tkB k ta 0 then 1 else 0) := by
  have h := tf_idx (tb := 0) hk ha (by decide) h6
  rw [if_neg (by rw [h2]; decide), Bool.and_eq_true] at h
  exact ⟨of_decide_eq_true h.1, of_decide_eq_true h.2⟩
theorem pt_all : ∀ k, k < 28 → 6 ≤ k → f_X2_partsOf (nI k) = some (if twoB k then 2 else 1) ∧ f_X10_isTwo (nI k) = some (if twoB k then 1 else 0) ∧ f_X2_isAggregateKind (nI k) = some (if k < 10 then 1 else 0) := by decide +kernel
theorem free_eq {q r : QS} {S T N : Nat} (hN : SimN q r S T N) (x : Int32) : (f_X2_isFree q x = some 0 ∧ f_X10_isFree r x = some 0) ∨ (f_X2_isFree q x = some 1 ∧ f_X10_isFree r x = some 1 ∧ ∃ a, a < N ∧ x = nI a ∧ qI r 16 a = 0) := by
  have h200 := hN.1
  unfold f_X2_isFree f_X2_isFree_0 f_X10_isFree f_X10_isFree_0
  rcases ix_cases x N (by omega) with hx | ⟨a, ha, rfl⟩
  · refine Or.inl ⟨?_, ?_⟩
    · rw [has_no hN.2.1 hx]; rfl
    · rw [hN.2.2.1, in_no (by omega) hx]; rfl
  · rw [has_yes hN.2.1 ha (by omega), hN.2.2.1, in_yes (by omega) ha]
    simp only [Option.bind_some, if_neg i1]
    rw [rd_nI (f := qI q 37) (by omega) (by decide), rd_nI (f := qI r 16) (by omega) (by decide), (used_ok hN a ha).2.1]
    simp only [Option.bind_some]
    by_cases e : qI r 16 a = 0
    · rw [if_pos e]; exact Or.inr ⟨rfl, rfl, a, ha, rfl, e⟩
    · rw [if_neg e]; exact Or.inl ⟨rfl, rfl⟩
theorem take_yes {q : QS} {M a : Nat} (hM : qF q 2 = nI M) (ha : a < M) (h200 : M ≤ 200) : f_X2_take q (nI a) = some (uI q 37 a 1) := by
  unfold f_X2_take f_X2_take_0
  rw [has_yes hM ha (by omega), Option.bind_some, if_neg i1, sf1, wI_nI (by omega) (by decide), Option.bind_some]
theorem take_no {q : QS} {M : Nat} (hM : qF q 2 = nI M) : f_X2_take q (-1) = some q := by
  unfold f_X2_take f_X2_take_0
  rw [has_no hM (Or.inl (by decide)), Option.bind_some, if_pos rfl]
theorem hag_yes {q : QS} {M a : Nat} (hM : qF q 2 = nI M) (ha : a < M) (h200 : M ≤ 200) : f_X2_hasAggregate q (nI a) = some (if qI q 36 a = 0 then 0 else 1) := by
  unfold f_X2_hasAggregate f_X2_hasAggregate_0
  rw [has_yes hM ha (by omega), Option.bind_some, if_neg i1, rd_nI (by omega) (by decide), Option.bind_some]
  split <;> rfl
theorem hag_no {q : QS} {M : Nat} (hM : qF q 2 = nI M) : f_X2_hasAggregate q (-1) = some 0 := by
  unfold f_X2_hasAggregate f_X2_hasAggregate_0
  rw [has_no hM (Or.inl (by decide)), Option.bind_some, if_pos rfl]
theorem toc {q : QS} {k a ta : Nat} (hk : k < 28) (h6 : 6 ≤ k) (ha : a < 200) (h : qI q 31 a = nI ta) : f_X2_typeOfComputed q (nI k) (nI a) = some (nI (tyOf k ta)) := by
  unfold f_X2_typeOfComputed f_X2_typeOfComputed_0 tyOf
  rw [rd_nI ha (by decide), h]
  simp only [Option.bind_some]
  by_cases h8 : k = 8
  · subst h8; rw [if_pos (show nI 8 = (8 : Int32) from rfl), if_pos (Or.inl rfl)]
  rw [if_neg (show ¬ nI k = (8 : Int32) from cNe (c := 8) h8 (by omega) (by decide))]
  by_cases h9 : k = 9
  · subst h9; rw [if_pos (show nI 9 = (9 : Int32) from rfl), if_pos (Or.inr rfl)]
  rw [if_neg (show ¬ nI k = (9 : Int32) from cNe (c := 9) h9 (by omega) (by decide)), if_neg (show ¬ (k = 8 ∨ k = 9) by omega)]
  by_cases h16 : k = 16
  · subst h16; rfl
  rw [if_neg (show ¬ nI k = (16 : Int32) from cNe (c := 16) h16 (by omega) (by decide))]
  by_cases hl : k < 16
  · rw [if_neg (show ¬ (16 : Int32) ≤ nI k from nI_ge (b := 16) hl (by decide)), if_pos hl]; rfl
  · rw [if_pos (show (16 : Int32) ≤ nI k from nI_le (a := 16) (by omega) (by omega)), if_neg hl, if_neg h16]; rfl
/-- what the class makes of a node with parts -/
theorem c_comp {q : QS} {N k a b ta : Nat} {y : Int32} (hN : qF q 2 = nI N) (hlt : N < 200) (hk : k < 28) (h6 : 6 ≤ k) (ha : a < N) (h31 : qI q 31 a = nI ta) (hy : (twoB k = true ∧ b < N ∧ y = nI b) ∨ (twoB k = false ∧ y = -1)) : ∃ q' g, f_X2_addComputed_70 q (nI k) (nI a) y = some (nI N, q') ∧ (g = 0 ∨ g = 1) ∧ (g = 1 ↔ (k < 10 ∨ ¬ qI q 36 a = 0 ∨ (twoB k = true ∧ ¬ qI q 36 b = 0))) ∧ NodeC q q' N (nI k) (nI (tyOf k ta)) (nI a) y g (fun j => if j = a ∨ (twoB k = true ∧ j = b) then 1 else qI q 37 j) := by
  unfold f_X2_addComputed_70
  rw [toc hk h6 (by omega) h31, Option.bind_some]
  obtain ⟨q1, a1, ⟨n1, n2, n3, n4, n5, n6, n7, n8, n9, n10, n11, n12, n13⟩, -⟩ := c_app hN hlt (nI k) (nI (tyOf k ta)) (nI a) y
  rw [a1, Option.bind_some, (pt_all k hk h6).2.2, Option.bind_some]
  have hga : f_X2_hasAggregate q1 (nI a) = some (if qI q 36 a = 0 then 0 else 1) := by
    rw [hag_yes n5 (by omega) (by omega), n6 36 a (by decide) (by decide) (by omega)]
  have hfin : ∀ g : Int32, (g = 0 ∨ g = 1) → ∃ q', ((wI q1 36 200 (nI N) (vp_nar .boolean g)).bind fun q18 => (f_X2_take q18 (nI a)).bind fun r20 => (f_X2_take r20 y).bind fun r22 => some (nI N, r22)) = some (nI N, q') ∧ NodeC q q' N (nI k) (nI (tyOf k ta)) (nI a) y g (fun j => if j = a ∨ (twoB k = true ∧ j = b) then 1 else qI q 37 j) := by
    intro g hg
    rw [show vp_nar .boolean g = g by rcases hg with h | h <;> rw [h] <;> rfl, wI_nI hlt (by decide), Option.bind_some, take_yes (q := uI q1 36 N g) (a := a) (M := N + 1) n5 (by omega) (by omega), Option.bind_some]
    rcases hy with ⟨y1, y2, y3⟩ | ⟨y1, y2⟩
    · rw [y3, take_yes (q := uI (uI q1 36 N g) 37 a 1) (a := b) (M := N + 1) n5 (by omega) (by omega), Option.bind_some]
      refine ⟨_, rfl, ⟨fun z hz => ?_, n2, n3, n4, n5, fun z j h1 h2 hj => ?_, n7, n8, n9, by rw [← y3]; exact n10, ?_, ?_, fun j hj => ?_⟩⟩
      · rw [qI_uI, if_neg (by omega), qI_uI, if_neg (by omega), qI_uI, if_neg (by omega), n1 z hz]
      · rw [qI_uI, if_neg (by omega), qI_uI, if_neg (by omega), qI_uI]
        split
        · rename_i e; rw [upd_at, if_neg hj, n6 36 j (by decide) (by decide) hj, e]
        · exact n6 z j h1 h2 hj
      · rw [qI_uI, if_neg (by decide), qI_uI, if_neg (by decide), qI_uI, if_pos rfl, upd_at, if_pos rfl]
      · rw [qI_uI, if_pos rfl, upd_at, if_neg (by omega), qI_uI, if_pos rfl, upd_at, if_neg (by omega), qI_uI, if_neg (by decide), n12]
      · show (if j = b then (1 : Int32) else (if j = a then 1 else qI q1 37 j)) = if j = a ∨ (twoB k = true ∧ j = b) then 1 else qI q 37 j
        by_cases e1 : j = b
        · rw [if_pos e1, if_pos (Or.inr ⟨y1, e1⟩)]
        · rw [if_neg e1]
          by_cases e2 : j = a
          · rw [if_pos e2, if_pos (Or.inl e2)]
          · rw [if_neg e2, if_neg (fun z => z.elim e2 (fun z => e1 z.2)), n13 j hj]
    · rw [y2, take_no (q := uI (uI q1 36 N g) 37 a 1) (M := N + 1) n5, Option.bind_some]
      refine ⟨_, rfl, ⟨fun z hz => ?_, n2, n3, n4, n5, fun z j h1 h2 hj => ?_, n7, n8, n9, by rw [← y2]; exact n10, ?_, ?_, fun j hj => ?_⟩⟩
      · rw [qI_uI, if_neg (by omega), qI_uI, if_neg (by omega), n1 z hz]
      · rw [qI_uI, if_neg (by omega), qI_uI]
        split
        · rename_i e; rw [upd_at, if_neg hj, n6 36 j (by decide) (by decide) hj, e]
        · exact n6 z j h1 h2 hj
      · rw [qI_uI, if_neg (by decide), qI_uI, if_pos rfl, upd_at, if_pos rfl]
      · rw [qI_uI, if_pos rfl, upd_at, if_neg (by omega), qI_uI, if_neg (by decide), n12]
      · show (if j = a then (1 : Int32) else qI q1 37 j) = if j = a ∨ (twoB k = true ∧ j = b) then 1 else qI q 37 j
        by_cases e2 : j = a
        · rw [if_pos e2, if_pos (Or.inl e2)]
        · rw [if_neg e2, if_neg (fun z => z.elim e2 (fun z => by rw [y1] at z; cases z.1)), n13 j hj]
  obtain ⟨z0, u0, v0⟩ := hfin 0 (Or.inl rfl)
  obtain ⟨z1, u1, v1⟩ := hfin 1 (Or.inr rfl)
  by_cases h10 : k < 10
  · rw [if_pos h10, if_neg i1]
    exact ⟨z1, 1, u1, Or.inr rfl, ⟨fun _ => Or.inl h10, fun _ => rfl⟩, v1⟩
  rw [if_neg h10, if_pos rfl, hga, Option.bind_some]
  by_cases ea : qI q 36 a = 0
  · rw [if_pos ea, if_pos rfl]
    rcases hy with ⟨y1, y2, y3⟩ | ⟨y1, y2⟩
    · have hgb : f_X2_hasAggregate q1 (nI b) = some (if qI q 36 b = 0 then 0 else 1) := by
        rw [hag_yes n5 (by omega) (by omega), n6 36 b (by decide) (by decide) (by omega)]
      rw [y3, hgb, Option.bind_some, ← y3]
      by_cases eb : qI q 36 b = 0
      · rw [if_pos eb, if_pos rfl]
        refine ⟨z0, 0, u0, Or.inl rfl, ⟨fun z => absurd z (by decide), fun z => ?_⟩, v0⟩
        rcases z with z | z | z
        · exact absurd z h10
        · exact absurd ea z
        · exact absurd eb z.2
      · rw [if_neg eb, if_neg i1]
        exact ⟨z1, 1, u1, Or.inr rfl, ⟨fun _ => Or.inr (Or.inr ⟨y1, eb⟩), fun _ => rfl⟩, v1⟩
    · rw [show f_X2_hasAggregate q1 y = some 0 by rw [y2]; exact hag_no n5, Option.bind_some, if_pos rfl]
      refine ⟨z0, 0, u0, Or.inl rfl, ⟨fun z => absurd z (by decide), fun z => ?_⟩, v0⟩
      rcases z with z | z | z
      · exact absurd z h10
      · exact absurd ea z
      · rw [y1] at z; cases z.1
  · rw [if_neg ea, if_neg i1]
    exact ⟨z1, 1, u1, Or.inr rfl, ⟨fun _ => Or.inr (Or.inl ea), fun _ => rfl⟩, v1⟩
/-- what the reference makes of it -/
theorem r_ty {r : QS} {k a ta : Nat} (hk : k < 28) (h6 : 6 ≤ k) (ha : a < 200) (h : qI r 14 a = nI ta) (y z : Int32) : f_X10_node_133 r (nI k) (nI a) y z = f_X10_node_175 r (nI k) (nI a) y z (nI (tyOf k ta)) := by
  unfold f_X10_node_133 f_X10_node_145 tyOf
  rw [rd_nI ha (by decide), h]
  simp only [Option.bind_some]
  by_cases h8 : k = 8
  · subst h8; rw [if_pos (show nI 8 = (8 : Int32) from rfl), if_pos (Or.inl rfl)]
  rw [if_neg (show ¬ nI k = (8 : Int32) from cNe (c := 8) h8 (by omega) (by decide))]
  by_cases h9 : k = 9
  · subst h9; rw [if_pos (show nI 9 = (9 : Int32) from rfl), if_pos (Or.inr rfl)]
  rw [if_neg (show ¬ nI k = (9 : Int32) from cNe (c := 9) h9 (by omega) (by decide)), if_neg (show ¬ (k = 8 ∨ k = 9) by omega)]
  by_cases hl : k < 16
  · rw [if_neg (show ¬ (16 : Int32) ≤ nI k from nI_ge (b := 16) hl (by decide)), if_pos hl]; rfl
  rw [if_pos (show (16 : Int32) ≤ nI k from nI_le (a := 16) (by omega) (by omega)), if_neg hl]
  by_cases h16 : k = 16
  · subst h16; rfl
  rw [if_neg (show ¬ nI k = (16 : Int32) from cNe (c := 16) h16 (by omega) (by decide)), if_neg h16]; rfl
theorem r_190 {r : QS} {N k a b : Nat} {y w t : Int32} (hN : qF r 2 = nI N) (hlt : N < 200) (hk : k < 28) (ha : a < N) (hy : (twoB k = true ∧ b < N ∧ y = nI b) ∨ twoB k = false) : ∃ r' g, f_X10_node_190 r (nI k) (nI a) y (if twoB k then 1 else 0) t (nI k) (nI a) w = some (nI N, r') ∧ (g = 0 ∨ g = 1) ∧ (g = 1 ↔ (k < 10 ∨ ¬ qI r 15 a = 0 ∨ (twoB k = true ∧ ¬ qI r 15 b = 0))) ∧ NodeR r r' N (nI k) (nI a) w t g (qI r 16) := by
  unfold f_X10_node_190
  obtain ⟨z0, u0, v0⟩ := r_made hN hlt (nI k) (nI a) w t 0 (Or.inl rfl)
  obtain ⟨z1, u1, v1⟩ := r_made hN hlt (nI k) (nI a) w t 1 (Or.inr rfl)
  rw [u0, u1, rd_nI (f := qI r 15) (by omega) (by decide)]
  simp only [Option.bind_some]
  by_cases h10 : k < 10
  · rw [if_pos (show nI k < (10 : Int32) from nI_lt (b := 10) h10 (by decide))]
    exact ⟨z1, 1, rfl, Or.inr rfl, ⟨fun _ => Or.inl h10, fun _ => rfl⟩, v1⟩
  rw [if_neg (show ¬ nI k < (10 : Int32) from fun z => h10 (by rw [i32_lt, nI_toInt (by omega)] at z; have : (10 : Int32).toInt = 10 := rfl; omega))]
  by_cases ea : qI r 15 a = 0
  · rw [if_pos ea]
    rcases hy with ⟨y1, y2, y3⟩ | y1
    · rw [if_neg (show ¬ (if twoB k = true then (1 : Int32) else 0) = 0 by rw [if_pos y1]; decide), y3, rd_nI (f := qI r 15) (by omega) (by decide), Option.bind_some]
      by_cases eb : qI r 15 b = 0
      · rw [if_pos eb]
        refine ⟨z0, 0, rfl, Or.inl rfl, ⟨fun z => absurd z (by decide), fun z => ?_⟩, v0⟩
        rcases z with z | z | z
        · exact absurd z h10
        · exact absurd ea z
        · exact absurd eb z.2
      · rw [if_neg eb]
        exact ⟨z1, 1, rfl, Or.inr rfl, ⟨fun _ => Or.inr (Or.inr ⟨y1, eb⟩), fun _ => rfl⟩, v1⟩
    · rw [if_pos (show (if twoB k = true then (1 : Int32) else 0) = 0 by rw [y1]; rfl)]
      refine ⟨z0, 0, rfl, Or.inl rfl, ⟨fun z => absurd z (by decide), fun z => ?_⟩, v0⟩
      rcases z with z | z | z
      · exact absurd z h10
      · exact absurd ea z
      · rw [y1] at z; cases z.1
  · rw [if_neg ea]
    exact ⟨z1, 1, rfl, Or.inr rfl, ⟨fun _ => Or.inr (Or.inl ea), fun _ => rfl⟩, v1⟩
theorem NodeR.from {r r1 r' : QS} {N : Nat} {k x y t g : Int32} {U : Nat → Int32} (h1 : ∀ z, z ≠ 16 → qI r1 z = qI r z) (h2 : qL r1 = qL r) (h3 : qF r1 = qF r) (h4 : ∀ j, j ≠ N → qI r1 16 j = U j) (h : NodeR r1 r' N k x y t g (qI r1 16)) : NodeR r r' N k x y t g U := by
  obtain ⟨a1, a2, a3, a4, a5, a6, a7, a8, a9, a10, a11, a12⟩ := h
  exact ⟨fun z hz => by rw [a1 z hz, h1 z (by omega)], by rw [a2, h2], fun z hz => by rw [a3 z hz, h3], a4, fun z j b1 b2 hj => by rw [a5 z j b1 b2 hj, h1 z (by omega)], a6, a7, a8, a9, a10, a11, fun j hj => by rw [a12 j hj, h4 j hj]⟩
theorem r_comp {r : QS} {N k a b ta : Nat} {y : Int32} (hN : qF r 2 = nI N) (hlt : N < 200) (hk : k < 28) (h6 : 6 ≤ k) (ha : a < N) (h14 : qI r 14 a = nI ta) (hy : (twoB k = true ∧ b < N ∧ y = nI b) ∨ twoB k = false) : ∃ r' g, f_X10_node_114 r (nI k) (nI a) y (if twoB k then 1 else 0) = some (nI N, r') ∧ (g = 0 ∨ g = 1) ∧ (g = 1 ↔ (k < 10 ∨ ¬ qI r 15 a = 0 ∨ (twoB k = true ∧ ¬ qI r 15 b = 0))) ∧ NodeR r r' N (nI k) (nI a) (if twoB k then y else -1) (nI (tyOf k ta)) g (fun j => if j = a ∨ (twoB k = true ∧ j = b) then 1 else qI r 16 j) := by
  unfold f_X10_node_114
  rw [sf1, wI_nI (by omega) (by decide), Option.bind_some]
  rcases hy with ⟨y1, y2, y3⟩ | y1
  · have z1 : (if twoB k = true then (1 : Int32) else 0) = 1 := if_pos y1
    have z2 : (if twoB k = true then y else -1) = y := if_pos y1
    rw [z2, if_neg (show ¬ (if twoB k = true then (1 : Int32) else 0) = 0 by rw [z1]; decide), y3, wI_nI (by omega) (by decide), Option.bind_some, r_ty hk h6 (by omega) (show qI (uI (uI r 16 a 1) 16 b 1) 14 a = nI ta from h14)]
    unfold f_X10_node_175
    rw [if_neg (show ¬ (if twoB k = true then (1 : Int32) else 0) = 0 by rw [z1]; decide)]
    obtain ⟨r', g, c1, c2, c3, c4⟩ := r_190 (r := uI (uI r 16 a 1) 16 b 1) (y := nI b) (w := nI b) (t := nI (tyOf k ta)) (b := b) hN hlt hk ha (Or.inl ⟨y1, y2, rfl⟩)
    refine ⟨r', g, c1, c2, c3, NodeR.from (r1 := uI (uI r 16 a 1) 16 b 1) (fun z hz => ?_) rfl rfl (fun j hj => ?_) c4⟩
    · rw [qI_uI, if_neg hz, qI_uI, if_neg hz]
    · show (if j = b then (1 : Int32) else (if j = a then 1 else qI r 16 j)) = if j = a ∨ (twoB k = true ∧ j = b) then 1 else qI r 16 j
      by_cases e1 : j = b
      · rw [if_pos e1, if_pos (Or.inr ⟨y1, e1⟩)]
      · rw [if_neg e1]
        by_cases e2 : j = a
        · rw [if_pos e2, if_pos (Or.inl e2)]
        · rw [if_neg e2, if_neg (fun z => z.elim e2 (fun z => e1 z.2))]
  · have z1 : (if twoB k = true then (1 : Int32) else 0) = 0 := if_neg (by rw [y1]; decide)
    have z2 : (if twoB k = true then y else -1) = -1 := if_neg (by rw [y1]; decide)
    rw [z2, if_pos z1, r_ty hk h6 (by omega) (show qI (uI r 16 a 1) 14 a = nI ta from h14)]
    unfold f_X10_node_175
    rw [if_pos z1]
    obtain ⟨r', g, c1, c2, c3, c4⟩ := r_190 (r := uI r 16 a 1) (y := y) (w := -1) (t := nI (tyOf k ta)) (b := b) hN hlt hk ha (Or.inr y1)
    refine ⟨r', g, c1, c2, c3, NodeR.from (r1 := uI r 16 a 1) (fun z hz => ?_) rfl rfl (fun j hj => ?_) c4⟩
    · rw [qI_uI, if_neg hz]
    · show (if j = a then (1 : Int32) else qI r 16 j) = if j = a ∨ (twoB k = true ∧ j = b) then 1 else qI r 16 j
      by_cases e2 : j = a
      · rw [if_pos e2, if_pos (Or.inl e2)]
      · rw [if_neg e2, if_neg (fun z => z.elim e2 (fun z => by rw [y1] at z; cases z.1))]
