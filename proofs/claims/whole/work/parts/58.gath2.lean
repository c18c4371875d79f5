theorem sw_loop {i : Nat} {x : Vl} {k : Nat} (hi : i < 200) (fu : Nat) : ∀ (r : QS) (t : Nat), t ≤ 4 → 4 - t < fu → qI r 11 i = nI k → (qI r 17 i = 0 ∨ qI r 17 i = 1) → ((qI r 17 i = 1 ∨ k = 7) → ∀ s, s < 4 → vw x s = 0) → k < 28 → ((qI r 17 i = 0 ∧ k ≠ 7) → ∀ s, s < 4 → qL r 24 (4 * i + s) = vw x s) → (∀ s, s < t → qL r 20 (4 * i + s) = vw x s) → ∃ r', f_X10_setGathered_89 fu r (nI i) (nI t) = some r' ∧ On i r r' ∧ qI r' = qI r ∧ qL r' 18 = qL r 18 ∧ ∀ s, s < 4 → qL r' 20 (4 * i + s) = vw x s := by
  induction fu with
  | zero => intro r t _ h; omega
  | succ fu ih =>
    intro r t ht hf hK h17 hz hk h24 hd
    rw [f_X10_setGathered_89, f_X10_setGathered_89_b]
    by_cases he : t = 4
    · subst he
      rw [if_pos (show (4 : Int32) ≤ nI 4 from nI_le (a := 4) (Nat.le_refl _) (by decide))]
      exact ⟨r, rfl, On.rfl, rfl, rfl, hd⟩
    · rw [if_neg (show ¬ (4 : Int32) ≤ nI t from nI_ge (b := 4) (by omega) (by decide)), lit4_nI, nI_add, rd_nI hi (by decide), Option.bind_some, rd_nI hi (by decide), Option.bind_some, hK]
      unfold f_X10_setGathered_123
      have next : f_X10_setGathered_137 (f_X10_setGathered_89 fu) r (nI i) (nI t) (nI (4 * i + t)) (vw x t) = f_X10_setGathered_89 fu (uL r 20 (4 * i + t) (vw x t)) (nI i) (nI (t + 1)) := by
        unfold f_X10_setGathered_137
        rw [wL_nI (by omega) (by decide), Option.bind_some, nI_1]
      obtain ⟨r', h1, h2, h3, h4, h5⟩ := ih (uL r 20 (4 * i + t) (vw x t)) (t + 1) (by omega) (by omega) hK h17 hz hk (fun h s hs => by rw [qL_uL, if_neg (by decide)]; exact h24 h s hs) (fun s hs => by
          rw [qL_uL, if_pos rfl, updL_at]
          by_cases e3 : s = t
          · rw [if_pos (by omega), e3]
          · rw [if_neg (by omega)]; exact hd s (by omega))
      refine ⟨r', ?_, (On.w (by omega)).trans h2, h3, h4, h5⟩
      rcases h17 with h | h
      · rw [if_pos h]
        by_cases c7 : k = 7
        · rw [if_pos (by rw [c7]; rfl), ← hz (Or.inr c7) t (by omega), next]; exact h1
        · rw [if_neg (show ¬ nI k = (7 : Int32) from cNe (c := 7) c7 (by omega) (by decide)), rd_nI (by omega) (by decide), Option.bind_some, h24 ⟨h, c7⟩ t (by omega), next]; exact h1
      · rw [if_neg (by rw [h]; decide), ← hz (Or.inl h) t (by omega), next]; exact h1
theorem r_setG {r : QS} {i k m : Nat} {acc : Vl} (hi : i < 200) (hk5 : 5 ≤ k) (hk9 : k ≤ 9) (hK : qI r 11 i = nI k) (hG : GR r i k acc m) (hm : m < 2 ^ 30) : ∃ r', f_X10_setGathered r (nI i) = some r' ∧ On i r r' ∧ VR r' i acc := by
  obtain ⟨g1, g2, g3, g4⟩ := hG
  unfold f_X10_setGathered f_X10_setGathered_0
  rw [rd_nI hi (by decide), Option.bind_some, hK]
  by_cases c6 : k ≤ 6
  · rw [if_neg (show ¬ (7 : Int32) ≤ nI k from nI_ge (b := 7) (by omega) (by decide)), rd_nI hi (by decide), Option.bind_some, g1]
    obtain ⟨r', a1, a2, a3⟩ := r_nm (r := r) hi acc (Or.inl ⟨_, g2 c6⟩)
    have e : vn acc = lN m := by rw [g2 c6]; rfl
    rw [e] at a1
    rw [a1]
    exact ⟨r', rfl, a2, a3⟩
  rw [if_pos (show (7 : Int32) ≤ nI k from nI_le (a := 7) (by omega) (by omega)), rd_nI hi (by decide), Option.bind_some, g1]
  unfold f_X10_setGathered_42
  rw [rd_nI hi (by decide), Option.bind_some]
  by_cases m0 : m = 0
  · rw [if_pos ((lg_eq0 _ _).mpr ((lN0 (by omega)).mpr m0))]
    have hacc : acc = vNull := by
      by_cases c7 : k = 7
      · exact ((g3 c7).1 m0).1
      · exact (g4 (by omega)).1 m0
    subst hacc
    obtain ⟨r1, a1, a2, a3⟩ := r_null (r := r) hi (qL r 22 i)
    have a31 : qI r1 17 i = 1 := a3.1
    rw [a1, Option.bind_some, rd_nI hi (by decide), Option.bind_some, a31, if_neg i1]
    unfold f_X10_setGathered_76 f_X10_setGathered_86
    rw [wI_nI hi (by decide), Option.bind_some]
    obtain ⟨r', b1, b2, b3, b4, b5⟩ := sw_loop (x := vNull) (k := k) hi FU (uI r1 19 i 0) 0 (Nat.zero_le _) (by show 4 - 0 < 100000; omega) (by show qI r1 11 i = nI k; rw [a2.1 11 (by decide) (by decide)]; exact hK) (Or.inr a3.1) (fun _ s _ => rfl) (by omega) (fun h => by have h1 : qI r1 17 i = 0 := h.1; rw [a3.1] at h1; exact absurd h1 (by decide)) (fun s hs => by omega)
    refine ⟨r', b1, (a2.trans On.l).trans b2, ?_, ?_, ?_, b5⟩
    · rw [b3]; exact a3.1
    · rw [b4]; exact a3.2.1
    · rw [b3, qI_uI, if_pos rfl, upd_at, if_pos rfl]; rfl
  rw [if_neg (fun z => m0 ((lN0 (by omega)).mp ((lg_eq0 _ _).mp z)))]
  obtain ⟨r1, a1, a2, a3, a4, a5, a6⟩ := r_num (r := r) hi 0 (Or.inl rfl) (qL r 22 i)
  rw [if_pos rfl] at a4
  rw [Option.bind_some, a1, Option.bind_some, rd_nI hi (by decide), Option.bind_some, a3, if_pos rfl, rd_nI hi (by decide), Option.bind_some, a2.1 11 (by decide) (by decide), hK]
  by_cases c7 : k = 7
  · have hacc := (g3 c7).2 m0
    rw [if_pos (by rw [c7]; rfl)]
    unfold f_X10_setGathered_76 f_X10_setGathered_86
    rw [wI_nI hi (by decide), Option.bind_some]
    obtain ⟨r', b1, b2, b3, b4, b5⟩ := sw_loop (x := acc) (k := k) hi FU (uI r1 19 i 0) 0 (Nat.zero_le _) (by show 4 - 0 < 100000; omega) (by show qI r1 11 i = nI k; rw [a2.1 11 (by decide) (by decide)]; exact hK) (Or.inl a3) (fun _ s _ => by rw [hacc]; rfl) (by omega) (fun h => absurd c7 h.2) (fun s hs => by omega)
    refine ⟨r', b1, (a2.trans On.l).trans b2, ?_, ?_, ?_, b5⟩
    · rw [b3, if_neg (by rw [hacc]; exact fun h => by cases h)]; exact a3
    · rw [b4]
      show qL r1 18 i = vn acc
      rw [a4]; conv => rhs; rw [hacc]
      rfl
    · rw [b3, qI_uI, if_pos rfl, upd_at, if_pos rfl, hacc]; rfl
  · obtain ⟨u1, u2, u3⟩ := (g4 (by omega)).2 m0
    rw [if_neg (show ¬ nI k = (7 : Int32) from cNe (c := 7) c7 (by omega) (by decide)), rd_nI hi (by decide), Option.bind_some, a2.1 23 (by decide) (by decide), u3.2.1]
    unfold f_X10_setGathered_86
    rw [wI_nI hi (by decide), Option.bind_some]
    obtain ⟨r', b1, b2, b3, b4, b5⟩ := sw_loop (x := acc) (k := k) hi FU (uI r1 19 i (nI (vl acc))) 0 (Nat.zero_le _) (by show 4 - 0 < 100000; omega) (by show qI r1 11 i = nI k; rw [a2.1 11 (by decide) (by decide)]; exact hK) (Or.inl a3) (fun h => by
      rcases h with h | h
      · have h1 : qI r1 17 i = 1 := h
        rw [a3] at h1; exact absurd h1 (by decide)
      · exact absurd h c7) (by omega) (fun h s hs => by
      show qL r1 24 (4 * i + s) = vw acc s
      rw [a2.2.2.1 24 (by decide) (by decide)]; exact u3.2.2 s hs) (fun s hs => by omega)
    refine ⟨r', b1, (a2.trans On.l).trans b2, ?_, ?_, ?_, b5⟩
    · rw [b3, if_neg u1]; exact a3
    · rw [b4]
      show qL r1 18 i = vn acc
      rw [a4, u3.1]
    · rw [b3, qI_uI, if_pos rfl, upd_at, if_pos rfl]
/-! the class's aggregates -/
theorem c_start {q : QS} {i k : Nat} (hi : i < 200) (hk5 : 5 ≤ k) (hk9 : k ≤ 9) (hK : qI q 30 i = nI k) : ∃ q', f_X1_startAggregate q (nI i) = some q' ∧ Oc 2 i q q' ∧ VC q' 2 i (ag0 k) := by
  unfold f_X1_startAggregate f_X1_startAggregate_0 ag0
  rw [rd_nI hi (by decide), Option.bind_some, hK]
  obtain ⟨q1, a1, a2, a3⟩ := c_num (q := q) hi 0
  obtain ⟨q2, b1, b2, b3⟩ := c_nul (q := q) hi
  by_cases c5 : k = 5
  · rw [if_pos (by rw [c5]; rfl), if_pos (by omega)]; exact ⟨q1, a1, a3, a2⟩
  rw [if_neg (show ¬ nI k = (5 : Int32) from cNe (c := 5) c5 (by omega) (by decide))]
  by_cases c6 : k = 6
  · rw [if_pos (by rw [c6]; rfl), if_pos (by omega)]; exact ⟨q1, a1, a3, a2⟩
  rw [if_neg (show ¬ nI k = (6 : Int32) from cNe (c := 6) c6 (by omega) (by decide)), if_neg (by omega)]
  exact ⟨q2, b1, b3, b2⟩
theorem c_feed {q : QS} {i a k t tx : Nat} {acc x : Vl} (hi : i < 200) (hk5 : 5 ≤ k) (hk9 : k ≤ 9) (hK : qI q 30 i = nI k) (hA : k ≠ 5 → qI q 32 i = nI a ∧ a < i ∧ VC q 2 a x ∧ Ty tx x) (h7 : k ≤ 7 → t = 1) (h8 : 8 ≤ k → tx = t) (h7x : k = 7 → tx ≤ 1) (hac : VC q 2 i acc) (hag : AgOk k t acc) : ∃ q', f_X1_feedAggregate q (nI i) = some q' ∧ Oc 2 i q q' ∧ VC q' 2 i (agf k acc x) := by
  unfold f_X1_feedAggregate f_X1_feedAggregate_0
  rw [rd_nI hi (by decide), Option.bind_some, hK]
  have hv : vN q 2 < 20000 := by rw [n200]; decide
  have hi2 : i < vN q 2 := by rw [n200]; exact hi
  have ka4 := vOk_k hag.2.1
  by_cases c5 : k = 5
  · subst c5
    obtain ⟨m, hm⟩ := hag.1 (by decide)
    rw [if_pos (show nI 5 = (5 : Int32) from rfl), f_numberOf hac (by rw [hm]; exact Or.inl rfl) hi2 hv, Option.bind_some]
    obtain ⟨q', a1, a2, a3⟩ := c_num (q := q) hi (vn acc + 1)
    refine ⟨q', a1, a3, ?_⟩
    have e : agf 5 acc x = vInt (vn acc + 1) := by unfold agf; rw [if_pos rfl]
    rw [e]; exact a2
  obtain ⟨ha, ha2, hx, tx1⟩ := hA c5
  have hai : a < vN q 2 := by rw [n200]; omega
  rw [if_neg (show ¬ nI k = (5 : Int32) from cNe (c := 5) c5 (by omega) (by decide)), rd_nI hi (by decide), Option.bind_some, ha, f_isNull hx (vOk_k tx1.1) hai hv, Option.bind_some]
  by_cases x0 : vk x = 0
  · rw [if_pos x0, if_neg i1]
    refine ⟨q, rfl, Oc.rfl, ?_⟩
    have e : agf k acc x = acc := by unfold agf; rw [if_neg c5, if_pos x0]
    rw [e]; exact hac
  rw [if_neg x0, if_pos rfl, agf_of c5 x0]
  by_cases c6 : k = 6
  · obtain ⟨m, hm⟩ := hag.1 (by omega)
    rw [if_pos (by rw [c6]; rfl), if_pos c6, f_numberOf hac (by rw [hm]; exact Or.inl rfl) hi2 hv, Option.bind_some]
    obtain ⟨q', a1, a2, a3⟩ := c_num (q := q) hi (vn acc + 1)
    exact ⟨q', a1, a3, a2⟩
  rw [if_neg (show ¬ nI k = (6 : Int32) from cNe (c := 6) c6 (by omega) (by decide)), if_neg c6, f_isNull hac ka4 hi2 hv, Option.bind_some]
  obtain ⟨qc, b1, b2, b3⟩ := v_copy (q := q) (v := 2) (u := 2) (i := i) (j := a) hx (vOk_k tx1.1) hi2 hv hai hv
  by_cases ac0 : vk acc = 0
  · rw [if_pos ac0, if_neg i1, if_pos ac0, b1]
    exact ⟨qc, rfl, b3, b2⟩
  rw [if_neg ac0, if_pos rfl, if_neg ac0]
  by_cases c7 : k = 7
  · have k1 : vk acc = 1 := by
      have := hag.2.2
      rw [h7 (by omega)] at this
      omega
    have x1 : vk x = 1 := by have := tx1.2; have := h7x c7; omega
    rw [if_pos (by rw [c7]; rfl), if_pos c7, f_numberOf hac (Or.inl k1) hi2 hv, Option.bind_some, f_numberOf hx (Or.inl x1) hai hv, Option.bind_some]
    obtain ⟨q', a1, a2, a3⟩ := c_num (q := q) hi (vn acc + vn x)
    exact ⟨q', a1, a3, a2⟩
  rw [if_neg (show ¬ nI k = (7 : Int32) from cNe (c := 7) c7 (by omega) (by decide)), if_neg c7]
  have kxa : vk x = vk acc := by have := tx1.2; have := hag.2.2; have := h8 (by omega); omega
  rw [f_compare hx hac tx1.1 hag.2.1 kxa x0 hai hi2 hv, Option.bind_some, b1]
  unfold f_X1_isBetter f_X1_isBetter_0
  by_cases k8 : k = 8
  · rw [if_pos (by rw [k8]; rfl), if_pos k8]
    by_cases c : 0 ≤ rcmp x acc
    · rw [if_pos c, if_neg (fun z => (i32_not_le.mpr z) c), Option.bind_some, if_pos rfl]
      exact ⟨q, rfl, Oc.rfl, hac⟩
    · rw [if_neg c, if_pos (i32_not_le.mp c), Option.bind_some, if_neg i1]
      exact ⟨qc, rfl, b3, b2⟩
  · rw [if_neg (show ¬ nI k = (8 : Int32) from cNe (c := 8) k8 (by omega) (by decide)), if_neg k8]
    by_cases c : rcmp x acc ≤ 0
    · rw [if_pos c, if_neg (fun z => (i32_not_le'.mpr z) c), Option.bind_some, if_pos rfl]
      exact ⟨q, rfl, Oc.rfl, hac⟩
    · rw [if_neg c, if_pos (i32_not_le'.mp c), Option.bind_some, if_neg i1]
      exact ⟨qc, rfl, b3, b2⟩
