theorem not01 {x : Int32} (h : x = 0 ∨ x = 1) : ¬ x = 0 ↔ x = 1 := by
  rcases h with h | h <;> subst h <;> decide
theorem node_new {κ n : Nat} {q r q' r' : QS} {S T N I G O K I' k a b : Nat} {g g' : Int32} (hS : SOk r S) (hn : S ≤ n) (hf : qF r 0 = nI S) (hH : SimH q r S) (hT : SimT q r S T) (hN : SimN q r S T N) (hQ : SimQ q r N I G O) (hA : SimA q r K I') (hC : SimC κ q) (hlt : N < 200) (hk : k < 28) (h6 : 6 ≤ k) (ha : a < N) (hb : twoB k = true → b < N) (hfa : qI r 16 a = 0) (hfb : twoB k = true → qI r 16 b = 0) (hab : twoB k = true → a ≠ b)
    (htk : tk k (nT r a) (if twoB k then nT r b else 0)) (hag : k < 10 → qI r 15 a = 0)
    (nc : NodeC q q' N (nI k) (nI (tyOf k (nT r a))) (nI a) (if twoB k then nI b else -1) g (fun j => if j = a ∨ (twoB k = true ∧ j = b) then 1 else qI q 37 j))
    (nr : NodeR r r' N (nI k) (nI a) (if twoB k then nI b else -1) (nI (tyOf k (nT r a))) g' (fun j => if j = a ∨ (twoB k = true ∧ j = b) then 1 else qI r 16 j))
    (hg : g = 0 ∨ g = 1) (hg1 : g = 1 ↔ (k < 10 ∨ ¬ qI q 36 a = 0 ∨ (twoB k = true ∧ ¬ qI q 36 b = 0))) (hg' : g' = 0 ∨ g' = 1) (hg1' : g' = 1 ↔ (k < 10 ∨ ¬ qI r 15 a = 0 ∨ (twoB k = true ∧ ¬ qI r 15 b = 0))) : Sim κ n q' r' := by
  have h200 := hN.1
  have m36 : ∀ j, j < N → qI q 36 j = qI r 15 j := fun j hj => (hN.2.2.2 j hj).2.2.2.2.2.2.2.1
  have h15 : ∀ j, j < N → (qI r 15 j = 0 ∨ qI r 15 j = 1) := fun j hj => (hN.2.2.2 j hj).2.2.2.2.2.2.1
  have hgg : g = g' := by
    have : g = 1 ↔ g' = 1 := by
      rw [hg1, hg1', m36 a ha]
      by_cases h2 : twoB k = true
      · rw [m36 b (hb h2)]
      · constructor <;> (intro z; rcases z with z | z | z; exact Or.inl z; exact Or.inr (Or.inl z); exact absurd z.1 h2)
    rcases hg with e | e <;> rcases hg' with e' | e'
    · rw [e, e']
    · rw [this.mpr e', e']
    · rw [e, this.mp e]
    · rw [e, e']
  subst hgg
  have hTa : nT r a ≤ 3 := (hN.2.2.2 a ha).2.2.2.1
  have hty : tyOf k (nT r a) ≤ 3 := by unfold tyOf; split; exact hTa; split; decide; split <;> decide
  refine Sim_node hS hn hf hH hT hN hQ hA hC hlt nc Oc.rfl nr (fun j hj => ?_) (fun hto h1 h2 => ?_)
  · by_cases e : j = a ∨ (twoB k = true ∧ j = b)
    · simp only [if_pos e]; exact ⟨Or.inr trivial, trivial, fun _ => trivial⟩
    · simp only [if_neg e]; exact used_ok hN j hj
  · obtain ⟨-, -, -, -, -, x6, x7, x8, x9, x10, x11, x12, -⟩ := nc
    obtain ⟨-, -, -, -, y6, y7, y8, y9, y10, y11, y12, y13⟩ := nr
    have w1 : nK r' N = k := by unfold nK; rw [y7]; exact nt_nI (by omega)
    have w2 : nT r' N = tyOf k (nT r a) := by unfold nT; rw [y10]; exact nt_nI (show tyOf k (nT r a) < 2 ^ 31 by omega)
    have w3 : nA r' N = a := by unfold nA; rw [y8]; exact nt_nI (by omega)
    have hTr : Tr r' N := by
      have px : ∀ x, prt r' N x → (x = a ∨ (twoB k = true ∧ x = b)) ∧ x < N ∧ qI r 16 x = 0 := fun x hx => by
        have hx2 := hx.2
        rw [w1, w3] at hx2
        rcases hx2 with h | ⟨h, h'⟩
        · rw [h]; exact ⟨Or.inl rfl, ha, hfa⟩
        · have t2 : twoB k = true := (twoB_iff k).mpr h
          have w4 : nB r' N = b := by unfold nB; rw [y9, if_pos t2]; exact nt_nI (by have := hb t2; omega)
          rw [w4] at h'
          rw [h']; exact ⟨Or.inr ⟨t2, rfl⟩, hb t2, hfb t2⟩
      refine ⟨fun x hx => ?_, fun h => ?_, fun j x hj hx hy => ?_⟩
      · obtain ⟨p1, p2, -⟩ := px x hx
        rw [y13 x (by omega)]
        exact if_pos p1
      · rw [w1] at h
        have t2 : twoB k = true := (twoB_iff k).mpr h
        have w4 : nB r' N = b := by unfold nB; rw [y9, if_pos t2]; exact nt_nI (by have := hb t2; omega)
        rw [w3, w4]; exact hab t2
      · have hy' : prt r j x := by
          unfold prt nK nA nB at hy ⊢
          rw [y6 11 j (by decide) (by decide) (by omega), y6 12 j (by decide) (by decide) (by omega), y6 13 j (by decide) (by decide) (by omega)] at hy
          exact hy
        have h1 := ((hN.2.2.2 j hj).2.2.2.2.2.2.2.2.2.2.2.2.2 hy'.1).2.2.2.2.2.2.2.1 x hy'
        rw [(px x hx).2.2] at h1
        exact absurd h1 (by decide)
    unfold NodOk
    rw [w1, w2, w3, y7, y8, y9, y10, y11, y12, x7, x8, x9, x10, x11, x12, (h1 a ha).1, (h1 a ha).2]
    refine ⟨by omega, rfl, rfl, hty, rfl, rfl, hg, rfl, Or.inl rfl, rfl, fun z => by omega, fun z => by omega, fun z => by omega, fun _ => ⟨ha, rfl, rfl, rfl, fun h => hag (by omega), fun h2' => ?_, fun h2' => ?_, hTr⟩⟩
    · have t2 : twoB k = true := (twoB_iff k).mpr h2'
      have w4 : nB r' N = b := by unfold nB; rw [y9, if_pos t2]; exact nt_nI (by have := hb t2; omega)
      rw [w4, (h1 b (hb t2)).1, (h1 b (hb t2)).2, if_pos t2]
      rw [if_pos t2] at htk
      refine ⟨hb t2, rfl, rfl, htk, hg1'.trans ?_⟩
      rw [not01 (h15 a ha), not01 (h15 b (hb t2))]
      constructor
      · intro z
        rcases z with z | z | z
        · exfalso
          rcases h2' with h | h | h <;> omega
        · exact Or.inl z
        · exact Or.inr z.2
      · intro z
        rcases z with z | z
        · exact Or.inr (Or.inl z)
        · exact Or.inr (Or.inr ⟨t2, z⟩)
    · have t2 : ¬ twoB k = true := fun z => h2' ((twoB_iff k).mp z)
      rw [if_neg t2] at htk ⊢
      refine ⟨rfl, rfl, htk, hg1'.trans ?_⟩
      rw [not01 (h15 a ha)]
      constructor
      · intro z
        rcases z with z | z | z
        · exact Or.inl (by omega)
        · exact Or.inr z
        · exact absurd z.1 t2
      · intro z
        rcases z with z | z
        · exact Or.inl (by omega)
        · exact Or.inr (Or.inl z)
theorem bk {α : Type} (o : Option (α × QS)) : (o.bind fun r => some (r.1, r.2)) = o := by
  cases o <;> rfl
theorem st_9 {κ n : Nat} {q r : QS} (h : Sim κ n q r) (x y z : Int32) : ∃ a q' r', f_X9_node q x y z = some (a, q') ∧ f_X10_node r x y z = some (a, r') ∧ Sim κ n q' r' := by
  have hsim := h
  obtain ⟨S, T, N, I, G, O, K, I', hS, hnS, hf, hH, hT, hN, hQ, hA, hC⟩ := h
  have h200 := hN.1
  unfold f_X9_node f_X9_node_0 f_X10_node f_X10_node_0
  simp only [bk]
  by_cases hx5 : x < 5
  · refine ⟨-1, q, r, ?_, ?_, hsim⟩
    · rw [if_pos hx5]
    · rw [f_in_no (Or.inl hx5)]; rfl
  by_cases hx27 : (27 : Int32) < x
  · refine ⟨-1, q, r, ?_, ?_, hsim⟩
    · rw [if_neg hx5, if_pos hx27]
    · rw [f_in_no (Or.inr hx27)]; rfl
  obtain ⟨k, hk5, hk28, rfl⟩ : ∃ k, 5 ≤ k ∧ k < 28 ∧ x = nI k := by
    rcases ix_cases x 28 (by decide) with hx | ⟨w, hw, rfl⟩
    · exfalso
      rw [i32_lt] at hx5 hx27
      rw [i32_lt, i32_le, nI_toInt (by decide)] at hx
      have e0 : (0 : Int32).toInt = 0 := rfl
      have e1 : (5 : Int32).toInt = 5 := rfl
      have e8 : (27 : Int32).toInt = 27 := rfl
      omega
    · refine ⟨w, ?_, hw, rfl⟩
      rw [i32_lt, nI_toInt (by omega)] at hx5
      have e1 : (5 : Int32).toInt = 5 := rfl
      omega
  rw [if_neg hx5, if_neg hx27, f_in_yes hx5 hx27, full_c hN.2.1 h200, hN.2.2.1]
  simp only [Option.bind_some, if_neg i1]
  by_cases e : N = 200
  · subst e
    refine ⟨-1, q, r, ?_, ?_, hsim⟩
    · rw [if_neg (show ¬ (if 200 < 200 then (0 : Int32) else 1) = 0 by decide)]
    · rw [if_pos (show nI 200 = (200 : Int32) from rfl)]
  rw [if_pos (show (if N < 200 then (0 : Int32) else 1) = 0 from if_pos (by omega)), if_neg (show ¬ nI N = (200 : Int32) from cNe (c := 200) e (by omega) (by decide))]
  by_cases e5 : k = 5
  · subst e5
    obtain ⟨q1, a1, ⟨n1, n2, n3, n4, n5, n6, n7, n8, n9, n10, n11, n12, n13⟩, -⟩ := c_app hN.2.1 (show N < 200 by omega) (nI 5) 1 (-1) (-1)
    obtain ⟨r', d1, d2⟩ := r_made hN.2.2.1 (show N < 200 by omega) 5 (-1) (-1) 1 1 (Or.inr rfl)
    refine ⟨nI N, uI q1 36 N 1, r', ?_, ?_, ?_⟩
    · rw [show f_X2_partsOf (nI 5) = some 0 from rfl, Option.bind_some, if_pos (by decide), if_neg (by decide)]
      unfold f_X2_addComputed f_X2_addComputed_0
      rw [show f_X2_partsOf (nI 5) = some 0 from rfl, Option.bind_some, if_pos (by decide)]
      unfold f_X2_addComputed_22
      rw [if_neg (by decide)]
      unfold f_X2_addComputed_43
      rw [show f_X2_typesFit q (nI 5) (-1) (-1) = some 1 from rfl, Option.bind_some, if_neg i1, show f_X2_isAggregateKind (nI 5) = some 1 from rfl, Option.bind_some, if_neg i1, hag_no hN.2.1, Option.bind_some, if_pos rfl]
      unfold f_X2_addComputed_70
      rw [show f_X2_typeOfComputed q (nI 5) (-1) = some 1 from rfl, Option.bind_some, a1, Option.bind_some, show f_X2_isAggregateKind (nI 5) = some 1 from rfl, Option.bind_some, if_neg i1, sf1, wI_nI (show N < 200 by omega) (by decide), Option.bind_some, take_no (q := uI q1 36 N 1) (M := N + 1) n5, Option.bind_some, take_no (q := uI q1 36 N 1) (M := N + 1) n5, Option.bind_some]
    · rw [if_pos (show nI 5 = (5 : Int32) from rfl), d1]
    · have nc : NodeC q (uI q1 36 N 1) N (nI 5) 1 (-1) (-1) 1 (qI q 37) := by
        refine ⟨fun z hz => ?_, n2, n3, n4, n5, fun z j h1 h2 hj => ?_, n7, n8, n9, n10, ?_, n12, n13⟩
        · rw [qI_uI, if_neg (by omega), n1 z hz]
        · rw [qI_uI]
          split
          · rename_i e; rw [upd_at, if_neg hj, n6 36 j (by decide) (by decide) hj, e]
          · exact n6 z j h1 h2 hj
        · rw [qI_uI, if_pos rfl, upd_at, if_pos rfl]
      refine Sim_node hS hnS hf hH hT hN hQ hA hC (by omega) nc Oc.rfl d2 (used_ok hN) (fun hto h1 h2 => ?_)
      obtain ⟨-, -, -, -, -, x6, x7, x8, x9, x10, x11, x12, -⟩ := nc
      obtain ⟨-, -, -, -, y6, y7, y8, y9, y10, y11, y12, -⟩ := d2
      have w1 : nK r' N = 5 := by unfold nK; rw [y7]; rfl
      have w2 : nT r' N = 1 := by unfold nT; rw [y10]; rfl
      unfold NodOk
      rw [w1, w2, y7, y8, y9, y10, y11, y12, x7, x8, x9, x10, x11, x12]
      exact ⟨by omega, rfl, rfl, by omega, rfl, rfl, Or.inr rfl, rfl, Or.inl rfl, rfl, fun z => by omega, fun z => by omega, fun _ => ⟨rfl, rfl, rfl, rfl, rfl, rfl⟩, fun z => by omega⟩
  have h6 : 6 ≤ k := by omega
  obtain ⟨p1', p2', p3'⟩ := pt_all k hk28 h6
  rw [p1', p2', if_neg (show ¬ nI k = (5 : Int32) from cNe (c := 5) e5 (by omega) (by decide))]
  simp only [Option.bind_some]
  rw [if_neg (show ¬ (if twoB k = true then (2 : Int32) else 1) < 1 by split <;> decide)]
  unfold f_X2_addComputed f_X2_addComputed_0
  rw [p1']
  simp only [Option.bind_some]
  rw [if_neg (show ¬ (if twoB k = true then (2 : Int32) else 1) < 1 by split <;> decide)]
  rcases free_eq hN y with ⟨fa, fb⟩ | ⟨fa, fb, a, ha, rfl, ua⟩
  · refine ⟨-1, q, r, ?_, ?_, hsim⟩
    · rw [fa]; simp only [Option.bind_some, if_true]; split <;> rfl
    · rw [fb]; rfl
  rw [fa, fb]
  simp only [Option.bind_some, if_neg i1]
  obtain ⟨ca1, ca2, ca3, ca4, ca5, ca6, ca7, ca8, -⟩ := hN.2.2.2 a ha
  have key : ∀ b w, (twoB k = true → b < N ∧ z = nI b ∧ qI r 16 b = 0 ∧ a ≠ b) → w = (if twoB k then nT r b else 0) → f_X2_typesFit q (nI k) (nI a) (if twoB k then z else -1) = some (if tkB k (nT r a) w then 1 else 0) → f_X10_takes (nI k) (nI (nT r a)) (if twoB k then nI w else 0) = some (if tkB k (nT r a) w then 1 else 0) → ∃ c q' r', f_X2_addComputed_43 q (nI k) (nI a) (if twoB k then z else -1) = some (c, q') ∧ f_X10_node_91 r (nI k) (nI a) z (if twoB k then 1 else 0) (nI k) (nI (nT r a)) (if twoB k then nI w else 0) = some (c, r') ∧ Sim κ n q' r' := by
    intro b w hb hw tf tr
    unfold f_X2_addComputed_43 f_X10_node_91
    rw [tf, tr]
    simp only [Option.bind_some]
    by_cases ht : tkB k (nT r a) w = true
    · rw [if_pos ht, if_neg i1, if_neg i1, p3']
      simp only [Option.bind_some]
      rw [hag_yes hN.2.1 ha h200, ca8, rd_nI (f := qI r 15) (by omega) (by decide)]
      simp only [Option.bind_some]
      by_cases hbad : k < 10 ∧ ¬ qI r 15 a = 0
      · refine ⟨-1, q, r, ?_, ?_, hsim⟩
        · rw [if_neg (show ¬ (if k < 10 then (1 : Int32) else 0) = 0 by rw [if_pos hbad.1]; decide), if_neg (show ¬ (if qI r 15 a = 0 then (0 : Int32) else 1) = 0 by rw [if_neg hbad.2]; decide)]
        · rw [if_neg (show ¬ (10 : Int32) ≤ nI k from nI_ge (b := 10) hbad.1 (by decide)), if_neg hbad.2]
      have hag : k < 10 → qI r 15 a = 0 := fun h10 => Classical.byContradiction (fun z => hbad ⟨h10, z⟩)
      obtain ⟨q', g, c1, c2, c3, c4⟩ := c_comp (q := q) (k := k) (a := a) (b := b) (ta := nT r a) (y := if twoB k then z else -1) hN.2.1 (show N < 200 by omega) hk28 h6 ha ca6 (by
        by_cases t2 : twoB k = true
        · exact Or.inl ⟨t2, (hb t2).1, by rw [if_pos t2]; exact (hb t2).2.1⟩
        · exact Or.inr ⟨by cases h : twoB k; rfl; exact absurd h t2, by rw [if_neg t2]⟩)
      obtain ⟨r', g', d1, d2, d3, d4⟩ := r_comp (r := r) (k := k) (a := a) (b := b) (ta := nT r a) (y := z) hN.2.2.1 (show N < 200 by omega) hk28 h6 ha ca5 (by
        by_cases t2 : twoB k = true
        · exact Or.inl ⟨t2, (hb t2).1, (hb t2).2.1⟩
        · exact Or.inr (by cases h : twoB k; rfl; exact absurd h t2))
      rw [c1, d1]
      refine ⟨nI N, q', r', ?_, ?_, ?_⟩
      · by_cases h10 : k < 10
        · rw [if_neg (show ¬ (if k < 10 then (1 : Int32) else 0) = 0 by rw [if_pos h10]; decide), if_pos (show (if qI r 15 a = 0 then (0 : Int32) else 1) = 0 from if_pos (hag h10))]
        · rw [if_pos (show (if k < 10 then (1 : Int32) else 0) = 0 from if_neg h10)]
      · by_cases h10 : k < 10
        · rw [if_neg (show ¬ (10 : Int32) ≤ nI k from nI_ge (b := 10) h10 (by decide)), if_pos (hag h10)]
        · rw [if_pos (show (10 : Int32) ≤ nI k from nI_le (a := 10) (by omega) (by omega))]
      · have ez : (if twoB k then z else -1) = if twoB k then nI b else -1 := by
          by_cases t2 : twoB k = true
          · rw [if_pos t2, if_pos t2, (hb t2).2.1]
          · rw [if_neg t2, if_neg t2]
        rw [ez] at c4 d4
        exact node_new hS hnS hf hH hT hN hQ hA hC (by omega) hk28 h6 ha (fun t2 => (hb t2).1) ua (fun t2 => (hb t2).2.2.1) (fun t2 => (hb t2).2.2.2) (by rw [← hw]; exact tkB_tk ht) hag c4 d4 c2 c3 d2 d3
    · refine ⟨-1, q, r, ?_, ?_, hsim⟩
      · rw [if_neg ht, if_pos rfl]
      · rw [if_neg ht, if_pos rfl]
  have lTa : nT r a < 4 := by omega
  by_cases t2 : twoB k = true
  · have z1 : (if twoB k = true then (2 : Int32) else 1) = 2 := if_pos t2
    have z2 : (if twoB k = true then (1 : Int32) else 0) = 1 := if_pos t2
    rw [z1, z2, if_pos rfl, if_neg i1]
    unfold f_X2_addComputed_22
    rw [if_pos rfl]
    rcases free_eq hN z with ⟨fa, fb⟩ | ⟨fa, fb, b, hb, rfl, ub⟩
    · refine ⟨-1, q, r, ?_, ?_, hsim⟩
      · rw [fa]; rfl
      · rw [fb]; rfl
    rw [fa, fb]
    simp only [Option.bind_some, if_neg i1]
    by_cases eab : a = b
    · subst eab
      refine ⟨-1, q, r, ?_, ?_, hsim⟩
      · rw [if_pos rfl]
      · rw [if_pos rfl]
    rw [if_neg (fun h => eab (nI_inj (by omega) (by omega) h)), if_neg (fun h => eab (nI_inj (by omega) (by omega) h))]
    obtain ⟨cb1, cb2, cb3, cb4, cb5, cb6, -⟩ := hN.2.2.2 b hb
    unfold f_X10_node_69
    rw [rd_nI (f := qI r 14) (by omega) (by decide), rd_nI (f := qI r 14) (by omega) (by decide), ca5, cb5]
    simp only [Option.bind_some, if_neg i1]
    have kk := key b (nT r b) (fun _ => ⟨hb, rfl, ub, eab⟩) (by rw [if_pos t2])
    have z3 : ∀ u v : Int32, (if twoB k = true then u else v) = u := fun u v => if_pos t2
    rw [z3, z3, z3] at kk
    refine kk ?_ ?_
    · rw [tf_two (by omega) (by omega) ca6 cb6]
      exact (tf_two2 hk28 lTa (by omega) h6 t2).1
    · exact (tf_two2 hk28 lTa (by omega) h6 t2).2
  · have t2' : twoB k = false := by cases h : twoB k; rfl; exact absurd h t2
    have z1 : (if twoB k = true then (2 : Int32) else 1) = 1 := if_neg t2
    have z2 : (if twoB k = true then (1 : Int32) else 0) = 0 := if_neg t2
    rw [z1, z2, if_neg (by decide), if_pos rfl]
    unfold f_X2_addComputed_22
    rw [if_neg (by decide)]
    unfold f_X10_node_69
    rw [rd_nI (f := qI r 14) (by omega) (by decide), ca5]
    simp only [Option.bind_some, if_true]
    have kk := key 0 0 (fun h => absurd h t2) (by rw [if_neg t2])
    have z3 : ∀ u v : Int32, (if twoB k = true then u else v) = v := fun u v => if_neg t2
    rw [z3, z3, z3] at kk
    refine kk ?_ ?_
    · rw [tf_one (by omega) ca6]
      exact (tf_one2 hk28 lTa h6 t2').1
    · exact (tf_one2 hk28 lTa h6 t2').2
