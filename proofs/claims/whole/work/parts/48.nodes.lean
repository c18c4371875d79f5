/-! a new node on both sides -/
def NodeC (q q' : QS) (N : Nat) (k t x y g : Int32) (U : Nat → Int32) : Prop := (∀ z, (z < 30 ∨ 37 < z) → qI q' z = qI q z) ∧ qL q' = qL q ∧ (∀ z, z ≠ 2 → qF q' z = qF q z) ∧ qC q' = qC q ∧ qF q' 2 = nI (N + 1) ∧ (∀ z j, 30 ≤ z → z ≤ 36 → j ≠ N → qI q' z j = qI q z j) ∧ qI q' 30 N = k ∧ qI q' 31 N = t ∧ qI q' 32 N = x ∧ qI q' 33 N = y ∧ qI q' 36 N = g ∧ qI q' 37 N = 0 ∧ ∀ j, j ≠ N → qI q' 37 j = U j
def NodeR (r r' : QS) (N : Nat) (k x y t g : Int32) (U : Nat → Int32) : Prop := (∀ z, (z < 11 ∨ 16 < z) → qI r' z = qI r z) ∧ qL r' = qL r ∧ (∀ z, z ≠ 2 → qF r' z = qF r z) ∧ qF r' 2 = nI (N + 1) ∧ (∀ z j, 11 ≤ z → z ≤ 15 → j ≠ N → qI r' z j = qI r z j) ∧ qI r' 11 N = k ∧ qI r' 12 N = x ∧ qI r' 13 N = y ∧ qI r' 14 N = t ∧ qI r' 15 N = g ∧ qI r' 16 N = 0 ∧ ∀ j, j ≠ N → qI r' 16 j = U j
theorem Sim_node {κ n : Nat} {q r q1 q' r' : QS} {S T N I G O K I' : Nat} {k t x y g k' t' x' y' g' : Int32} {U U' : Nat → Int32} (hS : SOk r S) (hn : S ≤ n) (hf : qF r 0 = nI S) (hH : SimH q r S) (hT : SimT q r S T) (hN : SimN q r S T N) (hQ : SimQ q r N I G O) (hA : SimA q r K I') (hC : SimC κ q) (hlt : N < 200)
    (nc : NodeC q q1 N k t x y g U) (oc : Oc 2 N q1 q') (nr : NodeR r r' N k' x' y' t' g' U') (hU : ∀ j, j < N → (U' j = 0 ∨ U' j = 1) ∧ U j = U' j ∧ (qI r 16 j = 1 → U' j = 1)) (hnew : SameTo S r r' → (∀ i, i < N → nT r' i = nT r i ∧ qI r' 15 i = qI r 15 i) → (tW r' = tW r ∧ tY r' = tY r) → NodOk q' r' S T N) : Sim κ n q' r' := by
  obtain ⟨a1, a2, a3, a4, a5, a6, -, -, -, -, -, a7, a8⟩ := nc
  obtain ⟨b1, b2, b3, b5, b6, -, -, -, -, -, b7, b8⟩ := nr
  obtain ⟨o1, o2, o3, o4, o5, o6⟩ := id oc
  have gq : ∀ z, (z < 30 ∨ 37 < z) → z ≠ 7 → qI q' z = qI q z := fun z h1 h2 => by rw [o1 z h2, a1 z h1]
  have gl : ∀ z, z ≠ 8 → qL q' z = qL q z := fun z h => by rw [o3 z h, a2]
  have gf : ∀ z, z ≠ 2 → qF q' z = qF q z := fun z h => by rw [o5, a3 z h]
  have hto : SameTo S r r' := fun s _ => ⟨by rw [b1 1 (by decide)], by rw [b1 3 (by decide)], by rw [b1 4 (by decide)], by rw [b1 5 (by decide)], by rw [b2]⟩
  have e1 : tW r' = tW r := by funext t; unfold tW; rw [b1 7 (by decide)]
  have e2 : tY r' = tY r := by funext t c; unfold tY; rw [b1 8 (by decide)]
  have m4 : ∀ i, i < N → nT r' i = nT r i := fun i hi => by unfold nT; rw [b6 14 i (by decide) (by decide) (by omega)]
  have m1 : ∀ i, i < N → nK r' i = nK r i := fun i hi => by unfold nK; rw [b6 11 i (by decide) (by decide) (by omega)]
  have m5 : ∀ i, i < N → qI r' 15 i = qI r 15 i := fun i hi => b6 15 i (by decide) (by decide) (by omega)
  have hN' : SimN q' r' S T (N + 1) := by
    refine ⟨by omega, by rw [o5, a5], b5, fun i hi => ?_⟩
    by_cases e : i = N
    · subst e; exact hnew hto (fun i hi => ⟨m4 i hi, m5 i hi⟩) ⟨e1, e2⟩
    · refine (hN.2.2.2 i (by omega)).at hS hto (Nat.le_refl T) (fun t ht => ⟨by rw [e1], (hT.2.2.2 t ht).2.1, fun c _ => by rw [e2]⟩) (fun z j h1 h2 hj => b6 z j h1 h2 (by omega)) (fun z h1 h2 => by rw [o1 z (by omega), a6 z i h1 h2 e]) ?_ (fun j hj h => by rw [b8 j (by omega)]; exact (hU j (by omega)).2.2 h) (fun s hs => VC.other oc (Or.inr e) (VC_congr (v := 2) (a1 7 (by decide)) (by rw [a2]) hs))
      rw [b8 i e, o1 37 (by decide), a8 i e]
      exact ⟨(hU i (by omega)).1, (hU i (by omega)).2.1⟩
  refine ⟨S, T, N + 1, I, G, O, K, I', to_SOk hto hS, hn, by rw [b3 0 (by decide)]; exact hf, hH.congr hS hto (b1 6 (by decide)) (gq 1 (by decide) (by decide)) (gl 2 (by decide)), hT.congr hS hto (b3 1 (by decide)) (gf 14 (by decide)) (b1 7 (by decide)) (b1 8 (by decide)) (b1 9 (by decide)) (b1 10 (by decide)) (gq 26 (by decide) (by decide)) (gq 27 (by decide) (by decide)) (gq 28 (by decide) (by decide)) (gq 4 (by decide) (by decide)) (gl 5 (by decide)), hN', ?_, hA.congr (b3 11 (by decide)) (b3 12 (by decide)) (gf 0 (by decide)) (gf 1 (by decide)) (b1 38 (by decide)) (by rw [b2]) (b1 40 (by decide)) (by rw [b2]) (gq 10 (by decide) (by decide)) (gl 11 (by decide)), hC.congr (gf 12 (by decide)) (by rw [o6, a4])⟩
  unfold SimQ condOk at hQ ⊢
  rw [b3 3 (by decide), b3 4 (by decide), b3 5 (by decide), b3 6 (by decide), b3 7 (by decide), b3 8 (by decide), gf 6 (by decide), gf 7 (by decide), gf 8 (by decide), gf 9 (by decide), gf 10 (by decide), gf 11 (by decide), b1 26 (by decide), b1 27 (by decide), b1 28 (by decide), b1 29 (by decide), gq 39 (by decide) (by decide), gq 40 (by decide) (by decide), gq 41 (by decide) (by decide), gq 42 (by decide) (by decide), gq 43 (by decide) (by decide)]
  obtain ⟨h1, h2, h3, h4, h5, h6, h7, h8, h9, h10, h11, h12, h13, h14, h15⟩ := hQ
  refine ⟨h1, h2, h3, fun j hj => ⟨by have := (h4 j hj).1; omega, (h4 j hj).2⟩, h5, h6, h7, fun j hj => ?_, h9, h10, h11, h12, h13, ?_, h15⟩
  · obtain ⟨z1, z2, z3, z4, z5⟩ := h8 j hj
    rw [m1 _ z1, b6 12 _ (by decide) (by decide) (by omega), b6 13 _ (by decide) (by decide) (by omega)]
    exact ⟨by omega, z2, z3, z4, z5⟩
  · rcases h14 with h | ⟨i, z1, z2, z3, z4⟩
    · exact Or.inl h
    · refine Or.inr ⟨i, by omega, z2, ?_, ?_⟩
      · rw [m4 i z1]; exact z3
      · rw [m5 i z1]; exact z4
theorem c_app {q : QS} {N : Nat} (hN : qF q 2 = nI N) (h : N < 200) (k t x y : Int32) : ∃ q', f_X2_append q k t x y = some (nI N, q') ∧ NodeC q q' N k t x y 0 (qI q 37) ∧ qI q' 34 = qI q 34 ∧ qI q' 35 = qI q 35 := by
  unfold f_X2_append f_X2_append_0
  rw [hN, sf0, wI_nI h (by decide), Option.bind_some, wI_nI h (by decide), Option.bind_some, wI_nI h (by decide), Option.bind_some, wI_nI h (by decide), Option.bind_some, wI_nI h (by decide), Option.bind_some, wI_nI h (by decide), Option.bind_some]
  rw [show qF (uI (uI (uI (uI (uI (uI q 30 N k) 31 N t) 32 N x) 33 N y) 36 N 0) 37 N 0) 2 = nI N from hN, nI_1]
  refine ⟨_, rfl, ⟨fun z hz => ?_, rfl, fun z hz => ?_, rfl, rfl, fun z j h1 h2 hj => ?_, ?_, ?_, ?_, ?_, ?_, ?_, fun j hj => ?_⟩, ?_, ?_⟩
  · rw [qI_uF, qI_uI, if_neg (by omega), qI_uI, if_neg (by omega), qI_uI, if_neg (by omega), qI_uI, if_neg (by omega), qI_uI, if_neg (by omega), qI_uI, if_neg (by omega)]
  · rw [qF_uF, if_neg hz]; rfl
  · have hu : ∀ (f : Nat → Int32) v, upd f N v j = f j := fun f v => by rw [upd_at, if_neg hj]
    rw [qI_uF, qI_uI, if_neg (by omega), qI_uI]
    split
    · rename_i e; rw [hu, qI_uI, if_neg (by omega), qI_uI, if_neg (by omega), qI_uI, if_neg (by omega), qI_uI, if_neg (by omega), e]
    · rw [qI_uI]
      split
      · rename_i e; rw [hu, qI_uI, if_neg (by omega), qI_uI, if_neg (by omega), qI_uI, if_neg (by omega), e]
      · rw [qI_uI]
        split
        · rename_i e; rw [hu, qI_uI, if_neg (by omega), qI_uI, if_neg (by omega), e]
        · rw [qI_uI]
          split
          · rename_i e; rw [hu, qI_uI, if_neg (by omega), e]
          · rw [qI_uI]
            split
            · rename_i e; rw [hu, e]
            · rfl
  · rw [qI_uF, qI_uI, if_neg (by decide), qI_uI, if_neg (by decide), qI_uI, if_neg (by decide), qI_uI, if_neg (by decide), qI_uI, if_neg (by decide), qI_uI, if_pos rfl, upd_at, if_pos rfl]
  · rw [qI_uF, qI_uI, if_neg (by decide), qI_uI, if_neg (by decide), qI_uI, if_neg (by decide), qI_uI, if_neg (by decide), qI_uI, if_pos rfl, upd_at, if_pos rfl]
  · rw [qI_uF, qI_uI, if_neg (by decide), qI_uI, if_neg (by decide), qI_uI, if_neg (by decide), qI_uI, if_pos rfl, upd_at, if_pos rfl]
  · rw [qI_uF, qI_uI, if_neg (by decide), qI_uI, if_neg (by decide), qI_uI, if_pos rfl, upd_at, if_pos rfl]
  · rw [qI_uF, qI_uI, if_neg (by decide), qI_uI, if_pos rfl, upd_at, if_pos rfl]
  · rw [qI_uF, qI_uI, if_pos rfl, upd_at, if_pos rfl]
  · rw [qI_uF, qI_uI, if_pos rfl, upd_at, if_neg hj]; rfl
  · rfl
  · rfl
theorem r_made {r : QS} {N : Nat} (hN : qF r 2 = nI N) (h : N < 200) (k x y t g : Int32) (hg : g = 0 ∨ g = 1) : ∃ r', f_X10_made r k x y t g = some (nI N, r') ∧ NodeR r r' N k x y t g (qI r 16) := by
  have hng : vp_nar .boolean g = g := by rcases hg with h | h <;> rw [h] <;> rfl
  unfold f_X10_made f_X10_made_0
  rw [hN, sf0, hng, wI_nI h (by decide), Option.bind_some]
  rw [show qF (uI r 11 N k) 2 = nI N from hN, wI_nI h (by decide), Option.bind_some]
  rw [show qF (uI (uI r 11 N k) 12 N x) 2 = nI N from hN, wI_nI h (by decide), Option.bind_some]
  rw [show qF (uI (uI (uI r 11 N k) 12 N x) 13 N y) 2 = nI N from hN, wI_nI h (by decide), Option.bind_some]
  rw [show qF (uI (uI (uI (uI r 11 N k) 12 N x) 13 N y) 14 N t) 2 = nI N from hN, wI_nI h (by decide), Option.bind_some]
  rw [show qF (uI (uI (uI (uI (uI r 11 N k) 12 N x) 13 N y) 14 N t) 15 N g) 2 = nI N from hN, wI_nI h (by decide), Option.bind_some]
  rw [show qF (uI (uI (uI (uI (uI (uI r 11 N k) 12 N x) 13 N y) 14 N t) 15 N g) 16 N 0) 2 = nI N from hN, nI_1, qF_uF, if_pos rfl, nI_pred]
  refine ⟨_, rfl, ⟨fun z hz => ?_, rfl, fun z hz => ?_, rfl, fun z j h1 h2 hj => ?_, ?_, ?_, ?_, ?_, ?_, ?_, fun j hj => ?_⟩⟩
  · rw [qI_uF, qI_uI, if_neg (by omega), qI_uI, if_neg (by omega), qI_uI, if_neg (by omega), qI_uI, if_neg (by omega), qI_uI, if_neg (by omega), qI_uI, if_neg (by omega)]
  · rw [qF_uF, if_neg hz]; rfl
  · have hu : ∀ (f : Nat → Int32) v, upd f N v j = f j := fun f v => by rw [upd_at, if_neg hj]
    rw [qI_uF, qI_uI, if_neg (by omega), qI_uI]
    split
    · rename_i e; rw [hu, qI_uI, if_neg (by omega), qI_uI, if_neg (by omega), qI_uI, if_neg (by omega), qI_uI, if_neg (by omega), e]
    · rw [qI_uI]
      split
      · rename_i e; rw [hu, qI_uI, if_neg (by omega), qI_uI, if_neg (by omega), qI_uI, if_neg (by omega), e]
      · rw [qI_uI]
        split
        · rename_i e; rw [hu, qI_uI, if_neg (by omega), qI_uI, if_neg (by omega), e]
        · rw [qI_uI]
          split
          · rename_i e; rw [hu, qI_uI, if_neg (by omega), e]
          · rw [qI_uI]
            split
            · rename_i e; rw [hu, e]
            · rfl
  · rw [qI_uF, qI_uI, if_neg (by decide), qI_uI, if_neg (by decide), qI_uI, if_neg (by decide), qI_uI, if_neg (by decide), qI_uI, if_neg (by decide), qI_uI, if_pos rfl, upd_at, if_pos rfl]
  · rw [qI_uF, qI_uI, if_neg (by decide), qI_uI, if_neg (by decide), qI_uI, if_neg (by decide), qI_uI, if_neg (by decide), qI_uI, if_pos rfl, upd_at, if_pos rfl]
  · rw [qI_uF, qI_uI, if_neg (by decide), qI_uI, if_neg (by decide), qI_uI, if_neg (by decide), qI_uI, if_pos rfl, upd_at, if_pos rfl]
  · rw [qI_uF, qI_uI, if_neg (by decide), qI_uI, if_neg (by decide), qI_uI, if_pos rfl, upd_at, if_pos rfl]
  · rw [qI_uF, qI_uI, if_neg (by decide), qI_uI, if_pos rfl, upd_at, if_pos rfl]
  · rw [qI_uF, qI_uI, if_pos rfl, upd_at, if_pos rfl]
  · rw [qI_uF, qI_uI, if_pos rfl, upd_at, if_neg hj]; rfl
/-! constant -/
theorem used_ok {q r : QS} {S T N : Nat} (hN : SimN q r S T N) : ∀ j, j < N → (qI r 16 j = 0 ∨ qI r 16 j = 1) ∧ qI q 37 j = qI r 16 j ∧ (qI r 16 j = 1 → qI r 16 j = 1) := fun j hj => ⟨(hN.2.2.2 j hj).2.2.2.2.2.2.2.2.1, (hN.2.2.2 j hj).2.2.2.2.2.2.2.2.2.1, fun h => h⟩
theorem full_c {q : QS} {N : Nat} (h : qF q 2 = nI N) (hN : N ≤ 200) : f_X2_isFull q = some (if N < 200 then 0 else 1) := by
  unfold f_X2_isFull f_X2_isFull_0
  rw [h]
  by_cases e : N < 200
  · rw [if_pos e, if_pos (show nI N < (200 : Int32) from nI_lt (b := 200) e (by decide))]
  · rw [if_neg e, if_neg (show ¬ nI N < (200 : Int32) from fun z => e (by rw [i32_lt, nI_toInt (by omega)] at z; have : (200 : Int32).toInt = 200 := rfl; omega))]
theorem st_8 {κ n : Nat} {q r : QS} (h : Sim κ n q r) : ∃ a q' r', f_X9_constant q = some (a, q') ∧ f_X10_constant r = some (a, r') ∧ Sim κ n q' r' := by
  have hsim := h
  obtain ⟨S, T, N, I, G, O, K, I', hS, hnS, hf, hH, hT, hN, hQ, hA, hC⟩ := h
  have hS1 := hS.1
  have h200 := hN.1
  unfold f_X9_constant f_X9_constant_0 f_X10_constant f_X10_constant_0
  rw [full_c hN.2.1 h200, hN.2.2.1]
  by_cases e : N = 200
  · subst e
    refine ⟨-1, q, r, ?_, ?_, hsim⟩
    · rw [if_neg (by decide)]; rfl
    · rw [if_pos (show nI 200 = (200 : Int32) from rfl)]
  rw [if_pos (show N < 200 by omega), if_neg (show ¬ nI N = (200 : Int32) from cNe (c := 200) e (by omega) (by decide))]
  obtain ⟨s1, s2, s3⟩ := hs_eq hS hH (c := 0) (by decide)
  obtain ⟨o1, o2⟩ := sv_ok hS s1
  have hk := (hS.2.1 _ s1).2.2.2.1
  have hk4 := (hS.2.1 _ s1).2.2.2.2.2.2.1
  unfold f_X2_addConstant f_X2_addConstant_0
  have hq1 : qI q 1 0 = nI (sK r (hs r 0)) := by rw [← o2]; exact s3.1
  have rd1 : rd (qI q 1) 8 0 = some (nI (sK r (hs r 0))) := by rw [show (0 : Int32) = nI 0 from rfl, rd_nI (by decide) (by decide), hq1]
  have rd6 : rd (qI r 6) 8 0 = some (nI (hs r 0)) := by rw [show (0 : Int32) = nI 0 from rfl, rd_nI (by decide) (by decide), s2]
  have rd2 : rd (qI r 1) 520 (nI (hs r 0)) = some (nI (sK r (hs r 0))) := by rw [rd_nI (by omega) (by decide), hk]
  obtain ⟨q1, a1, a2, a3, a4⟩ := c_app hN.2.1 (show N < 200 by omega) (nI (sK r (hs r 0))) (nI (sK r (hs r 0))) (-1) (-1)
  obtain ⟨q', c1, c2, c3⟩ := v_copy (q := q1) (v := 2) (u := 0) (i := N) (j := 0) (VC_congr (v := 0) (a2.1 1 (by decide)) (by rw [a2.2.1]) s3) (vOk_k o1) (show N < 200 by omega) (by show 200 < 20000; decide) (show 0 < 8 by decide) (by show 8 < 20000; decide)
  have c1' : f_X8_copy 2 0 q1 (nI N) 0 = some q' := c1
  obtain ⟨r', b1, b2⟩ := r_made hN.2.2.1 (show N < 200 by omega) (nI (sK r (hs r 0))) (nI (hs r 0)) 0 (nI (sK r (hs r 0))) 0 (Or.inl rfl)
  refine ⟨nI N, q', r', ?_, ?_, ?_⟩
  · rw [Option.bind_some, if_pos rfl, rd1]
    simp only [Option.bind_some]
    rw [a1]
    simp only [Option.bind_some]
    rw [c1']
    rfl
  · rw [rd6]
    simp only [Option.bind_some]
    rw [rd2]
    simp only [Option.bind_some]
    rw [b1]
    rfl
  · refine Sim_node hS hnS hf hH hT hN hQ hA hC (by omega) a2 c3 b2 (used_ok hN) (fun hto h1 h2 => ?_)
    obtain ⟨-, -, -, -, -, x6, x7, x8, x9, x10, x11, x12, -⟩ := a2
    obtain ⟨-, -, -, -, y6, y7, y8, y9, y10, y11, y12, -⟩ := b2
    have w1 : nK r' N = sK r (hs r 0) := by unfold nK; rw [y7]; exact nt_nI (by omega)
    have w2 : nT r' N = sK r (hs r 0) := by unfold nT; rw [y10]; exact nt_nI (by omega)
    have w3 : nA r' N = hs r 0 := by unfold nA; rw [y8]; exact nt_nI (by omega)
    unfold NodOk
    rw [w1, w2, w3, y7, y8, y10, y11, y12, c3.1 30 (by decide), c3.1 31 (by decide), c3.1 32 (by decide), c3.1 33 (by decide), c3.1 36 (by decide), c3.1 37 (by decide), x7, x8, x9, x10, x11, x12]
    refine ⟨by omega, rfl, rfl, by omega, rfl, rfl, Or.inl rfl, rfl, Or.inl rfl, rfl, fun _ => ⟨rfl, rfl, ⟨hs r 0, s1, rfl, ?_⟩, to_sK hto s1, rfl, rfl⟩, fun z => by omega, fun z => by omega, fun z => by omega⟩
    rw [to_sv hto hS s1]
    exact c2
theorem st_7 {κ n : Nat} {q r : QS} (h : Sim κ n q r) (x y : Int32) : ∃ a q' r', f_X9_column q x y = some (a, q') ∧ f_X10_column r x y = some (a, r') ∧ Sim κ n q' r' := by
  have hsim := h
  obtain ⟨S, T, N, I, G, O, K, I', hS, hnS, hf, hH, hT, hN, hQ, hA, hC⟩ := h
  obtain ⟨t1, t2, t3, t4⟩ := id hT
  have h200 := hN.1
  unfold f_X9_column f_X9_column_0 f_X10_column f_X10_column_0 f_X7_hasColumn f_X7_hasColumn_0 f_X7_has f_X7_has_0
  rw [full_c hN.2.1 h200, hN.2.2.1, t2, t3]
  rcases ix_cases x T (by omega) with hx | ⟨t, ht, rfl⟩
  · refine ⟨-1, q, r, ?_, ?_, hsim⟩
    · by_cases h0 : x < 0
      · rw [if_pos h0]; rfl
      · rw [if_neg h0, if_pos (hx.resolve_left h0)]; rfl
    · rw [in_no (by omega) hx, Option.bind_some, if_pos rfl]; split <;> rfl
  rw [if_neg (nI_pos (by omega)), if_neg (nI_ge ht (by omega)), in_yes (by omega) ht]
  simp only [Option.bind_some, if_neg i1]
  obtain ⟨b1, b2, b3, b4, b5, b6, b7, b8, b9⟩ := t4 t ht
  rw [rd_nI (f := qI q 26) (by omega) (by decide), rd_nI (f := qI r 7) (by omega) (by decide), b4, b5]
  simp only [Option.bind_some]
  rcases ix_cases y (tW r t) (by omega) with hy | ⟨c, hc, rfl⟩
  · refine ⟨-1, q, r, ?_, ?_, hsim⟩
    · by_cases h0 : y < 0
      · rw [if_pos h0]; rfl
      · rw [if_neg h0, if_pos (hy.resolve_left h0)]; rfl
    · rw [in_no (by omega) hy, Option.bind_some, if_pos rfl]; split <;> rfl
  rw [if_neg (nI_pos (by omega)), if_neg (nI_ge hc (by omega)), in_yes (by omega) hc]
  simp only [Option.bind_some, if_neg i1]
  obtain ⟨y1, y2, y3, y4⟩ := b8 c hc
  by_cases e : N = 200
  · subst e
    refine ⟨-1, q, r, ?_, ?_, hsim⟩
    · rw [if_neg (by decide)]
    · rw [if_pos (show nI 200 = (200 : Int32) from rfl)]
  unfold f_X7_typeOf f_X7_typeOf_0 f_X2_addColumn f_X2_addColumn_0
  obtain ⟨q1, a1, a2, a3, a4⟩ := c_app hN.2.1 (show N < 200 by omega) 4 (nI (tY r t c)) (-1) (-1)
  obtain ⟨r', d1, d2⟩ := r_made hN.2.2.1 (show N < 200 by omega) 4 (nI t) (nI c) (nI (tY r t c)) 0 (Or.inl rfl)
  refine ⟨nI N, uI (uI q1 34 N (nI t)) 35 N (nI c), r', ?_, ?_, ?_⟩
  · rw [if_pos (show N < 200 by omega), if_pos rfl, nI_lit8, nI_add, rd_nI (by omega) (by decide), y4]
    simp only [Option.bind_some]
    rw [a1]
    simp only [Option.bind_some]
    rw [wI_nI (show N < 200 by omega) (by decide)]
    simp only [Option.bind_some]
    rw [wI_nI (show N < 200 by omega) (by decide)]
    simp only [Option.bind_some]
  · rw [if_neg (show ¬ nI N = (200 : Int32) from cNe (c := 200) e (by omega) (by decide)), lit8_nI, nI_add, rd_nI (by omega) (by decide), y3]
    simp only [Option.bind_some]
    rw [d1]
    simp only [Option.bind_some]
  · obtain ⟨x1, x2, x3, x4, x5, x6, x7, x8, x9, x10, x11, x12, x13⟩ := a2
    have nc : NodeC q (uI (uI q1 34 N (nI t)) 35 N (nI c)) N 4 (nI (tY r t c)) (-1) (-1) 0 (qI q 37) := by
      refine ⟨fun z hz => ?_, x2, x3, x4, x5, fun z j h1 h2 hj => ?_, x7, x8, x9, x10, x11, x12, x13⟩
      · rw [qI_uI, if_neg (by omega), qI_uI, if_neg (by omega), x1 z hz]
      · rw [qI_uI]
        split
        · rename_i e2; rw [upd_at, if_neg hj, qI_uI, if_neg (by decide), x6 35 j (by decide) (by decide) hj, e2]
        · rw [qI_uI]
          split
          · rename_i e2; rw [upd_at, if_neg hj, x6 34 j (by decide) (by decide) hj, e2]
          · exact x6 z j h1 h2 hj
    refine Sim_node hS hnS hf hH hT hN hQ hA hC (by omega) nc Oc.rfl d2 (used_ok hN) (fun hto h1 h2 => ?_)
    obtain ⟨-, -, -, -, -, x6, x7, x8, x9, x10, x11, x12, -⟩ := nc
    obtain ⟨-, -, -, -, y6, y7, y8, y9, y10, y11, y12, -⟩ := d2
    have w1 : nK r' N = 4 := by unfold nK; rw [y7]; rfl
    have w2 : nT r' N = tY r t c := by unfold nT; rw [y10]; exact nt_nI (by omega)
    have w3 : nA r' N = t := by unfold nA; rw [y8]; exact nt_nI (by omega)
    have w4 : nB r' N = c := by unfold nB; rw [y9]; exact nt_nI (by omega)
    unfold NodOk
    rw [w1, w2, w3, w4, y7, y8, y9, y10, y11, y12, x7, x8, x9, x10, x11, x12, h2.1, h2.2]
    refine ⟨by omega, rfl, rfl, by omega, rfl, rfl, Or.inl rfl, rfl, Or.inl rfl, rfl, fun z => by omega, fun _ => ⟨rfl, ht, hc, rfl, rfl, ?_, ?_, rfl, rfl, rfl⟩, fun z => by omega, fun z => by omega⟩
    · rw [qI_uI, if_neg (by decide), qI_uI, if_pos rfl, upd_at, if_pos rfl]
    · rw [qI_uI, if_pos rfl, upd_at, if_pos rfl]
