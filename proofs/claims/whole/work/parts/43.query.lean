theorem uF_self (q : QS) (k : Nat) : uF q k (qF q k) = q := by
  have : (fun j => if j = k then qF q k else q.2.2.1 j) = q.2.2.1 := by
    funext j
    by_cases h : j = k
    · rw [if_pos h, h]; rfl
    · rw [if_neg h]
  unfold uF
  rw [this]
theorem has_no {q : QS} {N : Nat} {x : Int32} (hN : qF q 2 = nI N) (h : x < 0 ∨ nI N ≤ x) : f_X2_has q x = some 0 := by
  unfold f_X2_has f_X2_has_0
  by_cases h0 : x < 0
  · rw [if_pos h0]
  · rw [if_neg h0, hN, if_pos (h.resolve_left h0)]
theorem has_yes {q : QS} {N i : Nat} (hN : qF q 2 = nI N) (h : i < N) (hN2 : N < 2 ^ 31) : f_X2_has q (nI i) = some 1 := by
  unfold f_X2_has f_X2_has_0
  rw [if_neg (nI_pos (by omega)), hN, if_neg (nI_ge h hN2)]
/-! the readers -/
theorem i1 : ¬ (1 : Int32) = 0 := by decide
theorem st_10 {κ n : Nat} {q r : QS} (h : Sim κ n q r) (x : Int32) : ∃ v, f_X9_type q x = some v ∧ f_X10_type r x = some v := by
  obtain ⟨S, T, N, I, G, O, K, I', hS, hnS, hf, hH, hT, hN, hQ, hA, hC⟩ := h
  unfold f_X9_type f_X9_type_0 f_X10_type f_X10_type_0
  have h200 := hN.1
  rcases ix_cases x N (by omega) with hx | ⟨i, hi, rfl⟩
  · refine ⟨-1, ?_, ?_⟩
    · rw [has_no hN.2.1 hx, Option.bind_some, if_pos rfl]
    · rw [hN.2.2.1, in_no (by omega) hx, Option.bind_some, if_pos rfl]
  · obtain ⟨a1, a2, a3, a4, a5, a6, a7, a8, -⟩ := hN.2.2.2 i hi
    refine ⟨if qI r 15 i = 0 then nI (nT r i) + 0 else nI (nT r i) + 10, ?_, ?_⟩
    · rw [has_yes hN.2.1 hi (by omega), Option.bind_some, if_neg i1, rd_nI (by omega) (by decide), Option.bind_some, rd_nI (by omega) (by decide), Option.bind_some, a6, a8]
      by_cases z : qI r 15 i = 0
      · rw [if_pos z, if_pos z]
      · rw [if_neg z, if_neg z]
    · rw [hN.2.2.1, in_yes (by omega) hi, Option.bind_some, if_neg i1, rd_nI (by omega) (by decide), Option.bind_some, rd_nI (by omega) (by decide), Option.bind_some, a5]
      by_cases z : qI r 15 i = 0
      · rw [if_pos z, if_pos z]
      · rw [if_neg z, if_neg z]
/-- a kept place, or none, on both sides -/
theorem kept_no {q r : QS} {K I : Nat} (hA : SimA q r K I) {x y : Int32} (h : (x < 0 ∨ nI K ≤ x) ∨ (y < 0 ∨ nI I ≤ y)) : f_X0_has q x y = some 0 ∧ f_X10_isKept r x y = some 0 := by
  obtain ⟨a1, a2, a3, a4, a5, a6, -⟩ := hA
  unfold f_X0_has f_X0_has_0 f_X10_isKept f_X10_isKept_0
  rw [a3, a4, a5, a6]
  rcases ix_cases x K (by omega) with hx | ⟨i, hi, rfl⟩
  · refine ⟨?_, ?_⟩
    · by_cases h0 : x < 0
      · rw [if_pos h0]
      · rw [if_neg h0, if_pos (hx.resolve_left h0)]
    · rw [in_no (by omega) hx, Option.bind_some, if_pos rfl]
  · have hy : y < 0 ∨ nI I ≤ y := by
      rcases h with h | h
      · rcases h with h | h
        · exact absurd h (nI_pos (by omega))
        · exact absurd h (nI_ge hi (by omega))
      · exact h
    refine ⟨?_, ?_⟩
    · rw [if_neg (nI_pos (by omega)), if_neg (nI_ge hi (by omega))]
      by_cases h0 : y < 0
      · rw [if_pos h0]
      · rw [if_neg h0, if_pos (hy.resolve_left h0)]
    · rw [in_yes (by omega) hi, Option.bind_some, if_neg i1, in_no (by omega) hy, Option.bind_some, if_pos rfl]
theorem kept_yes {q r : QS} {K I : Nat} (hA : SimA q r K I) {i j : Nat} (hi : i < K) (hj : j < I) : f_X0_has q (nI i) (nI j) = some 1 ∧ f_X10_isKept r (nI i) (nI j) = some 1 := by
  obtain ⟨a1, a2, a3, a4, a5, a6, -⟩ := hA
  unfold f_X0_has f_X0_has_0 f_X10_isKept f_X10_isKept_0
  rw [a3, a4, a5, a6]
  refine ⟨?_, ?_⟩
  · rw [if_neg (nI_pos (by omega)), if_neg (nI_ge hi (by omega)), if_neg (nI_pos (by omega)), if_neg (nI_ge hj (by omega))]
  · rw [in_yes (by omega) hi, Option.bind_some, if_neg i1, in_yes (by omega) hj, Option.bind_some, if_neg i1]
theorem kept_cases {q r : QS} {K I : Nat} (hA : SimA q r K I) (x y : Int32) : ((x < 0 ∨ nI K ≤ x) ∨ (y < 0 ∨ nI I ≤ y)) ∨ ∃ i j, i < K ∧ j < I ∧ x = nI i ∧ y = nI j := by
  have a1 := hA.1
  have a2 := hA.2.1
  rcases ix_cases x K (by omega) with hx | ⟨i, hi, rfl⟩
  · exact Or.inl (Or.inl hx)
  · rcases ix_cases y I (by omega) with hy | ⟨j, hj, rfl⟩
    · exact Or.inl (Or.inr hy)
    · exact Or.inr ⟨i, j, hi, hj, rfl, rfl⟩
theorem st_18 {κ n : Nat} {q r : QS} (h : Sim κ n q r) (x y : Int32) : ∃ v, f_X9_kind q x y = some v ∧ f_X10_kind r x y = some v := by
  obtain ⟨S, T, N, I, G, O, K, I', hS, hnS, hf, hH, hT, hN, hQ, hA, hC⟩ := h
  unfold f_X9_kind f_X9_kind_0 f_X10_kind f_X10_kind_0 f_X0_placeOf f_X0_placeOf_0
  rcases kept_cases hA x y with hxy | ⟨i, j, hi, hj, rfl, rfl⟩
  · refine ⟨-1, ?_, ?_⟩
    · rw [(kept_no hA hxy).1, Option.bind_some, if_pos rfl]
    · rw [(kept_no hA hxy).2, Option.bind_some, if_pos rfl]
  · have a1 := hA.1
    have a2 := hA.2.1
    obtain ⟨x, b1, b2, b3, b4, b5⟩ := hA.2.2.2.2.2.2 i j hi hj
    have e : qI q 10 (8 * i + j) = nI (vk x) := b2.1
    refine ⟨nI (vk x), ?_, ?_⟩
    · rw [(kept_yes hA hi hj).1, Option.bind_some, if_neg i1, Option.bind_some, nI_lit8, nI_add, rd_nI (by omega) (by decide), Option.bind_some, Nat.mul_comm i 8, e]
    · rw [(kept_yes hA hi hj).2, Option.bind_some, if_neg i1, lit8_nI, nI_add, rd_nI (by omega) (by decide), Option.bind_some, b3]
theorem st_19 {κ n : Nat} {q r : QS} (h : Sim κ n q r) (x y : Int32) : ∃ v, f_X9_value q x y = some v ∧ f_X10_value r x y = some v := by
  obtain ⟨S, T, N, I, G, O, K, I', hS, hnS, hf, hH, hT, hN, hQ, hA, hC⟩ := h
  unfold f_X9_value f_X9_value_0 f_X10_value f_X10_value_0 f_X0_placeOf f_X0_placeOf_0
  rcases kept_cases hA x y with hxy | ⟨i, j, hi, hj, rfl, rfl⟩
  · refine ⟨0, ?_, ?_⟩
    · rw [(kept_no hA hxy).1, Option.bind_some, if_pos rfl]
    · rw [(kept_no hA hxy).2, Option.bind_some, if_pos rfl]
  · have a1 := hA.1
    have a2 := hA.2.1
    obtain ⟨x, b1, b2, b3, b4, b5⟩ := hA.2.2.2.2.2.2 i j hi hj
    have kx := vOk_k b1
    have e : qI q 10 (8 * i + j) = nI (vk x) := b2.1
    rw [(kept_yes hA hi hj).1, (kept_yes hA hi hj).2]
    simp only [Option.bind_some, if_neg i1, nI_lit8, lit8_nI, nI_add, Nat.mul_comm i 8]
    rw [rd_nI (f := qI q 10) (by omega) (by decide), rd_nI (f := qI r 38) (by omega) (by decide), e, b3]
    simp only [Option.bind_some]
    by_cases k0 : vk x = 0
    · rw [k0]; exact ⟨0, rfl, rfl⟩
    · have n0 : ¬ nI (vk x) = (0 : Int32) := cNe (c := 0) k0 (by omega) (by decide)
      simp only [if_neg n0]
      by_cases k2 : vk x = 2
      · obtain ⟨W, len, hTk, rfl⟩ := tx_of b1 k2
        refine ⟨(nI len).toInt64, ?_, ?_⟩
        · rw [k2, if_pos (show nI 2 = (2 : Int32) from rfl), f_lengthOf (v := 3) b2 k2 hTk (by show 8 * i + j < 512; omega) (by show 512 < 20000; decide), Option.bind_some]; rfl
        · rw [k2, if_pos (show nI 2 = (2 : Int32) from rfl), rd_nI (by omega) (by decide), Option.bind_some, (b5 k2).1]; rfl
      · have n2 : ¬ nI (vk x) = (2 : Int32) := cNe (c := 2) k2 (by omega) (by decide)
        refine ⟨vn x, ?_, ?_⟩
        · rw [if_neg n2, f_numberOf (v := 3) b2 (by omega) (by show 8 * i + j < 512; omega) (by show 512 < 20000; decide), Option.bind_some]
        · rw [if_neg n2, rd_nI (by omega) (by decide), Option.bind_some, b4 (by omega)]
theorem st_20 {κ n : Nat} {q r : QS} (h : Sim κ n q r) (x y z : Int32) : ∃ v, f_X9_letter q x y z = some v ∧ f_X10_letter r x y z = some v := by
  obtain ⟨S, T, N, I, G, O, K, I', hS, hnS, hf, hH, hT, hN, hQ, hA, hC⟩ := h
  unfold f_X9_letter f_X9_letter_0 f_X10_letter f_X10_letter_0 f_X0_placeOf f_X0_placeOf_0
  rcases kept_cases hA x y with hxy | ⟨i, j, hi, hj, rfl, rfl⟩
  · refine ⟨-1, ?_, ?_⟩
    · rw [(kept_no hA hxy).1, Option.bind_some, if_pos rfl]
    · rw [(kept_no hA hxy).2, Option.bind_some, if_pos rfl]
  · have a1 := hA.1
    have a2 := hA.2.1
    obtain ⟨x, b1, b2, b3, b4, b5⟩ := hA.2.2.2.2.2.2 i j hi hj
    have kx := vOk_k b1
    have e : qI q 10 (8 * i + j) = nI (vk x) := b2.1
    rw [(kept_yes hA hi hj).1, (kept_yes hA hi hj).2]
    simp only [Option.bind_some, if_neg i1, nI_lit8, lit8_nI, nI_add, Nat.mul_comm i 8]
    rw [rd_nI (f := qI q 10) (by omega) (by decide), rd_nI (f := qI r 38) (by omega) (by decide), e, b3]
    simp only [Option.bind_some]
    by_cases k2 : vk x = 2
    · obtain ⟨W, len, hTk, rfl⟩ := tx_of b1 k2
      have hlen : len ≤ 31 := hTk.1
      have h40 : qI r 40 (8 * i + j) = nI len := (b5 k2).1
      have h41 : ∀ t, t < 4 → qL r 41 (4 * (8 * i + j) + t) = W t := (b5 k2).2
      have hlo := f_lengthOf (v := 3) b2 k2 hTk (by show 8 * i + j < 512; omega) (by show 512 < 20000; decide)
      have hlo : f_X8_lengthOf 3 q (nI (8 * i + j)) = some (nI len) := hlo
      rw [k2, if_pos (show nI 2 = (2 : Int32) from rfl), if_pos (show nI 2 = (2 : Int32) from rfl), hlo, rd_nI (f := qI r 40) (by omega) (by decide), h40]
      simp only [Option.bind_some]
      rcases ix_cases z len (by omega) with hz | ⟨k, hk, rfl⟩
      · refine ⟨-1, ?_, ?_⟩
        · by_cases h0 : z < 0
          · rw [if_pos h0]
          · have h1 := hz.resolve_left h0
            rw [if_neg h0, if_neg (fun w => by rw [i32_lt] at w; rw [i32_le] at h1; omega)]
        · rw [in_no (by omega) hz, Option.bind_some, if_pos rfl]
      · refine ⟨nI (gb W k), ?_, ?_⟩
        · rw [if_neg (nI_pos (by omega)), if_pos (nI_lt hk (by omega)), f_byteOf (v := 3) b2 k2 hTk (by omega) (by show 8 * i + j < 512; omega) (by show 512 < 20000; decide), Option.bind_some]
          rfl
        · rw [in_yes (by omega) hk, Option.bind_some, if_neg i1, sh_b k (by omega), div8 k (by omega), lit4_nI, nI_add, rd_nI (by omega) (by decide), Option.bind_some, h41 _ (by omega), byte_sshr _ (by omega)]
          rfl
    · have n2 : ¬ nI (vk x) = (2 : Int32) := cNe (c := 2) k2 (by omega) (by decide)
      refine ⟨-1, ?_, ?_⟩
      · rw [if_neg n2]
      · rw [if_neg n2]
/-! the query's parts: limit, distinct, where -/
/-- the class's query and the reference's alone have changed -/
def OnlyQ (q q' : QS) : Prop := (∀ k, (k < 39 ∨ 43 < k) → qI q' k = qI q k) ∧ qL q' = qL q ∧ (∀ k, (k < 6 ∨ 11 < k) → qF q' k = qF q k) ∧ qC q' = qC q
def OnlyQr (r r' : QS) : Prop := (∀ k, (k < 26 ∨ 29 < k) → qI r' k = qI r k) ∧ qL r' = qL r ∧ (∀ k, (k < 3 ∨ 8 < k) → qF r' k = qF r k)
theorem Sim_q {κ n : Nat} {q r q' r' : QS} {S T N I G O K I' : Nat} (hS : SOk r S) (hn : S ≤ n) (hf : qF r 0 = nI S) (hH : SimH q r S) (hT : SimT q r S T) (hN : SimN q r S T N) (hA : SimA q r K I') (hC : SimC κ q) (oq : OnlyQ q q') (or : OnlyQr r r') (hQ : SimQ q' r' N I G O) : Sim κ n q' r' := by
  have hss : SameS r r' := ⟨or.1 1 (by decide), or.1 3 (by decide), or.1 4 (by decide), or.1 5 (by decide), by rw [or.2.1]⟩
  have hto := hss.to S
  have hn' : SameN r r' := ⟨or.1 7 (by decide), or.1 8 (by decide), or.1 11 (by decide), or.1 12 (by decide), or.1 13 (by decide), or.1 14 (by decide), or.1 15 (by decide), or.1 16 (by decide)⟩
  exact ⟨S, T, N, I, G, O, K, I', to_SOk hto hS, hn, by rw [or.2.2 0 (by decide)]; exact hf, hH.congr hS hto (or.1 6 (by decide)) (oq.1 1 (by decide)) (by rw [oq.2.1]), hT.congr hS hto (or.2.2 1 (by decide)) (oq.2.2.1 14 (by decide)) (or.1 7 (by decide)) (or.1 8 (by decide)) (or.1 9 (by decide)) (or.1 10 (by decide)) (oq.1 26 (by decide)) (oq.1 27 (by decide)) (oq.1 28 (by decide)) (oq.1 4 (by decide)) (by rw [oq.2.1]), hN.congr hS hto hn' (or.2.2 2 (by decide)) (oq.2.2.1 2 (by decide)) (fun k h1 h2 => oq.1 k (by omega)) (oq.1 7 (by decide)) (by rw [oq.2.1]), hQ, hA.congr (or.2.2 11 (by decide)) (or.2.2 12 (by decide)) (oq.2.2.1 0 (by decide)) (oq.2.2.1 1 (by decide)) (or.1 38 (by decide)) (by rw [or.2.1]) (or.1 40 (by decide)) (by rw [or.2.1]) (oq.1 10 (by decide)) (by rw [oq.2.1]), hC.congr (oq.2.2.1 12 (by decide)) oq.2.2.2⟩
theorem OnlyQ.f {q : QS} {k : Nat} {x : Int32} (h1 : 6 ≤ k) (h2 : k ≤ 11) : OnlyQ q (uF q k x) := ⟨fun _ _ => rfl, rfl, fun j hj => by rw [qF_uF, if_neg (by omega)], rfl⟩
theorem OnlyQr.f {r : QS} {k : Nat} {x : Int32} (h1 : 3 ≤ k) (h2 : k ≤ 8) : OnlyQr r (uF r k x) := ⟨fun _ _ => rfl, rfl, fun j hj => by rw [qF_uF, if_neg (by omega)]⟩
theorem st_15 {κ n : Nat} {q r : QS} (h : Sim κ n q r) (x : Int32) : ∃ a q' r', f_X9_limit q x = some (a, q') ∧ f_X10_limit r x = some (a, r') ∧ Sim κ n q' r' := by
  unfold f_X9_limit f_X9_limit_0 f_X10_limit f_X10_limit_0
  by_cases hx : (-1 : Int32) ≤ x
  · have hx' : ¬ x < (-1 : Int32) := fun z => by rw [i32_lt] at z; rw [i32_le] at hx; omega
    rw [if_pos hx, if_neg hx', if_neg hx']
    obtain ⟨S, T, N, I, G, O, K, I', hS, hnS, hf, hH, hT, hN, hQ, hA, hC⟩ := h
    refine ⟨1, _, _, rfl, rfl, Sim_q hS hnS hf hH hT hN hA hC (OnlyQ.f (by decide) (by decide)) (OnlyQr.f (by decide) (by decide)) (I := I) (G := G) (O := O) ?_⟩
    obtain ⟨b1, b2, b3, b4, b5, b6, b7, b8, b9, b10, b11, b12, b13, b14, b15, b16, b17, b18⟩ := hQ
    exact ⟨b1, b2, b3, b4, b5, b6, b7, b8, b9, b10, b11, b12, b13, b14, rfl, hx, b17, b18⟩
  · have hx' : x < (-1 : Int32) := by rw [i32_lt]; rw [i32_le] at hx; omega
    rw [if_neg hx, if_pos hx', if_pos hx', uF_self]
    exact ⟨0, q, r, rfl, rfl, h⟩
theorem st_16 {κ n : Nat} {q r : QS} (h : Sim κ n q r) (x : Int32) (hx : x = 0 ∨ x = 1) : ∃ q' r', f_X9_distinct q x = some q' ∧ f_X10_distinct r x = some r' ∧ Sim κ n q' r' := by
  unfold f_X9_distinct f_X9_distinct_0 f_X10_distinct f_X10_distinct_0
  have hz : vp_nar .boolean x = x := by rcases hx with rfl | rfl <;> rfl
  rw [if_pos hz, if_pos hz]
  obtain ⟨S, T, N, I, G, O, K, I', hS, hnS, hf, hH, hT, hN, hQ, hA, hC⟩ := h
  refine ⟨_, _, rfl, rfl, Sim_q hS hnS hf hH hT hN hA hC (OnlyQ.f (by decide) (by decide)) (OnlyQr.f (by decide) (by decide)) (I := I) (G := G) (O := O) ?_⟩
  obtain ⟨b1, b2, b3, b4, b5, b6, b7, b8, b9, b10, b11, b12, b13, b14, b15, b16, b17, b18⟩ := hQ
  exact ⟨b1, b2, b3, b4, b5, b6, b7, b8, b9, b10, b11, b12, b13, b14, b15, b16, rfl, hx⟩
theorem st_11 {κ n : Nat} {q r : QS} (h : Sim κ n q r) (x : Int32) : ∃ a q' r', f_X9_where q x = some (a, q') ∧ f_X10_where r x = some (a, r') ∧ Sim κ n q' r' := by
  have hsim := h
  obtain ⟨S, T, N, I, G, O, K, I', hS, hnS, hf, hH, hT, hN, hQ, hA, hC⟩ := h
  have h200 := hN.1
  have good : condOk r N x → Sim κ n (uF q 9 x) (uF r 3 x) := fun hc => by
    refine Sim_q hS hnS hf hH hT hN hA hC (OnlyQ.f (by decide) (by decide)) (OnlyQr.f (by decide) (by decide)) (I := I) (G := G) (O := O) ?_
    obtain ⟨b1, b2, b3, b4, b5, b6, b7, b8, b9, b10, b11, b12, b13, b14, b15, b16, b17, b18⟩ := hQ
    exact ⟨b1, b2, b3, b4, b5, b6, b7, b8, b9, b10, b11, b12, rfl, hc, b15, b16, b17, b18⟩
  have e45 : ∀ x, f_X10_where_45 r x = some (0, r) := fun x => by unfold f_X10_where_45; rw [uF_self]
  by_cases hm : x = -1
  · refine ⟨1, uF q 9 x, uF r 3 x, ?_, ?_, good (Or.inl hm)⟩
    · unfold f_X9_where f_X9_where_0; rw [if_pos hm]
    · unfold f_X10_where f_X10_where_0 f_X10_where_41; rw [if_pos hm]
  · rcases ix_cases x N (by omega) with hx | ⟨i, hi, rfl⟩
    · refine ⟨0, q, r, ?_, ?_, hsim⟩
      · unfold f_X9_where f_X9_where_0 f_X2_canBeCondition f_X2_canBeCondition_0
        rw [if_neg hm, has_no hN.2.1 hx, Option.bind_some, if_pos rfl, Option.bind_some, if_pos rfl]
      · unfold f_X10_where f_X10_where_0
        rw [if_neg hm, hN.2.2.1, in_no (by omega) hx, Option.bind_some, if_pos rfl, e45]
    · obtain ⟨a1, a2, a3, a4, a5, a6, a7, a8, -⟩ := hN.2.2.2 i hi
      have hr : f_X10_where r (nI i) = if (nT r i = 0 ∨ nT r i = 3) ∧ qI r 15 i = 0 then some (1, uF r 3 (nI i)) else some (0, r) := by
        unfold f_X10_where f_X10_where_0 f_X10_fits f_X10_fits_0 f_X10_where_41
        rw [if_neg hm, hN.2.2.1, in_yes (by omega) hi, Option.bind_some, if_neg i1, rd_nI (by omega) (by decide), Option.bind_some, a5, rd_nI (by omega) (by decide), Option.bind_some, e45]
        by_cases t0 : nT r i = 0
        · rw [t0, if_pos (show nI 0 = (0 : Int32) from rfl), Option.bind_some, if_neg i1]
          by_cases z : qI r 15 i = 0
          · rw [if_pos z, if_pos ⟨Or.inl rfl, z⟩]
          · rw [if_neg z, if_neg (fun w => z w.2)]
        · rw [if_neg (show ¬ nI (nT r i) = (0 : Int32) from cNe (c := 0) t0 (by omega) (by decide))]
          by_cases t3 : nT r i = 3
          · rw [t3, if_pos (show nI 3 = (3 : Int32) from rfl), Option.bind_some, if_neg i1]
            by_cases z : qI r 15 i = 0
            · rw [if_pos z, if_pos ⟨Or.inr rfl, z⟩]
            · rw [if_neg z, if_neg (fun w => z w.2)]
          · rw [if_neg (show ¬ nI (nT r i) = (3 : Int32) from cNe (c := 3) t3 (by omega) (by decide)), Option.bind_some, if_pos rfl, if_neg (fun w => by rcases w.1 with w | w; exact t0 w; exact t3 w)]
      have hq : f_X9_where q (nI i) = if (nT r i = 0 ∨ nT r i = 3) ∧ qI r 15 i = 0 then some (1, uF q 9 (nI i)) else some (0, q) := by
        unfold f_X9_where f_X9_where_0 f_X2_canBeCondition f_X2_canBeCondition_0 f_X2_isOfType f_X2_isOfType_0
        rw [if_neg hm, has_yes hN.2.1 hi (by omega), Option.bind_some, if_neg i1, rd_nI (by omega) (by decide), Option.bind_some, a6, rd_nI (by omega) (by decide), a8, Option.bind_some, Option.bind_some]
        by_cases t3 : nT r i = 3
        · rw [t3, if_pos (show nI 3 = (3 : Int32) from rfl), Option.bind_some, if_neg i1]
          by_cases z : qI r 15 i = 0
          · rw [if_pos z, Option.bind_some, if_neg i1, if_pos ⟨Or.inr rfl, z⟩]
          · rw [if_neg z, Option.bind_some, if_pos rfl, if_neg (fun w => z w.2)]
        · rw [if_neg (show ¬ nI (nT r i) = (3 : Int32) from cNe (c := 3) t3 (by omega) (by decide))]
          by_cases t0 : nT r i = 0
          · rw [t0, if_pos (show nI 0 = (0 : Int32) from rfl), Option.bind_some, if_neg i1]
            by_cases z : qI r 15 i = 0
            · rw [if_pos z, Option.bind_some, if_neg i1, if_pos ⟨Or.inl rfl, z⟩]
            · rw [if_neg z, Option.bind_some, if_pos rfl, if_neg (fun w => z w.2)]
          · rw [if_neg (show ¬ nI (nT r i) = (0 : Int32) from cNe (c := 0) t0 (by omega) (by decide)), Option.bind_some, if_pos rfl, Option.bind_some, if_pos rfl, if_neg (fun w => by rcases w.1 with w | w; exact t0 w; exact t3 w)]
      rw [hr, hq]
      by_cases c : (nT r i = 0 ∨ nT r i = 3) ∧ qI r 15 i = 0
      · rw [if_pos c, if_pos c]; exact ⟨1, _, _, rfl, rfl, good (Or.inr ⟨i, hi, rfl, c.1, c.2⟩)⟩
      · rw [if_neg c, if_neg c]; exact ⟨0, q, r, rfl, rfl, hsim⟩
