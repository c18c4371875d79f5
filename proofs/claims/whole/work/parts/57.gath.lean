/-! the reference gathers -/
def OnG (i : Nat) (r r' : QS) : Prop := (∀ k, k ≠ 23 → qI r' k = qI r k) ∧ (∀ j, j ≠ i → qI r' 23 j = qI r 23 j) ∧ (∀ k, k ≠ 21 → k ≠ 22 → k ≠ 24 → qL r' k = qL r k) ∧ (∀ j, j ≠ i → qL r' 21 j = qL r 21 j ∧ qL r' 22 j = qL r 22 j) ∧ (∀ j, j / 4 ≠ i → qL r' 24 j = qL r 24 j) ∧ qF r' = qF r ∧ qC r' = qC r
theorem OnG.rfl {i : Nat} {r : QS} : OnG i r r := ⟨fun _ _ => Eq.refl _, fun _ _ => Eq.refl _, fun _ _ _ _ => Eq.refl _, fun _ _ => ⟨Eq.refl _, Eq.refl _⟩, fun _ _ => Eq.refl _, Eq.refl _, Eq.refl _⟩
theorem OnG.trans {i : Nat} {r r1 r2 : QS} (h : OnG i r r1) (g : OnG i r1 r2) : OnG i r r2 := ⟨fun k a => (g.1 k a).trans (h.1 k a), fun j a => (g.2.1 j a).trans (h.2.1 j a), fun k a b c => (g.2.2.1 k a b c).trans (h.2.2.1 k a b c), fun j a => ⟨((g.2.2.2.1 j a).1).trans (h.2.2.2.1 j a).1, ((g.2.2.2.1 j a).2).trans (h.2.2.2.1 j a).2⟩, fun j a => (g.2.2.2.2.1 j a).trans (h.2.2.2.2.1 j a), g.2.2.2.2.2.1.trans h.2.2.2.2.2.1, g.2.2.2.2.2.2.trans h.2.2.2.2.2.2⟩
theorem OnG.m {i : Nat} {r : QS} {x : Int64} : OnG i r (uL r 21 i x) := by
  refine ⟨fun _ _ => Eq.refl _, fun _ _ => Eq.refl _, fun k a _ _ => by rw [qL_uL, if_neg a], fun j a => ⟨?_, ?_⟩, fun j _ => ?_, Eq.refl _, Eq.refl _⟩
  · rw [qL_uL, if_pos (Eq.refl _), updL_at, if_neg a]
  · rw [qL_uL, if_neg (by decide)]
  · rw [qL_uL, if_neg (by decide)]
theorem OnG.b {i : Nat} {r : QS} {x : Int64} : OnG i r (uL r 22 i x) := by
  refine ⟨fun _ _ => Eq.refl _, fun _ _ => Eq.refl _, fun k _ a _ => by rw [qL_uL, if_neg a], fun j a => ⟨?_, ?_⟩, fun j _ => ?_, Eq.refl _, Eq.refl _⟩
  · rw [qL_uL, if_neg (by decide)]
  · rw [qL_uL, if_pos (Eq.refl _), updL_at, if_neg a]
  · rw [qL_uL, if_neg (by decide)]
theorem OnG.l {i : Nat} {r : QS} {x : Int32} : OnG i r (uI r 23 i x) := ⟨fun k a => by rw [qI_uI, if_neg a], fun j a => by rw [qI_uI, if_pos (Eq.refl _), upd_at, if_neg a], fun _ _ _ _ => Eq.refl _, fun _ _ => ⟨Eq.refl _, Eq.refl _⟩, fun _ _ => Eq.refl _, Eq.refl _, Eq.refl _⟩
theorem OnG.w {i j : Nat} {r : QS} {x : Int64} (h : j / 4 = i) : OnG i r (uL r 24 j x) := by
  refine ⟨fun _ _ => Eq.refl _, fun _ _ => Eq.refl _, fun k _ _ a => by rw [qL_uL, if_neg a], fun j a => ⟨?_, ?_⟩, fun j' a => ?_, Eq.refl _, Eq.refl _⟩
  · rw [qL_uL, if_neg (by decide)]
  · rw [qL_uL, if_neg (by decide)]
  · rw [qL_uL, if_pos (Eq.refl _), updL_at, if_neg (fun e => a (by rw [e]; exact h))]
/-- the best so far is x -/
def BF (r : QS) (i : Nat) (x : Vl) : Prop := qL r 22 i = vn x ∧ qI r 23 i = nI (vl x) ∧ ∀ j, j < 4 → qL r 24 (4 * i + j) = vw x j
/-- what was gathered at node i, of kind k, is acc, from m values -/
def GR (r : QS) (i k : Nat) (acc : Vl) (m : Nat) : Prop := qL r 21 i = lN m ∧ (k ≤ 6 → acc = vInt (lN m)) ∧ (k = 7 → (m = 0 → acc = vNull ∧ qL r 22 i = 0) ∧ (m ≠ 0 → acc = vInt (qL r 22 i))) ∧ (8 ≤ k → (m = 0 → acc = vNull) ∧ (m ≠ 0 → vk acc ≠ 0 ∧ vOk acc ∧ BF r i acc))
theorem lN1 (m : Nat) : lN m + 1 = lN (m + 1) := by
  show Int64.ofNat m + Int64.ofNat 1 = Int64.ofNat (m + 1)
  rw [Int64.ofNat_add]
theorem lN0 {m : Nat} (h : m < 2 ^ 31) : lN m = 0 ↔ m = 0 := by
  have := pk_lEQ (a := m) (b := 0) (by omega) (by decide)
  exact this
theorem ib_loop {r : QS} {i a : Nat} {x acc : Vl} {o : Int32} {K : Int32 → Int32 → Int32 → Option Int32} (hi : i < 200) (ha : a < 200) (hx : VR r a x) (hb : BF r i acc) (fu : Nat) : ∀ t, t ≤ 4 → 4 - t < fu → f_X10_isBetter_19 r K fu (nI i) (nI a) (ow o (vw x) (vw acc) t) (nI t) = K (nI i) (nI a) (ow o (vw x) (vw acc) 4) := by
  induction fu with
  | zero => intro t _ h; omega
  | succ fu ih =>
    intro t ht hf
    rw [f_X10_isBetter_19, f_X10_isBetter_19_b]
    by_cases he : t = 4
    · subst he
      rw [if_pos (show (4 : Int32) ≤ nI 4 from nI_le (a := 4) (Nat.le_refl _) (by decide))]
    · rw [if_neg (show ¬ (4 : Int32) ≤ nI t from nI_ge (b := 4) (by omega) (by decide))]
      by_cases hz : ow o (vw x) (vw acc) t = 0
      · rw [if_pos hz, lit4_nI, lit4_nI, nI_add, nI_add, rd_nI (by omega) (by decide), Option.bind_some, rd_nI (by omega) (by decide), Option.bind_some, hx.2.2.2 t (by omega), hb.2.2 t (by omega), f_sign, Option.bind_some, nI_1]
        have e : ow o (vw x) (vw acc) (t + 1) = wcmp (vw x t) (vw acc t) := by rw [ow, if_pos hz]
        have h := ih (t + 1) (by omega) (by omega)
        rw [e] at h
        exact h
      · rw [if_neg hz]
        have e := ow_stay hz (4 - t)
        rw [show t + (4 - t) = 4 by omega] at e
        rw [e]
theorem f_ib {r : QS} {i a k : Nat} {x acc : Vl} (hi : i < 200) (ha : a < 200) (hx : VR r a x) (hb : BF r i acc) (lx : vl x < 2 ^ 31) (ly : vl acc < 2 ^ 31) (hK : qI r 11 i = nI k) (hk : k = 8 ∨ k = 9) : f_X10_isBetter r (nI i) (nI a) = some (if k = 8 then (if 0 ≤ rcmp x acc then 0 else 1) else (if rcmp x acc ≤ 0 then 0 else 1)) := by
  unfold f_X10_isBetter f_X10_isBetter_0
  rw [rd_nI ha (by decide), Option.bind_some, rd_nI hi (by decide), Option.bind_some, hx.2.1, hb.1, f_sign, Option.bind_some]
  have h := ib_loop (o := lg_cmp (vn x) (vn acc)) (K := f_X10_isBetter_69 r) hi ha hx hb FU 0 (Nat.zero_le _) (by show 4 - 0 < 100000; omega)
  refine Eq.trans h ?_
  have h94 : ∀ o, f_X10_isBetter_94 r (nI i) o = some (if k = 8 then (if 0 ≤ o then 0 else 1) else (if o ≤ 0 then 0 else 1)) := fun o => by
    unfold f_X10_isBetter_94
    rw [rd_nI hi (by decide), Option.bind_some, hK]
    rcases hk with e | e <;> subst e
    · rw [if_pos (by rfl), if_pos rfl]; split <;> rfl
    · rw [if_neg (show ¬ nI 9 = (8 : Int32) by decide), if_neg (show ¬ 9 = 8 by decide)]; split <;> rfl
  unfold f_X10_isBetter_69 rcmp
  by_cases hz : ow (lg_cmp (vn x) (vn acc)) (vw x) (vw acc) 4 = 0
  · rw [if_pos hz, if_pos hz, rd_nI ha (by decide), Option.bind_some, rd_nI hi (by decide), Option.bind_some, hx.2.2.1, hb.2.1, nI_l64 lx, nI_l64 ly, f_sign, Option.bind_some, h94]
  · rw [if_neg hz, if_neg hz, h94]
theorem gw_loop {i a : Nat} {x : Vl} {K : QS → Int32 → Int32 → Option QS} {x3 : Int32} (hi : i < 200) (ha : a < 200) (fu : Nat) : ∀ (r : QS) (t : Nat), t ≤ 4 → 4 - t < fu → (∀ s, s < 4 → qL r 20 (4 * a + s) = vw x s) → (∀ s, s < t → qL r 24 (4 * i + s) = vw x s) → ∃ r', f_X10_gather_140 K fu r (nI i) (nI a) x3 (nI t) = K r' (nI i) x3 ∧ OnG i r r' ∧ qI r' = qI r ∧ qL r' 21 = qL r 21 ∧ qL r' 22 = qL r 22 ∧ ∀ s, s < 4 → qL r' 24 (4 * i + s) = vw x s := by
  induction fu with
  | zero => intro r t _ h; omega
  | succ fu ih =>
    intro r t ht hf hS hd
    rw [f_X10_gather_140, f_X10_gather_140_b]
    by_cases he : t = 4
    · subst he
      rw [if_pos (show (4 : Int32) ≤ nI 4 from nI_le (a := 4) (Nat.le_refl _) (by decide))]
      exact ⟨r, rfl, OnG.rfl, rfl, rfl, rfl, hd⟩
    · rw [if_neg (show ¬ (4 : Int32) ≤ nI t from nI_ge (b := 4) (by omega) (by decide)), lit4_nI, lit4_nI, nI_add, nI_add, rd_nI (by omega) (by decide), Option.bind_some, hS t (by omega), wL_nI (by omega) (by decide), Option.bind_some, nI_1]
      obtain ⟨r', h1, h2, h3, h4, h5, h6⟩ := ih (uL r 24 (4 * i + t) (vw x t)) (t + 1) (by omega) (by omega) hS (fun s hs => by
          rw [qL_uL, if_pos rfl, updL_at]
          by_cases e3 : s = t
          · rw [if_pos (by omega), e3]
          · rw [if_neg (by omega)]; exact hd s (by omega))
      exact ⟨r', h1, (OnG.w (by omega)).trans h2, h3, h4, h5, h6⟩
theorem agf_of {k : Nat} {acc x : Vl} (h5 : k ≠ 5) (hx : vk x ≠ 0) : agf k acc x = if k = 6 then vInt (vn acc + 1) else if vk acc = 0 then x else if k = 7 then vInt (vn acc + vn x) else if k = 8 then (if rcmp x acc < 0 then x else acc) else (if 0 < rcmp x acc then x else acc) := by
  unfold agf
  rw [if_neg h5, if_neg hx]
theorem i32_not_le {o : Int32} : ¬ 0 ≤ o ↔ o < 0 := by rw [i32_le, i32_lt]; omega
theorem i32_not_le' {o : Int32} : ¬ o ≤ 0 ↔ 0 < o := by rw [i32_le, i32_lt]; omega
theorem r_gather {r : QS} {i a k m : Nat} {acc x : Vl} (hi : i < 200) (hk5 : 5 ≤ k) (hk9 : k ≤ 9) (hK : qI r 11 i = nI k) (hA : k = 5 → qI r 12 i = -1) (hA' : k ≠ 5 → qI r 12 i = nI a ∧ a < 200 ∧ VR r a x ∧ vOk x) (h7 : k = 7 → vk x ≤ 1) (hG : GR r i k acc m) (hm : m < 2 ^ 30) : ∃ r' m', f_X10_gather r (nI i) = some r' ∧ OnG i r r' ∧ GR r' i k (agf k acc x) m' ∧ m' ≤ m + 1 := by
  obtain ⟨g1, g2, g3, g4⟩ := id hG
  unfold f_X10_gather f_X10_gather_0
  rw [rd_nI hi (by decide), Option.bind_some, rd_nI hi (by decide), Option.bind_some, hK]
  have h174 : ∀ r1, f_X10_gather_174 r1 (nI i) 1 = some (uL r1 21 i (qL r1 21 i + 1)) := fun r1 => by
    unfold f_X10_gather_174
    rw [if_neg i1, rd_nI hi (by decide), Option.bind_some, wL_nI hi (by decide), Option.bind_some]
  have h174' : f_X10_gather_174 r (nI i) 0 = some (uL r 21 i (qL r 21 i)) := by
    unfold f_X10_gather_174
    rw [if_pos rfl, rd_nI hi (by decide), Option.bind_some, wL_nI hi (by decide), Option.bind_some]
  by_cases c5 : k = 5
  · subst c5
    rw [if_pos (show nI 5 = (5 : Int32) from rfl), hA rfl]
    refine ⟨uL r 21 i (qL r 21 i + 1), m + 1, ?_, OnG.m, ?_, Nat.le_refl _⟩
    · unfold f_X10_gather_26 f_X10_gather_31
      rw [if_neg i1, rd_nI hi (by decide), Option.bind_some, hK, if_pos (by decide)]
      unfold f_X10_gather_71 f_X10_gather_72
      rw [rd_nI hi (by decide), Option.bind_some, hK, if_neg (by decide)]
      unfold f_X10_gather_108
      rw [if_pos rfl, h174]
    · have e : agf 5 acc x = vInt (lN (m + 1)) := by
        unfold agf
        rw [if_pos rfl, g2 (by decide), ← lN1]; rfl
      rw [e]
      refine ⟨?_, fun _ => rfl, fun z => by omega, fun z => by omega⟩
      rw [qL_uL, if_pos rfl, updL_at, if_pos rfl, g1, lN1]
  obtain ⟨ha, ha2, hx, ox⟩ := hA' c5
  have lx := vl31 ox
  rw [if_neg (show ¬ nI k = (5 : Int32) from cNe (c := 5) c5 (by omega) (by decide)), ha, rd_nI ha2 (by decide), Option.bind_some, hx.1]
  by_cases x0 : vk x = 0
  · rw [if_pos x0, if_neg i1]
    refine ⟨uL r 21 i (qL r 21 i), m, ?_, OnG.m, ?_, by omega⟩
    · unfold f_X10_gather_31 f_X10_gather_71 f_X10_gather_72 f_X10_gather_108
      rw [if_pos rfl, if_pos rfl, if_pos rfl, h174', rd_nI hi (by decide), Option.bind_some]
      split <;> rfl
    · have e : agf k acc x = acc := by unfold agf; rw [if_neg c5, if_pos x0]
      rw [e]
      refine ⟨?_, g2, ?_, ?_⟩
      · rw [qL_uL, if_pos rfl, updL_at, if_pos rfl]; exact g1
      · rw [qL_uL, if_neg (by decide)]; exact g3
      · exact g4
  rw [if_neg x0, if_pos rfl, agf_of c5 x0]
  unfold f_X10_gather_26 f_X10_gather_31
  rw [if_neg i1, rd_nI hi (by decide), Option.bind_some, hK]
  by_cases c6 : k = 6
  · subst c6
    rw [if_pos (by decide), if_pos rfl]
    refine ⟨uL r 21 i (qL r 21 i + 1), m + 1, ?_, OnG.m, ?_, Nat.le_refl _⟩
    · unfold f_X10_gather_71 f_X10_gather_72
      rw [rd_nI hi (by decide), Option.bind_some, hK, if_neg (by decide)]
      unfold f_X10_gather_108
      rw [if_pos rfl, h174]
    · have e : vInt (vn acc + 1) = vInt (lN (m + 1)) := by rw [g2 (by decide), ← lN1]; rfl
      rw [e]
      refine ⟨?_, fun _ => rfl, fun z => by omega, fun z => by omega⟩
      rw [qL_uL, if_pos rfl, updL_at, if_pos rfl, g1, lN1]
  rw [if_neg c6]
  by_cases c7 : k = 7
  · subst c7
    rw [if_pos (by decide), if_pos rfl]
    obtain ⟨g31, g32⟩ := g3 rfl
    have x1 : vk x = 1 := by have := h7 rfl; omega
    have hxi : x = vInt (vn x) := by
      rcases ox with h | ⟨n, h⟩ | ⟨b, -, h⟩ | ⟨W, len, -, h⟩
      · rw [h] at x1; cases x1
      · rw [h]; rfl
      · rw [h] at x1; cases x1
      · rw [h] at x1; cases x1
    refine ⟨uL (uL r 22 i (qL r 22 i + vn x)) 21 i (qL r 21 i + 1), m + 1, ?_, OnG.b.trans OnG.m, ?_, Nat.le_refl _⟩
    · unfold f_X10_gather_71 f_X10_gather_72
      rw [rd_nI hi (by decide), Option.bind_some, hK, if_pos (by rfl), if_neg i1, rd_nI hi (by decide), Option.bind_some, rd_nI ha2 (by decide), Option.bind_some, hx.2.1, wL_nI hi (by decide), Option.bind_some]
      unfold f_X10_gather_108
      rw [if_pos rfl, h174]
      rfl
    · have hb : qL (uL (uL r 22 i (qL r 22 i + vn x)) 21 i (qL r 21 i + 1)) 22 i = qL r 22 i + vn x := by
        rw [qL_uL, if_neg (by decide), qL_uL, if_pos rfl, updL_at, if_pos rfl]
      refine ⟨?_, fun z => by omega, fun _ => ⟨fun z => by omega, fun _ => ?_⟩, fun z => by omega⟩
      · rw [qL_uL, if_pos rfl, updL_at, if_pos rfl, g1, lN1]
      · rw [hb]
        by_cases m0 : m = 0
        · obtain ⟨u1, u2⟩ := g31 m0
          rw [u1, u2, if_pos (show vk vNull = 0 from rfl)]
          rw [hxi]
          show vInt (vn x) = vInt (0 + vn x)
          rw [Int64.zero_add]
        · have u1 := g32 m0
          rw [if_neg (by rw [u1]; exact fun h => by cases h)]
          conv => lhs; rw [u1]
          rfl
  rw [if_neg c7]
  have c8 : 8 ≤ k := by omega
  obtain ⟨g41, g42⟩ := g4 c8
  rw [if_neg (show ¬ nI k ≤ (7 : Int32) from nI_ge (a := 7) (by omega) (by omega)), rd_nI hi (by decide), Option.bind_some, g1]
  have h67 : ∃ r', f_X10_gather_67 r (nI i) (nI a) 1 = some r' ∧ OnG i r r' ∧ GR r' i k x (m + 1) := by
    unfold f_X10_gather_67 f_X10_gather_72
    rw [rd_nI hi (by decide), Option.bind_some, hK, if_neg (show ¬ nI k = (7 : Int32) from cNe (c := 7) c7 (by omega) (by decide))]
    unfold f_X10_gather_108
    rw [if_neg i1, rd_nI ha2 (by decide), Option.bind_some, hx.2.1, wL_nI hi (by decide), Option.bind_some, rd_nI ha2 (by decide), Option.bind_some, show qI (uL r 22 i (vn x)) 19 = qI r 19 from rfl, hx.2.2.1, wI_nI hi (by decide), Option.bind_some]
    obtain ⟨r1, a1, a2, a3, a4, a5, a6⟩ := gw_loop (x := x) (K := f_X10_gather_174) (x3 := 1) hi ha2 FU (uI (uL r 22 i (vn x)) 23 i (nI (vl x))) 0 (Nat.zero_le _) (by show 4 - 0 < 100000; omega) (fun s hs => by rw [qL_uI, qL_uL, if_neg (by decide)]; exact hx.2.2.2 s hs) (fun s hs => by omega)
    have a1' : f_X10_gather_140 f_X10_gather_174 FU (uI (uL r 22 i (vn x)) 23 i (nI (vl x))) (nI i) (nI a) 1 0 = f_X10_gather_174 r1 (nI i) 1 := a1
    rw [a1', h174]
    refine ⟨_, rfl, ((OnG.b.trans OnG.l).trans a2).trans OnG.m, ?_, fun z => by omega, fun z => by omega, fun _ => ⟨fun z => by omega, fun _ => ⟨x0, ox, ?_, ?_, ?_⟩⟩⟩
    · rw [qL_uL, if_pos rfl, updL_at, if_pos rfl, a4, qL_uI, qL_uL, if_neg (by decide), g1, lN1]
    · rw [qL_uL, if_neg (by decide), a5, qL_uI, qL_uL, if_pos rfl, updL_at, if_pos rfl]
    · rw [qI_uL, a3, qI_uI, if_pos rfl, upd_at, if_pos rfl]
    · intro j hj
      rw [qL_uL, if_neg (by decide)]; exact a6 j hj
  by_cases m0 : m = 0
  · rw [if_pos ((lg_eq0 _ _).mpr ((lN0 (by omega)).mpr m0)), if_pos (by rw [g41 m0]; rfl)]
    obtain ⟨r', b1, b2, b3⟩ := h67
    exact ⟨r', m + 1, b1, b2, b3, Nat.le_refl _⟩
  · obtain ⟨u1, u2, u3⟩ := g42 m0
    rw [if_neg (fun z => m0 ((lN0 (by omega)).mp ((lg_eq0 _ _).mp z))), if_neg u1, f_ib hi ha2 hx u3 (by omega) (by have := vl31 u2; omega) hK (by omega), Option.bind_some]
    have h71 : ∃ r', f_X10_gather_71 r (nI i) (nI a) 1 = some r' ∧ OnG i r r' ∧ GR r' i k acc (m + 1) := by
      unfold f_X10_gather_71 f_X10_gather_72
      rw [rd_nI hi (by decide), Option.bind_some, hK, if_neg (show ¬ nI k = (7 : Int32) from cNe (c := 7) c7 (by omega) (by decide))]
      unfold f_X10_gather_108
      rw [if_pos rfl, h174]
      refine ⟨_, rfl, OnG.m, ?_, fun z => by omega, fun z => by omega, fun _ => ⟨fun z => by omega, fun _ => ⟨u1, u2, ?_, u3.2.1, fun j hj => ?_⟩⟩⟩
      · rw [qL_uL, if_pos rfl, updL_at, if_pos rfl, g1, lN1]
      · rw [qL_uL, if_neg (by decide)]; exact u3.1
      · rw [qL_uL, if_neg (by decide)]; exact u3.2.2 j hj
    obtain ⟨ry, b1, b2, b3⟩ := h67
    obtain ⟨rn, d1, d2, d3⟩ := h71
    rw [b1, d1]
    by_cases k8 : k = 8
    · rw [if_pos k8, if_pos k8]
      by_cases c : 0 ≤ rcmp x acc
      · rw [if_pos c, if_pos rfl, if_neg (fun z => (i32_not_le.mpr z) c)]
        exact ⟨rn, m + 1, rfl, d2, d3, Nat.le_refl _⟩
      · rw [if_neg c, if_neg i1, if_pos (i32_not_le.mp c)]
        exact ⟨ry, m + 1, rfl, b2, b3, Nat.le_refl _⟩
    · rw [if_neg k8, if_neg k8]
      by_cases c : rcmp x acc ≤ 0
      · rw [if_pos c, if_pos rfl, if_neg (fun z => (i32_not_le'.mpr z) c)]
        exact ⟨rn, m + 1, rfl, d2, d3, Nat.le_refl _⟩
      · rw [if_neg c, if_neg i1, if_pos (i32_not_le'.mp c)]
        exact ⟨ry, m + 1, rfl, b2, b3, Nat.le_refl _⟩
