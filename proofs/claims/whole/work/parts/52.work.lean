/-! the class works nodes out -/
/-- the nodes' values alone have changed -/
def OnV (q q' : QS) : Prop := (∀ k, k ≠ 7 → qI q' k = qI q k) ∧ (∀ k, k ≠ 8 → qL q' k = qL q k) ∧ qF q' = qF q ∧ qC q' = qC q
theorem OnV.rfl {q : QS} : OnV q q := ⟨fun _ _ => Eq.refl _, fun _ _ => Eq.refl _, Eq.refl _, Eq.refl _⟩
theorem OnV.trans {q q1 q2 : QS} (h : OnV q q1) (g : OnV q1 q2) : OnV q q2 := ⟨fun k hk => (g.1 k hk).trans (h.1 k hk), fun k hk => (g.2.1 k hk).trans (h.2.1 k hk), g.2.2.1.trans h.2.2.1, g.2.2.2.trans h.2.2.2⟩
theorem Oc.onV {i : Nat} {q q' : QS} (h : Oc 2 i q q') : OnV q q' := ⟨fun k hk => h.1 k hk, fun k hk => h.2.2.1 k hk, h.2.2.2.2.1, h.2.2.2.2.2⟩
theorem tk_ty {k ta tb : Nat} {x y : Vl} (h : tk k ta tb) (h11 : 11 ≤ k) (hx : Ty ta x) (hy : Ty tb y) (h26 : k ≤ 22 ∨ k = 26 ∨ k = 27) : tyOk k x y := by
  obtain ⟨t1, t2, t3, t4, t5, t6, t7⟩ := h
  obtain ⟨-, hx⟩ := hx
  obtain ⟨-, hy⟩ := hy
  refine ⟨fun c => ?_, fun c => ?_, fun c d => ?_, fun c => ?_⟩
  · have := t3 h11 c; omega
  · have := t4 c; omega
  · have := t5 c d; omega
  · have := t7 (by omega); omega
theorem wo_260 {u : Nat} {B : QS → Int32 → Option QS} {q : QS} {j : Nat} : f_X1_workOut_260 u B q (nI j) = B q (nI (j + 1)) := by
  unfold f_X1_workOut_260; rw [nI_1]
theorem bind_wo {u : Nat} {B : QS → Int32 → Option QS} {o : Option QS} {q' : QS} {j : Nat} (h : o = some q') : (o.bind fun r => f_X1_workOut_260 u B r (nI j)) = B q' (nI (j + 1)) := by
  rw [h, Option.bind_some, wo_260]
theorem c_node {u m j i S T : Nat} {q0 q r : QS} {B : QS → Int32 → Option QS} {ρ : Nat → Nat} {α e : Nat → Vl} (hS : SOk r S) (hT : SimT q0 r S T) (hn : NodOk q0 r S T i) (hi : i < 200) (ho : OnV q0 q) (hj : j < m) (hm : m ≤ 200) (hF : qF q (3 + u) = nI m) (hst : qI q (17 + 3 * u) j = nI i) (hrow : nK r i = 4 → qI q 46 (nA r i) = nI (ρ (nA r i))) (hr : rowAt r ρ i) (hα : 5 ≤ nK r i → nK r i ≤ 9 → VC q 2 i (α i)) (hc : nK r i < 4 → VC q 2 i (sv r (nA r i)))
    (ha : 10 ≤ nK r i → VC q 2 (nA r i) (e (nA r i)) ∧ Ty (nT r (nA r i)) (e (nA r i))) (hb : two (nK r i) → VC q 2 (nB r i) (e (nB r i)) ∧ Ty (nT r (nB r i)) (e (nB r i))) :
    ∃ q', f_X1_workOut_2_b u B q (nI j) = B q' (nI (j + 1)) ∧ Oc 2 i q q' ∧ VC q' 2 i (nodv r ρ α i e) ∧ ((nK r i < 4 ∨ (5 ≤ nK r i ∧ nK r i ≤ 9)) → q' = q) := by
  obtain ⟨n1, n2, n3, n4, n5, n6, n7, n8, n9, n10, n11, n12, n13, n14⟩ := id hn
  unfold f_X1_workOut_2_b
  rw [hF, if_neg (nI_ge hj (by omega)), rd_nI (show j < 200 by omega) (by decide), Option.bind_some, hst, rd_nI hi (by decide), Option.bind_some, ho.1 30 (by decide), n3]
  generalize hk : nK r i = k at *
  unfold nodv
  rw [hk]
  by_cases c4 : k = 4
  · obtain ⟨e1, e2, e3, e4, e5, e6, e7, e8, -⟩ := n12 c4
    have hrr := hr (by rw [hk]; exact c4)
    have htab := hT.2.2.2 _ e2
    obtain ⟨s1, s2, s3, s4⟩ := htab.cell hS hrr e3
    have hT3 := hT.1
    have hw8 := htab.2.1
    have hr40 := htab.2.2.1
    rw [if_pos (show nI k = (4 : Int32) by rw [c4]; rfl), rd_nI hi (by decide), Option.bind_some, rd_nI hi (by decide), Option.bind_some, ho.1 34 (by decide), ho.1 35 (by decide), e6, e7]
    unfold f_X1_fetch f_X1_fetch_0 f_X7_placeOf f_X7_placeOf_0
    rw [rd_nI (show nA r i < 3 by omega) (by decide), Option.bind_some, hrow c4, nI_lit40, nI_add, nI_lit8, nI_add, Option.bind_some]
    obtain ⟨q', a1, a2, a3⟩ := v_copy (q := q) (v := 2) (u := 1) (i := i) (j := (nA r i * 40 + ρ (nA r i)) * 8 + nB r i) (VC_congr (v := 1) (ho.1 4 (by decide)) (ho.2.1 5 (by decide)) s3) (vOk_k s4.1) hi (by show 200 < 20000; decide) (show _ < 960 by omega) (by show 960 < 20000; decide)
    refine ⟨q', ?_, a3, ?_, fun z => by omega⟩
    · rw [a1]; exact wo_260 (u := u)
    · rw [if_neg (by omega), if_pos c4]; exact a2
  rw [if_neg (show ¬ nI k = (4 : Int32) from cNe (c := 4) c4 (by omega) (by decide))]
  by_cases c10 : k = 10
  · obtain ⟨e1, e2, e3, e4, e5, e6, e7⟩ := n14 (by omega)
    have h2 : ¬ two k := by unfold two; omega
    have ht := (e7.1 h2).2.2.1.1 (Or.inr c10)
    obtain ⟨x1, x2⟩ := ha (by omega)
    rw [if_pos (show nI k = (10 : Int32) by rw [c10]; rfl), rd_nI hi (by decide), Option.bind_some, ho.1 32 (by decide), e3]
    obtain ⟨q', a1, a2, a3⟩ := c_neg (q := q) (y := e (nB r i)) hi e1 x1 x2.1 (by have := x2.2; omega)
    refine ⟨q', bind_wo a1, a3, ?_, fun z => by omega⟩
    rw [if_neg (by omega), if_neg (by omega), if_neg (by omega), c10]; exact a2
  rw [if_neg (show ¬ nI k = (10 : Int32) from cNe (c := 10) c10 (by omega) (by decide))]
  by_cases ct : 11 ≤ k ∧ k ≤ 22
  · obtain ⟨e1, e2, e3, e4, e5, e6, e7⟩ := n14 (by omega)
    have h2 : two k := Or.inl ct
    obtain ⟨f1, f2, f3, f4, f5⟩ := e6 h2
    obtain ⟨x1, x2⟩ := ha (by omega)
    obtain ⟨y1, y2⟩ := hb h2
    rw [if_neg (show ¬ nI k < (11 : Int32) from fun z => by rw [i32_lt, nI_toInt (by omega)] at z; have : (11 : Int32).toInt = 11 := rfl; omega), if_neg (show ¬ (22 : Int32) < nI k from fun z => by rw [i32_lt, nI_toInt (by omega)] at z; have : (22 : Int32).toInt = 22 := rfl; omega), rd_nI hi (by decide), Option.bind_some, rd_nI hi (by decide), Option.bind_some, ho.1 32 (by decide), ho.1 33 (by decide), e3, f3]
    obtain ⟨q', a1, a2, a3⟩ := c_two (q := q) hi e1 f1 x1 y1 x2.1 y2.1 ct.1 ct.2 (tk_ty f4 ct.1 x2 y2 (Or.inl ct.2))
    refine ⟨q', bind_wo a1, a3, ?_, fun z => by omega⟩
    rw [if_neg (by omega), if_neg (by omega), if_neg (by omega)]; exact a2
  have h126 : (if nI k < (11 : Int32) then f_X1_workOut_126 u B q (nI j) (nI i) (nI k) else if (22 : Int32) < nI k then f_X1_workOut_126 u B q (nI j) (nI i) (nI k) else (rd (qI q 32) 200 (nI i)).bind fun y34 => (rd (qI q 33) 200 (nI i)).bind fun y36 => (f_X1_workOutOfTwo q (nI k) (nI i) y34 y36).bind fun r38 => f_X1_workOut_260 u B r38 (nI j)) = f_X1_workOut_126 u B q (nI j) (nI i) (nI k) := by
    by_cases c11 : k < 11
    · rw [if_pos (show nI k < (11 : Int32) from nI_lt (b := 11) c11 (by decide))]
    · rw [if_neg (show ¬ nI k < (11 : Int32) from fun z => by rw [i32_lt, nI_toInt (by omega)] at z; have : (11 : Int32).toInt = 11 := rfl; omega), if_pos (show (22 : Int32) < nI k from nI_lt (a := 22) (by omega) (by omega))]
  rw [h126]
  unfold f_X1_workOut_126
  by_cases c23 : k = 23
  · obtain ⟨e1, e2, e3, e4, e5, e6, e7⟩ := n14 (by omega)
    obtain ⟨x1, x2⟩ := ha (by omega)
    rw [if_pos (show nI k = (23 : Int32) by rw [c23]; rfl)]
    unfold f_X1_workOut_140 f_X1_workOut_173 f_X1_workOut_181
    rw [rd_nI hi (by decide), Option.bind_some, ho.1 32 (by decide), e3, f_isNull x1 (vOk_k x2.1) (show nA r i < 200 by omega) (by show 200 < 20000; decide), Option.bind_some, if_pos (show nI k = (23 : Int32) by rw [c23]; rfl)]
    by_cases z : vk (e (nA r i)) = 0
    · rw [if_pos z, if_pos rfl]
      obtain ⟨q', a1, a2, a3⟩ := v_bool (q := q) (v := 2) (i := i) hi (by show 200 < 20000; decide) 1
      refine ⟨q', bind_wo a1, a3, ?_, fun z => by omega⟩
      rw [if_neg (by omega), if_neg (by omega), if_neg (by omega), c23]
      have : opv 23 (e (nA r i)) (e (nB r i)) = vBool 1 := by simp [opv, z]
      rw [this]; exact a2
    · rw [if_neg z, if_neg (by decide)]
      obtain ⟨q', a1, a2, a3⟩ := v_bool (q := q) (v := 2) (i := i) hi (by show 200 < 20000; decide) 0
      refine ⟨q', bind_wo a1, a3, ?_, fun z => by omega⟩
      rw [if_neg (by omega), if_neg (by omega), if_neg (by omega), c23]
      have : opv 23 (e (nA r i)) (e (nB r i)) = vBool 0 := by simp [opv, z]
      rw [this]; exact a2
  rw [if_neg (show ¬ nI k = (23 : Int32) from cNe (c := 23) c23 (by omega) (by decide))]
  by_cases c24 : k = 24
  · obtain ⟨e1, e2, e3, e4, e5, e6, e7⟩ := n14 (by omega)
    obtain ⟨x1, x2⟩ := ha (by omega)
    rw [if_pos (show nI k = (24 : Int32) by rw [c24]; rfl)]
    unfold f_X1_workOut_140 f_X1_workOut_173 f_X1_workOut_181
    rw [rd_nI hi (by decide), Option.bind_some, ho.1 32 (by decide), e3, f_isNull x1 (vOk_k x2.1) (show nA r i < 200 by omega) (by show 200 < 20000; decide), Option.bind_some, if_neg (show ¬ nI k = (23 : Int32) from cNe (c := 23) c23 (by omega) (by decide))]
    by_cases z : vk (e (nA r i)) = 0
    · rw [if_pos z, if_neg (by decide)]
      obtain ⟨q', a1, a2, a3⟩ := v_bool (q := q) (v := 2) (i := i) hi (by show 200 < 20000; decide) 0
      refine ⟨q', bind_wo a1, a3, ?_, fun z => by omega⟩
      rw [if_neg (by omega), if_neg (by omega), if_neg (by omega), c24]
      have : opv 24 (e (nA r i)) (e (nB r i)) = vBool 0 := by simp [opv, z]
      rw [this]; exact a2
    · rw [if_neg z, if_pos rfl]
      obtain ⟨q', a1, a2, a3⟩ := v_bool (q := q) (v := 2) (i := i) hi (by show 200 < 20000; decide) 1
      refine ⟨q', bind_wo a1, a3, ?_, fun z => by omega⟩
      rw [if_neg (by omega), if_neg (by omega), if_neg (by omega), c24]
      have : opv 24 (e (nA r i)) (e (nB r i)) = vBool 1 := by simp [opv, z]
      rw [this]; exact a2
  rw [if_neg (show ¬ nI k = (24 : Int32) from cNe (c := 24) c24 (by omega) (by decide))]
  by_cases c25 : k = 25
  · obtain ⟨e1, e2, e3, e4, e5, e6, e7⟩ := n14 (by omega)
    have h2 : ¬ two k := by unfold two; omega
    have ht := (e7.1 h2).2.2.1.2.2.2.2.2.1 c25
    obtain ⟨x1, x2⟩ := ha (by omega)
    rw [if_pos (show nI k = (25 : Int32) by rw [c25]; rfl), rd_nI hi (by decide), Option.bind_some, ho.1 32 (by decide), e3]
    obtain ⟨q', a1, a2, a3⟩ := c_not (q := q) (y := e (nB r i)) hi e1 x1 x2.1 (by have := x2.2; omega)
    refine ⟨q', bind_wo a1, a3, ?_, fun z => by omega⟩
    rw [if_neg (by omega), if_neg (by omega), if_neg (by omega), c25]; exact a2
  rw [if_neg (show ¬ nI k = (25 : Int32) from cNe (c := 25) c25 (by omega) (by decide))]
  by_cases c26 : k = 26 ∨ k = 27
  · have h2 : two k := Or.inr c26
    obtain ⟨e1, e2, e3, e4, e5, e6, e7⟩ := n14 (by omega)
    obtain ⟨f1, f2, f3, f4, f5⟩ := e6 h2
    obtain ⟨x1, x2⟩ := ha (by omega)
    obtain ⟨y1, y2⟩ := hb h2
    have ht := f4.2.2.2.2.2.2 c26
    have h225 : f_X1_workOut_225 u B q (nI j) (nI i) (nI k) = f_X1_workOut_257 u B q (nI j) (nI i) (nI (nA r i)) (nI (nB r i)) (if k = 27 then 1 else 0) := by
      unfold f_X1_workOut_225
      rw [rd_nI hi (by decide), Option.bind_some, rd_nI hi (by decide), Option.bind_some, ho.1 32 (by decide), ho.1 33 (by decide), e3, f3]
      by_cases z : k = 27
      · rw [if_pos (show nI k = (27 : Int32) by rw [z]; rfl), if_pos z]
      · rw [if_neg (show ¬ nI k = (27 : Int32) from cNe (c := 27) z (by omega) (by decide)), if_neg z]
    obtain ⟨q', a1, a2, a3⟩ := c_dec (q := q) hi e1 f1 x1 y1 x2.1 y2.1 (by have := x2.2; omega) (by have := y2.2; omega) (if k = 26 then 0 else 1) (if k = 27 then 1 else 0) (by
      rcases c26 with z | z
      · rw [if_neg (by omega), if_pos z]; exact Or.inl ⟨rfl, rfl⟩
      · rw [if_pos z, if_neg (by omega)]; exact Or.inr ⟨rfl, rfl⟩)
    have hfin : f_X1_workOut_257 u B q (nI j) (nI i) (nI (nA r i)) (nI (nB r i)) (if k = 27 then 1 else 0) = B q' (nI (j + 1)) := bind_wo a1
    refine ⟨q', ?_, a3, ?_, fun z => by omega⟩
    · rw [h225, hfin]
      rcases c26 with z | z
      · rw [if_pos (show nI k = (26 : Int32) by rw [z]; rfl)]
      · rw [if_neg (show ¬ nI k = (26 : Int32) by rw [z]; decide), if_pos (show nI k = (27 : Int32) by rw [z]; rfl)]
    · rw [if_neg (by omega), if_neg (by omega), if_neg (by omega)]
      have : opv k (e (nA r i)) (e (nB r i)) = dcd (if k = 26 then 0 else 1) (e (nA r i)) (e (nB r i)) := by
        unfold opv
        rw [if_neg (by omega), if_neg (by omega), if_neg (by omega), if_neg (by omega), if_neg (by omega), if_neg (by omega), if_neg (by omega)]
      rw [this]; exact a2
  rw [if_neg (show ¬ nI k = (26 : Int32) from cNe (c := 26) (by omega) (by omega) (by decide)), if_neg (show ¬ nI k = (27 : Int32) from cNe (c := 27) (by omega) (by omega) (by decide))]
  refine ⟨q, wo_260, Oc.rfl, ?_, fun _ => rfl⟩
  by_cases c3 : k < 4
  · rw [if_pos c3]; exact hc c3
  · rw [if_neg c3, if_neg c4, if_pos (by omega)]; exact hα (by omega) (by omega)
