/-! the class works a row out -/
def OnVR (q q' : QS) : Prop := (∀ k, k ≠ 7 → k ≠ 46 → qI q' k = qI q k) ∧ (∀ k, k ≠ 8 → qL q' k = qL q k) ∧ qF q' = qF q ∧ qC q' = qC q
theorem OnVR.rfl {q : QS} : OnVR q q := ⟨fun _ _ _ => Eq.refl _, fun _ _ => Eq.refl _, Eq.refl _, Eq.refl _⟩
theorem OnVR.trans {q q1 q2 : QS} (h : OnVR q q1) (g : OnVR q1 q2) : OnVR q q2 := ⟨fun k a b => (g.1 k a b).trans (h.1 k a b), fun k a => (g.2.1 k a).trans (h.2.1 k a), g.2.2.1.trans h.2.2.1, g.2.2.2.trans h.2.2.2⟩
theorem OnV.vr {q q' : QS} (h : OnV q q') : OnVR q q' := ⟨fun k a _ => h.1 k a, h.2.1, h.2.2.1, h.2.2.2⟩
theorem OnVR.run {q q' : QS} (h : OnVR q q') : RunC q q' := ⟨fun k a _ _ b _ _ => h.1 k a b, fun k a _ => h.2.1 k a, fun k _ _ _ => by rw [h.2.2.1]⟩
/-- combinations of the class -/
def CC (q : QS) (C : Nat) (cr : Nat → Nat → Nat) : Prop := ∀ c, c < C → qI q 50 c = nI ((cr c 0 * 40 + cr c 1) * 40 + cr c 2) ∧ ∀ t, t < 3 → cr c t < 40
theorem c_rowIn {a b c : Nat} (ha : a < 40) (hb : b < 40) (hc : c < 40) : f_X5_rowIn (nI ((a * 40 + b) * 40 + c)) 0 = some (nI a) ∧ f_X5_rowIn (nI ((a * 40 + b) * 40 + c)) 1 = some (nI b) ∧ f_X5_rowIn (nI ((a * 40 + b) * 40 + c)) 2 = some (nI c) := by
  unfold f_X5_rowIn f_X5_rowIn_0
  have d1600 : nI ((a * 40 + b) * 40 + c) / (1600 : Int32) = nI a := by
    have := pk_div (a := (a * 40 + b) * 40 + c) (d := 1600) (by omega) (by decide) (by decide)
    rw [show nI 1600 = (1600 : Int32) from rfl] at this
    rw [this, show ((a * 40 + b) * 40 + c) / 1600 = a by omega]
  have d40 : nI ((a * 40 + b) * 40 + c) / (40 : Int32) = nI (a * 40 + b) := by
    have := pk_div (a := (a * 40 + b) * 40 + c) (d := 40) (by omega) (by decide) (by decide)
    rw [show nI 40 = (40 : Int32) from rfl] at this
    rw [this, show ((a * 40 + b) * 40 + c) / 40 = a * 40 + b by omega]
  have m40 : nI ((a * 40 + b) * 40 + c) - nI ((a * 40 + b) * 40 + c) / (40 : Int32) * (40 : Int32) = nI c := by
    have := pk_rem (a := (a * 40 + b) * 40 + c) (d := 40) (by omega) (by decide) (by decide)
    rw [show nI 40 = (40 : Int32) from rfl] at this
    rw [this, show ((a * 40 + b) * 40 + c) % 40 = c by omega]
  have m40' : nI (a * 40 + b) - nI (a * 40 + b) / (40 : Int32) * (40 : Int32) = nI b := by
    have := pk_rem (a := a * 40 + b) (d := 40) (by omega) (by decide) (by decide)
    rw [show nI 40 = (40 : Int32) from rfl] at this
    rw [this, show (a * 40 + b) % 40 = b by omega]
  refine ⟨?_, ?_, ?_⟩
  · rw [if_pos rfl, d1600]
  · rw [if_neg (by decide), if_pos rfl, d40, m40']
  · rw [if_neg (by decide), if_neg (by decide), m40]
theorem c_goTo {q : QS} {ρ : Nat → Nat} (h : ∀ t, t < 3 → ρ t < 40) : ∃ q', f_X1_goTo q (nI ((ρ 0 * 40 + ρ 1) * 40 + ρ 2)) = some q' ∧ (∀ k, k ≠ 46 → qI q' k = qI q k) ∧ qL q' = qL q ∧ qF q' = qF q ∧ qC q' = qC q ∧ ∀ t, t < 3 → qI q' 46 t = nI (ρ t) := by
  obtain ⟨e0, e1, e2⟩ := c_rowIn (h 0 (by decide)) (h 1 (by decide)) (h 2 (by decide))
  unfold f_X1_goTo f_X1_goTo_0
  rw [e0, Option.bind_some, show (0 : Int32) = nI 0 from rfl, wI_nI (by decide) (by decide), Option.bind_some, e1, Option.bind_some, show (1 : Int32) = nI 1 from rfl, wI_nI (by decide) (by decide), Option.bind_some, e2, Option.bind_some, show (2 : Int32) = nI 2 from rfl, wI_nI (by decide) (by decide), Option.bind_some]
  refine ⟨_, rfl, fun k hk => by rw [qI_uI, if_neg hk, qI_uI, if_neg hk, qI_uI, if_neg hk], rfl, rfl, rfl, fun t ht => ?_⟩
  show (if t = 2 then nI (ρ 2) else if t = 1 then nI (ρ 1) else if t = 0 then nI (ρ 0) else qI q 46 t) = nI (ρ t)
  rcases (show t = 0 ∨ t = 1 ∨ t = 2 by omega) with e | e | e <;> subst e <;> rfl
theorem Rch.z15 {S T N : Nat} {q0 r : QS} {J P : Nat → Prop} (hN : SimN q0 r S T N) (h : Rch r J P N) (hJ : ∀ k, k < N → J k → qI r 15 k = 0) : ∀ n k, N - k < n → k < N → P k → qI r 15 k = 0 := by
  intro n
  induction n with
  | zero => intro k h; omega
  | succ n ih =>
    intro k hk hkN hP
    rcases h.2.2 k hP with e | ⟨p, p1, p2, p3, p4⟩
    · exact hJ k hkN e
    · have hp := ih p (by omega) p2 p3
      have hnod := hN.2.2.2 p p2
      have hk01 := (hN.2.2.2 k hkN).2.2.2.2.2.2.1
      obtain ⟨-, -, -, -, e5, e6, e7, -⟩ := hnod.2.2.2.2.2.2.2.2.2.2.2.2.2 (by have := p4.1; omega)
      refine hk01.resolve_right (fun h1 => ?_)
      by_cases c2 : two (nK r p)
      · have := (e6 c2).2.2.2.2.mpr (by
          rcases p4.2 with z | ⟨-, z⟩
          · rw [← z]; exact Or.inl h1
          · rw [← z]; exact Or.inr h1)
        rw [hp] at this; exact absurd this (by decide)
      · have := (e7 c2).2.2.2.mpr (by
          rcases p4.2 with z | ⟨z', z⟩
          · rw [← z]; exact Or.inr h1
          · exact absurd z' c2)
        rw [hp] at this; exact absurd this (by decide)
theorem JP.z15 {S T N : Nat} {q0 r : QS} {P : Nat → Prop} (hN : SimN q0 r S T N) (k : Nat) (h : JP r P N k) : qI r 15 k = 0 ∧ k < N := by
  obtain ⟨p, p1, p2, p3, p4, p5⟩ := h
  obtain ⟨e1, -, -, -, e5, -⟩ := (hN.2.2.2 p p1).2.2.2.2.2.2.2.2.2.2.2.2.2 p3
  rw [p5]
  exact ⟨e5 p4, by omega⟩
theorem parts_na {S T N : Nat} {q0 r : QS} {P P1 : Nat → Prop} (hN : SimN q0 r S T N) (h : Rch r (JP r P N) P1 N) (k : Nat) (hk : k < N) (hp : P1 k) : ¬ isA r k := fun z => by
  have := h.z15 hN (fun k _ hj => (JP.z15 hN k hj).1) (N + 1) k (by omega) hk hp
  rw [agg1 (hN.2.2.2 k hk) z.1 z.2] at this
  exact absurd this (by decide)
/-- what the class needs for its rows -/
def Pl (q r : QS) (N I : Nat) (P1 P2 : Nat → Prop) : Prop := PlanOk q 2 P2 N ∧ Rch r (fun k => ∃ j, j < I ∧ k = itn r j) P2 N ∧ PlanOk q 1 P1 N ∧ Rch r (JP r P2 N) P1 N ∧ AgsOk q r P2 N
theorem Pl.keep {q q' r : QS} {N I : Nat} {P1 P2 : Nat → Prop} (h : ∀ k, k = 20 ∨ k = 23 ∨ k = 48 → qI q' k = qI q k) (hf : ∀ k, k = 4 ∨ k = 5 ∨ k = 13 → qF q' k = qF q k) (hp : Pl q r N I P1 P2) : Pl q' r N I P1 P2 := by
  obtain ⟨a, b, c, d, e⟩ := hp
  refine ⟨a.keep (h 23 (by decide)) (hf 5 (by decide)), b, c.keep (h 20 (by decide)) (hf 4 (by decide)), d, ?_⟩
  unfold AgsOk at e ⊢
  rw [h 48 (by decide), hf 13 (by decide)]; exact e
theorem ags_loop {S T N A : Nat} {q0 r : QS} {ag : Nat → Nat} {K : QS → Int32 → Option QS} {x1 : Int32} (hN : SimN q0 r S T N) (hA : A ≤ 200) (h13 : qF q0 13 = nI A) (hag : ∀ j, j < A → qI q0 48 j = nI (ag j) ∧ ag j < N ∧ isA r (ag j)) (hmo : ∀ j j', j < j' → j' < A → ag j < ag j') (fu : Nat) : ∀ (q : QS) (j : Nat), OnV q0 q → j ≤ A → A - j < fu → (∀ j', j' < j → VC q 2 (ag j') (ag0 (nK r (ag j')))) → ∃ q', f_X6_workOutAggregates_2 K fu q x1 (nI j) = K q' x1 ∧ OnV q q' ∧ (∀ j', j' < A → VC q' 2 (ag j') (ag0 (nK r (ag j')))) ∧ ∀ k x, k < N → ¬ isA r k → VC q 2 k x → VC q' 2 k x := by
  have h200 := hN.1
  induction fu with
  | zero => intro q j _ _ h; omega
  | succ fu ih =>
    intro q j ho hj hf hd
    rw [f_X6_workOutAggregates_2, f_X6_workOutAggregates_2_b, ho.2.2.1, h13]
    by_cases he : j = A
    · subst he
      rw [if_pos (nI_le (Nat.le_refl _) (by omega))]
      exact ⟨q, rfl, OnV.rfl, hd, fun _ _ _ _ h => h⟩
    · obtain ⟨g1, g2, g3⟩ := hag j (by omega)
      have hnod := hN.2.2.2 _ g2
      rw [if_neg (nI_ge (by omega) (by omega)), rd_nI (by omega) (by decide), Option.bind_some, ho.1 48 (by decide), g1]
      obtain ⟨q1, a1, a2, a3⟩ := c_start (q := q) (show ag j < 200 by omega) g3.1 g3.2 (by rw [ho.1 30 (by decide)]; exact hnod.2.2.1)
      rw [a1, Option.bind_some, nI_1]
      obtain ⟨q', b1, b2, b3, b4⟩ := ih q1 (j + 1) (ho.trans a2.onV) (by omega) (by omega) (fun j' hj' => by
        by_cases e : j' = j
        · subst e; exact a3
        · exact (hd j' (by omega)).other a2 (Or.inr (by have := hmo j' j (by omega) (by omega); omega)))
      exact ⟨q', b1, a2.onV.trans b2, b3, fun k x hk hna hx => b4 k x hk hna (hx.other a2 (Or.inr (fun e => hna (by rw [e]; exact g3))))⟩
theorem agd_loop {S T N A : Nat} {q0 r : QS} {ag : Nat → Nat} {ρ : Nat → Nat} {acc : Nat → Vl} {K : QS → Int32 → Int32 → Option QS} {x2 x3 : Int32} (hN : SimN q0 r S T N) (hA : A ≤ 200) (h13 : qF q0 13 = nI A) (hag : ∀ j, j < A → qI q0 48 j = nI (ag j) ∧ ag j < N ∧ isA r (ag j)) (hmo : ∀ j j', j < j' → j' < A → ag j < ag j') (hac : ∀ j, j < A → AgOk (nK r (ag j)) (nT r (ag j)) (acc (ag j))) (hpt : ∀ j, j < A → nK r (ag j) ≠ 5 → Ty (nT r (nA r (ag j))) (evi r ρ (nA r (ag j))) ∧ ¬ isA r (nA r (ag j))) (fu : Nat) : ∀ (q : QS) (j : Nat), OnV q0 q → j ≤ A → A - j < fu → (∀ j', j' < A → VC q 2 (ag j') (if j' < j then agf (nK r (ag j')) (acc (ag j')) (evi r ρ (nA r (ag j'))) else acc (ag j'))) → (∀ j', j' < A → nK r (ag j') ≠ 5 → VC q 2 (nA r (ag j')) (evi r ρ (nA r (ag j')))) → ∃ q', f_X6_workOutAggregates_79 K fu q x2 x3 (nI j) = K q' x2 x3 ∧ OnV q q' ∧ (∀ j', j' < A → VC q' 2 (ag j') (agf (nK r (ag j')) (acc (ag j')) (evi r ρ (nA r (ag j'))))) ∧ ∀ k x, k < N → ¬ isA r k → VC q 2 k x → VC q' 2 k x := by
  have h200 := hN.1
  induction fu with
  | zero => intro q j _ _ h; omega
  | succ fu ih =>
    intro q j ho hj hf hd hp
    rw [f_X6_workOutAggregates_79, f_X6_workOutAggregates_79_b, ho.2.2.1, h13]
    by_cases he : j = A
    · subst he
      rw [if_pos (nI_le (Nat.le_refl _) (by omega))]
      exact ⟨q, rfl, OnV.rfl, fun j' hj' => by have := hd j' hj'; rw [if_pos hj'] at this; exact this, fun _ _ _ _ h => h⟩
    · obtain ⟨g1, g2, g3⟩ := hag j (by omega)
      have hnod := hN.2.2.2 _ g2
      obtain ⟨t1, t2, t3⟩ := agg_ty hnod g3
      rw [if_neg (nI_ge (by omega) (by omega)), rd_nI (by omega) (by decide), Option.bind_some, ho.1 48 (by decide), g1]
      have hdj := hd j (by omega)
      rw [if_neg (Nat.lt_irrefl _)] at hdj
      obtain ⟨q1, a1, a2, a3⟩ := c_feed (q := q) (a := nA r (ag j)) (x := evi r ρ (nA r (ag j))) (show ag j < 200 by omega) g3.1 g3.2 (by rw [ho.1 30 (by decide)]; exact hnod.2.2.1) (fun h5 => by
        have h6 : 6 ≤ nK r (ag j) := by have := g3.1; omega
        obtain ⟨e1, e2, e3, -⟩ := hnod.2.2.2.2.2.2.2.2.2.2.2.2.2 h6
        exact ⟨by rw [ho.1 32 (by decide)]; exact e3, e1, hp j (by omega) h5, (hpt j (by omega) h5).1⟩) t1 t2 t3 hdj (hac j (by omega))
      rw [a1, Option.bind_some, nI_1]
      have hne : ∀ j', j' < A → j' ≠ j → ag j' ≠ ag j := fun j' h1 h2 => by
        rcases Nat.lt_or_gt_of_ne h2 with h | h
        · have := hmo j' j h (by omega); omega
        · have := hmo j j' h h1; omega
      obtain ⟨q', b1, b2, b3, b4⟩ := ih q1 (j + 1) (ho.trans a2.onV) (by omega) (by omega) (fun j' hj' => by
        by_cases e : j' = j
        · subst e; rw [if_pos (by omega)]; exact a3
        · have := (hd j' hj').other a2 (Or.inr (hne j' hj' e))
          by_cases z : j' < j
          · rw [if_pos z] at this; rw [if_pos (by omega)]; exact this
          · rw [if_neg z] at this; rw [if_neg (by omega)]; exact this) (fun j' hj' h5 => (hp j' hj' h5).other a2 (Or.inr (fun e => (hpt j' hj' h5).2 (by rw [e]; exact g3))))
      exact ⟨q', b1, a2.onV.trans b2, b3, fun k x hk hna hx => b4 k x hk hna (hx.other a2 (Or.inr (fun e => hna (by rw [e]; exact g3))))⟩
