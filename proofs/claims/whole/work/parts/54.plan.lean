/-! plans of the class -/
def OnPl (u : Nat) (q q' : QS) : Prop := (∀ k, k ≠ 16 + 3 * u → k ≠ 17 + 3 * u → qI q' k = qI q k) ∧ qL q' = qL q ∧ (∀ k, k ≠ 3 + u → qF q' k = qF q k) ∧ qC q' = qC q
theorem OnPl.rfl {u : Nat} {q : QS} : OnPl u q q := ⟨fun _ _ _ => Eq.refl _, Eq.refl _, fun _ _ => Eq.refl _, Eq.refl _⟩
theorem OnPl.trans {u : Nat} {q q1 q2 : QS} (h : OnPl u q q1) (g : OnPl u q1 q2) : OnPl u q q2 := ⟨fun k a b => (g.1 k a b).trans (h.1 k a b), g.2.1.trans h.2.1, fun k a => (g.2.2.1 k a).trans (h.2.2.1 k a), g.2.2.2.trans h.2.2.2⟩
theorem OnPl.n {u : Nat} {q : QS} {j : Nat} {x : Int32} : OnPl u q (uI q (16 + 3 * u) j x) := ⟨fun k a _ => by rw [qI_uI, if_neg a], Eq.refl _, fun _ _ => Eq.refl _, Eq.refl _⟩
theorem OnPl.s {u : Nat} {q : QS} {j : Nat} {x : Int32} : OnPl u q (uI q (17 + 3 * u) j x) := ⟨fun k _ a => by rw [qI_uI, if_neg a], Eq.refl _, fun _ _ => Eq.refl _, Eq.refl _⟩
theorem OnPl.f {u : Nat} {q : QS} {x : Int32} : OnPl u q (uF q (3 + u) x) := ⟨fun k _ _ => Eq.refl _, Eq.refl _, fun k hk => by rw [qF_uF, if_neg hk], Eq.refl _⟩
/-- needed -/
def Nd (q : QS) (u k : Nat) : Prop := k < 200 ∧ qI q (16 + 3 * u) k = 1
/-- needed holds 0 or 1 -/
def N01 (q : QS) (u : Nat) : Prop := ∀ k, k < 200 → qI q (16 + 3 * u) k = 0 ∨ qI q (16 + 3 * u) k = 1
theorem begin_loop {u : Nat} (fu : Nat) : ∀ (q : QS) (i : Nat), i ≤ 200 → 200 - i < fu → (∀ k, k < i → qI q (16 + 3 * u) k = 0) → ∃ q', f_X3_begin_2 u fu q (nI i) = some q' ∧ OnPl u q q' ∧ ∀ k, k < 200 → qI q' (16 + 3 * u) k = 0 := by
  induction fu with
  | zero => intro q i _ h; omega
  | succ fu ih =>
    intro q i hi hf hz
    rw [f_X3_begin_2, f_X3_begin_2_b]
    by_cases he : i = 200
    · subst he
      rw [if_pos (show (200 : Int32) ≤ nI 200 by decide)]
      exact ⟨q, rfl, OnPl.rfl, hz⟩
    · rw [if_neg (show ¬ (200 : Int32) ≤ nI i from nI_ge (b := 200) (by omega) (by decide)), sf0, wI_nI (by omega) (by decide), Option.bind_some, nI_1]
      obtain ⟨q', h1, h2, h3⟩ := ih (uI q (16 + 3 * u) i 0) (i + 1) (by omega) (by omega) (fun k hk => by
        rw [qI_uI, if_pos rfl, upd_at]
        by_cases e : k = i
        · rw [if_pos e]
        · rw [if_neg e]; exact hz k (by omega))
      exact ⟨q', h1, OnPl.n.trans h2, h3⟩
theorem c_begin (u : Nat) (q : QS) : ∃ q', f_X3_begin u q = some q' ∧ OnPl u q q' ∧ ∀ k, k < 200 → qI q' (16 + 3 * u) k = 0 := by
  unfold f_X3_begin f_X3_begin_0
  exact begin_loop FU q 0 (Nat.zero_le _) (by show 200 - 0 < 100000; omega) (fun k hk => by omega)
theorem need_no {u : Nat} {q : QS} : f_X3_need u q (-1) = some q := by
  unfold f_X3_need f_X3_need_0
  rw [if_pos (by decide)]
theorem need_yes {u k : Nat} {q : QS} (h : k < 200) : f_X3_need u q (nI k) = some (uI q (16 + 3 * u) k 1) := by
  unfold f_X3_need f_X3_need_0
  rw [if_neg (nI_pos (by omega)), if_neg (show ¬ (200 : Int32) ≤ nI k from nI_ge (b := 200) h (by decide)), sf1, wI_nI h (by decide), Option.bind_some]
theorem Nd_u {q : QS} {u j k : Nat} (hj : j < 200) : Nd (uI q (16 + 3 * u) j 1) u k ↔ k = j ∨ Nd q u k := by
  unfold Nd
  rw [qI_uI, if_pos rfl, upd_at]
  by_cases e : k = j
  · rw [if_pos e]; exact ⟨fun _ => Or.inl e, fun _ => ⟨by omega, rfl⟩⟩
  · rw [if_neg e]; exact ⟨fun z => Or.inr z, fun z => z.resolve_left e⟩
theorem N01_u {q : QS} {u j : Nat} (h : N01 q u) : N01 (uI q (16 + 3 * u) j 1) u := fun k hk => by
  rw [qI_uI, if_pos rfl, upd_at]
  by_cases e : k = j
  · rw [if_pos e]; exact Or.inr rfl
  · rw [if_neg e]; exact h k hk
/-- a node's parts in the class -/
theorem NodOk.lr {q r : QS} {S T i : Nat} (h : NodOk q r S T i) : (10 ≤ nK r i → qI q 32 i = nI (nA r i) ∧ nA r i < i ∧ (two (nK r i) → qI q 33 i = nI (nB r i) ∧ nB r i < i) ∧ (¬ two (nK r i) → qI q 33 i = -1)) ∧ (nK r i ≤ 5 → qI q 32 i = -1 ∧ qI q 33 i = -1) := by
  refine ⟨fun h10 => ?_, fun h5 => ?_⟩
  · obtain ⟨e1, e2, e3, e4, e5, e6, e7, -⟩ := h.2.2.2.2.2.2.2.2.2.2.2.2.2 (by omega)
    exact ⟨e3, e1, fun h2 => ⟨(e6 h2).2.2.1, (e6 h2).1⟩, fun h2 => (e7 h2).2.1⟩
  · rcases Nat.lt_trichotomy (nK r i) 4 with c | c | c
    · exact (h.2.2.2.2.2.2.2.2.2.2.1 c).2.2.2.2
    · exact (h.2.2.2.2.2.2.2.2.2.2.2.1 c).2.2.2.2.2.2.2.2
    · have c5 : nK r i = 5 := by omega
      obtain ⟨-, -, -, x, y, -⟩ := h.2.2.2.2.2.2.2.2.2.2.2.2.1 c5
      exact ⟨x, y⟩
theorem isAgg {q : QS} {i k : Nat} (hi : i < 200) (hk : k ≤ 27) (h : qI q 30 i = nI k) : f_X2_isAggregate q (nI i) = some (if 5 ≤ k ∧ k ≤ 9 then 1 else 0) := by
  unfold f_X2_isAggregate f_X2_isAggregate_0 f_X2_isAggregateKind f_X2_isAggregateKind_0
  rw [rd_nI hi (by decide), Option.bind_some, h]
  by_cases c5 : 5 ≤ k
  · rw [if_neg (show ¬ nI k < (5 : Int32) from fun z => by rw [i32_lt, nI_toInt (by omega)] at z; have : (5 : Int32).toInt = 5 := rfl; omega)]
    by_cases c9 : k ≤ 9
    · rw [if_neg (show ¬ (9 : Int32) < nI k from fun z => by rw [i32_lt, nI_toInt (by omega)] at z; have : (9 : Int32).toInt = 9 := rfl; omega), if_pos ⟨c5, c9⟩]; rfl
    · rw [if_pos (show (9 : Int32) < nI k from nI_lt (a := 9) (by omega) (by omega)), if_neg (fun z => c9 z.2)]; rfl
  · rw [if_pos (show nI k < (5 : Int32) from nI_lt (b := 5) (by omega) (by decide)), if_neg (fun z => c5 z.1)]; rfl
/-- k is a part of p, which is no aggregate -/
def prs (r : QS) (p k : Nat) : Prop := 10 ≤ nK r p ∧ (k = nA r p ∨ (two (nK r p) ∧ k = nB r p))
theorem cp_loop {u S T N : Nat} {q0 r : QS} {K : QS → Option QS} (hu : u < 3) (hN : SimN q0 r S T N) (fu : Nat) : ∀ (q : QS) (m : Nat), OnPl u q0 q → m ≤ N → m < fu → N01 q u → (∀ p x, m ≤ p → p < N → Nd q u p → prs r p x → Nd q u x) → ∃ q', f_X3_complete_7 u K fu q (nI m - 1) = K q' ∧ OnPl u q q' ∧ N01 q' u ∧ (∀ k, Nd q u k → Nd q' u k) ∧ (∀ p x, p < N → Nd q' u p → prs r p x → Nd q' u x) ∧ ∀ k, Nd q' u k → Nd q u k ∨ ∃ p, k < p ∧ p < m ∧ Nd q' u p ∧ prs r p k := by
  have h200 := hN.1
  induction fu with
  | zero => intro q m _ _ h; omega
  | succ fu ih =>
    intro q m ho hm hf h01 hcl
    rw [f_X3_complete_7, f_X3_complete_7_b]
    rcases Nat.eq_zero_or_pos m with h0 | h0
    · subst h0
      rw [if_pos (by decide)]
      exact ⟨q, rfl, OnPl.rfl, h01, fun _ h => h, fun p x hp => hcl p x (Nat.zero_le _) hp, fun k h => Or.inl h⟩
    · obtain ⟨i, rfl⟩ : ∃ i, m = i + 1 := ⟨m - 1, by omega⟩
      have hnod := hN.2.2.2 i (by omega)
      obtain ⟨l1, l2⟩ := hnod.lr
      unfold f_X3_complete_48
      rw [nI_pred, if_neg (nI_pos (by omega)), rd_nI (by omega) (by decide), Option.bind_some, m1_sub]
      have hskip : (∀ x, Nd q u i → prs r i x → False) → ∃ q', f_X3_complete_7 u K fu q (nI i - 1) = K q' ∧ OnPl u q q' ∧ N01 q' u ∧ (∀ k, Nd q u k → Nd q' u k) ∧ (∀ p x, p < N → Nd q' u p → prs r p x → Nd q' u x) ∧ ∀ k, Nd q' u k → Nd q u k ∨ ∃ p, k < p ∧ p < i + 1 ∧ Nd q' u p ∧ prs r p k := fun hno => by
        obtain ⟨q', a1, a2, a3, a4, a5, a6⟩ := ih q i ho (by omega) (by omega) h01 (fun p x h1 h2 h3 h4 => by
          by_cases e : p = i
          · subst e; exact absurd h4 (fun z => hno x h3 z)
          · exact hcl p x (by omega) h2 h3 h4)
        exact ⟨q', a1, a2, a3, a4, a5, fun k hk => (a6 k hk).imp id (fun ⟨p, b1, b2, b3, b4⟩ => ⟨p, b1, by omega, b3, b4⟩)⟩
      rcases h01 i (by omega) with h | h
      · rw [if_pos h]
        exact hskip (fun x hx => by unfold Nd at hx; rw [h] at hx; exact absurd hx.2 (by decide))
      · have hni : Nd q u i := ⟨by omega, h⟩
        rw [if_neg (by rw [h]; decide), isAgg (by omega) hnod.1 (by rw [ho.1 30 (by omega) (by omega)]; exact hnod.2.2.1), Option.bind_some]
        by_cases hag : 5 ≤ nK r i ∧ nK r i ≤ 9
        · rw [if_pos hag, if_neg i1]
          exact hskip (fun x _ hp => by have := hp.1; omega)
        · rw [if_neg hag, if_pos rfl, rd_nI (by omega) (by decide), Option.bind_some, ho.1 32 (by omega) (by omega)]
          by_cases h10 : 10 ≤ nK r i
          · obtain ⟨e1, e2, e3, e4⟩ := l1 h10
            rw [e1, need_yes (by omega), Option.bind_some, rd_nI (by omega) (by decide), Option.bind_some, qI_uI, if_neg (by omega), ho.1 33 (by omega) (by omega)]
            have key : ∀ q1, OnPl u q q1 → N01 q1 u → (∀ k, Nd q1 u k ↔ Nd q u k ∨ prs r i k) → ∃ q', f_X3_complete_7 u K fu q1 (nI i - 1) = K q' ∧ OnPl u q q' ∧ N01 q' u ∧ (∀ k, Nd q u k → Nd q' u k) ∧ (∀ p x, p < N → Nd q' u p → prs r p x → Nd q' u x) ∧ ∀ k, Nd q' u k → Nd q u k ∨ ∃ p, k < p ∧ p < i + 1 ∧ Nd q' u p ∧ prs r p k := fun q1 hq1 h1 hk => by
              obtain ⟨q', a1, a2, a3, a4, a5, a6⟩ := ih q1 i (ho.trans hq1) (by omega) (by omega) h1 (fun p x h1 h2 h3 h4 => by
                by_cases e : p = i
                · subst e; exact (hk x).mpr (Or.inr h4)
                · rcases (hk p).mp h3 with h | h
                  · exact (hk x).mpr (Or.inl (hcl p x (by omega) h2 h h4))
                  · exfalso
                    rcases h.2 with z | ⟨z, z'⟩
                    · omega
                    · have := (e3 z).2; omega)
              refine ⟨q', a1, hq1.trans a2, a3, fun k h => a4 k ((hk k).mpr (Or.inl h)), a5, fun k h => ?_⟩
              rcases a6 k h with h | ⟨p, b1, b2, b3, b4⟩
              · rcases (hk k).mp h with h | h
                · exact Or.inl h
                · refine Or.inr ⟨i, ?_, by omega, a4 i ((hk i).mpr (Or.inl hni)), h⟩
                  rcases h.2 with z | ⟨z, z'⟩
                  · omega
                  · have := (e3 z).2; omega
              · exact Or.inr ⟨p, b1, by omega, b3, b4⟩
            by_cases h2 : two (nK r i)
            · obtain ⟨f1, f2⟩ := e3 h2
              rw [f1, need_yes (by omega), Option.bind_some]
              refine key _ (OnPl.n.trans OnPl.n) (N01_u (N01_u h01)) (fun k => ?_)
              rw [Nd_u (by omega), Nd_u (by omega)]
              constructor
              · intro z
                rcases z with z | z | z
                · exact Or.inr ⟨h10, Or.inr ⟨h2, z⟩⟩
                · exact Or.inr ⟨h10, Or.inl z⟩
                · exact Or.inl z
              · intro z
                rcases z with z | ⟨-, z | ⟨-, z⟩⟩
                · exact Or.inr (Or.inr z)
                · exact Or.inr (Or.inl z)
                · exact Or.inl z
            · rw [e4 h2, need_no, Option.bind_some]
              refine key _ OnPl.n (N01_u h01) (fun k => ?_)
              rw [Nd_u (by omega)]
              constructor
              · intro z
                rcases z with z | z
                · exact Or.inr ⟨h10, Or.inl z⟩
                · exact Or.inl z
              · intro z
                rcases z with z | ⟨-, z | ⟨z', z⟩⟩
                · exact Or.inr z
                · exact Or.inl z
                · exact absurd z' h2
          · obtain ⟨e1, e2⟩ := l2 (by omega)
            rw [e1, need_no, Option.bind_some, rd_nI (by omega) (by decide), Option.bind_some, ho.1 33 (by omega) (by omega), e2, need_no, Option.bind_some]
            exact hskip (fun x _ hp => h10 hp.1)
theorem cs_loop {u N : Nat} (hu : u < 3) (h200 : N ≤ 200) (fu : Nat) : ∀ (q : QS) (i c : Nat) (st : Nat → Nat), qF q 2 = nI N → i ≤ N → N - i < fu → N01 q u → c ≤ i → qF q (3 + u) = nI c → (∀ j, j < c → qI q (17 + 3 * u) j = nI (st j) ∧ st j < i ∧ Nd q u (st j)) → (∀ j j', j < j' → j' < c → st j < st j') → (∀ k, k < i → Nd q u k → ∃ j, j < c ∧ st j = k) → ∃ q', f_X3_complete_61 u fu q (nI i) = some q' ∧ OnPl u q q' ∧ qI q' (16 + 3 * u) = qI q (16 + 3 * u) ∧ PlanOk q' u (Nd q u) N := by
  induction fu with
  | zero => intro q i c st _ _ h; omega
  | succ fu ih =>
    intro q i c st h2 hi hf h01 hc hF hst hmo hco
    rw [f_X3_complete_61, f_X3_complete_61_b, h2]
    by_cases he : i = N
    · subst he
      rw [if_pos (nI_le (Nat.le_refl _) (by omega))]
      exact ⟨q, rfl, OnPl.rfl, rfl, c, st, by omega, hF, hst, hmo, hco⟩
    · rw [if_neg (nI_ge (by omega) (by omega)), rd_nI (by omega) (by decide), Option.bind_some]
      unfold f_X3_complete_98
      rw [nI_1]
      rcases h01 i (by omega) with h | h
      · rw [if_pos h]
        obtain ⟨q', a1, a2, a3, a4⟩ := ih q (i + 1) c st h2 (by omega) (by omega) h01 (by omega) hF (fun j hj => ⟨(hst j hj).1, by have := (hst j hj).2.1; omega, (hst j hj).2.2⟩) hmo (fun k hk hn => by
          by_cases e : k = i
          · subst e; unfold Nd at hn; rw [h] at hn; exact absurd hn.2 (by decide)
          · exact hco k (by omega) hn)
        exact ⟨q', a1, a2, a3, a4⟩
      · rw [if_neg (by rw [h]; decide), hF, wI_nI (show c < 200 by omega) (by decide), Option.bind_some, show qF (uI q (17 + 3 * u) c (nI i)) (3 + u) = nI c from hF, nI_1]
        have e16 : qI (uF (uI q (17 + 3 * u) c (nI i)) (3 + u) (nI (c + 1))) (16 + 3 * u) = qI q (16 + 3 * u) := by rw [qI_uF, qI_uI, if_neg (by omega)]
        have eN : ∀ k, Nd (uF (uI q (17 + 3 * u) c (nI i)) (3 + u) (nI (c + 1))) u k ↔ Nd q u k := fun k => by unfold Nd; rw [e16]
        obtain ⟨q', a1, a2, a3, a4⟩ := ih (uF (uI q (17 + 3 * u) c (nI i)) (3 + u) (nI (c + 1))) (i + 1) (c + 1) (fun j => if j = c then i else st j) (by rw [qF_uF, if_neg (by omega)]; exact h2) (by omega) (by omega) (fun k hk => by rw [e16]; exact h01 k hk) (by omega) (by rw [qF_uF, if_pos rfl]) (fun j hj => by
            rw [qI_uF, qI_uI, if_pos rfl, upd_at]
            by_cases e : j = c
            · simp only [if_pos e]; exact ⟨trivial, by omega, (eN i).mpr ⟨by omega, h⟩⟩
            · simp only [if_neg e]; obtain ⟨b1, b2, b3⟩ := hst j (by omega); exact ⟨b1, by omega, (eN _).mpr b3⟩) (fun j j' hj hj' => by
            by_cases e : j' = c
            · simp only [if_pos e, if_neg (show ¬ j = c by omega)]; exact (hst j (by omega)).2.1
            · simp only [if_neg e, if_neg (show ¬ j = c by omega)]; exact hmo j j' hj (by omega)) (fun k hk hn => by
            by_cases e : k = i
            · exact ⟨c, by omega, by rw [if_pos rfl, e]⟩
            · obtain ⟨j, b1, b2⟩ := hco k (by omega) ((eN k).mp hn)
              exact ⟨j, by omega, by rw [if_neg (by omega)]; exact b2⟩)
        refine ⟨q', a1, (OnPl.s.trans OnPl.f).trans a2, by rw [a3, e16], ?_⟩
        have : Nd (uF (uI q (17 + 3 * u) c (nI i)) (3 + u) (nI (c + 1))) u = Nd q u := by funext k; exact propext (eN k)
        rw [this] at a4
        exact a4
/-- the nodes that some roots need -/
def Rch (r : QS) (J P : Nat → Prop) (N : Nat) : Prop := (∀ k, J k → P k) ∧ (∀ p x, p < N → P p → prs r p x → P x) ∧ ∀ k, P k → J k ∨ ∃ p, k < p ∧ p < N ∧ P p ∧ prs r p k
theorem Rch.clo {r : QS} {J P : Nat → Prop} {N : Nat} (h : Rch r J P N) : Clo r P N := fun k hk hP h10 => ⟨h.2.1 k _ hk hP ⟨h10, Or.inl rfl⟩, fun h2 => h.2.1 k _ hk hP ⟨h10, Or.inr ⟨h2, rfl⟩⟩⟩
theorem c_complete {u S T N : Nat} {q r : QS} (hu : u < 3) (hN : SimN q r S T N) (h01 : N01 q u) : ∃ q' P, f_X3_complete u q = some q' ∧ OnPl u q q' ∧ PlanOk q' u P N ∧ Rch r (Nd q u) P N := by
  have h200 := hN.1
  unfold f_X3_complete f_X3_complete_0
  obtain ⟨q1, a1, a2, a3, a4, a5, a6⟩ := cp_loop (K := f_X3_complete_54 u) hu hN FU q N OnPl.rfl (Nat.le_refl _) (by show N < 100000; omega) h01 (fun p x h1 h2 => by omega)
  rw [hN.2.1, a1]
  unfold f_X3_complete_54
  have e16 : qI (uF q1 (3 + u) 0) (16 + 3 * u) = qI q1 (16 + 3 * u) := rfl
  have eN : Nd (uF q1 (3 + u) 0) u = Nd q1 u := rfl
  obtain ⟨q', b1, b2, b3, b4⟩ := cs_loop hu h200 FU (uF q1 (3 + u) 0) 0 0 (fun _ => 0) (by rw [qF_uF, if_neg (by omega), a2.2.2.1 2 (by omega)]; exact hN.2.1) (Nat.zero_le _) (by show N - 0 < 100000; omega) a3 (Nat.le_refl _) (by rw [qF_uF, if_pos rfl]; rfl) (fun j hj => by omega) (fun j j' _ hj => by omega) (fun k hk => by omega)
  rw [eN] at b4
  exact ⟨q', Nd q1 u, b1, (a2.trans OnPl.f).trans b2, b4, a4, a5, a6⟩
