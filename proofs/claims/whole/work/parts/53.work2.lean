/-- what a plan lists -/
def PlanOk (q : QS) (u : Nat) (P : Nat → Prop) (N : Nat) : Prop := ∃ (m : Nat) (st : Nat → Nat), m ≤ 200 ∧ qF q (3 + u) = nI m ∧ (∀ j, j < m → qI q (17 + 3 * u) j = nI (st j) ∧ st j < N ∧ P (st j)) ∧ (∀ j j', j < j' → j' < m → st j < st j') ∧ ∀ k, k < N → P k → ∃ j, j < m ∧ st j = k
/-- with a node that isn't an aggregate its parts -/
def Clo (r : QS) (P : Nat → Prop) (N : Nat) : Prop := ∀ k, k < N → P k → 10 ≤ nK r k → P (nA r k) ∧ (two (nK r k) → P (nB r k))
theorem ev_ty {q r : QS} {S T N : Nat} {ρ : Nat → Nat} {α : Nat → Vl} {P : Nat → Prop} (hS : SOk r S) (hT : SimT q r S T) (hN : SimN q r S T N) (hcl : Clo r P N) (hr : ∀ k, k < N → P k → rowAt r ρ k) (hα : ∀ k, k < N → P k → 5 ≤ nK r k → nK r k ≤ 9 → Ty (nT r k) (α k)) : ∀ n k, k < n → k < N → P k → Ty (nT r k) (ev r ρ α k) := by
  intro n
  induction n with
  | zero => intro k h; omega
  | succ n ih =>
    intro k hk hkN hp
    have hnod := hN.2.2.2 k hkN
    rw [ev_eq hnod.bef]
    refine nodv_ok hS hT hnod (hr k hkN hp) (hα k hkN hp) (fun h10 => ?_)
    have := hnod.bef.1 h10
    exact ih _ (by omega) (by omega) (hcl k hkN hp h10).1
theorem VC.onV {q q' : QS} (h : OnV q q') {v i : Nat} {x : Vl} (hv : v ≠ 2) (hx : VC q v i x) : VC q' v i x := VC_congr (h.1 _ (by omega)) (h.2.1 _ (by omega)) hx
theorem wo_loop {u m S T N : Nat} {q0 r : QS} {ρ : Nat → Nat} {α : Nat → Vl} {P : Nat → Prop} {st : Nat → Nat} (hS : SOk r S) (hT : SimT q0 r S T) (hN : SimN q0 r S T N) (hm : m ≤ 200) (hF : qF q0 (3 + u) = nI m) (hst : ∀ j, j < m → qI q0 (17 + 3 * u) j = nI (st j) ∧ st j < N ∧ P (st j)) (hmo : ∀ j j', j < j' → j' < m → st j < st j') (hco : ∀ k, k < N → P k → ∃ j, j < m ∧ st j = k) (hcl : Clo r P N) (hrow : ∀ k, k < N → P k → nK r k = 4 → qI q0 46 (nA r k) = nI (ρ (nA r k))) (hr : ∀ k, k < N → P k → rowAt r ρ k) (hα : ∀ k, k < N → P k → 5 ≤ nK r k → nK r k ≤ 9 → Ty (nT r k) (α k)) (fu : Nat) :
    ∀ (q : QS) (j : Nat), OnV q0 q → j ≤ m → m - j < fu → (∀ k, k < N → P k → 5 ≤ nK r k → nK r k ≤ 9 → VC q 2 k (α k)) → (∀ k, k < N → nK r k < 4 → VC q 2 k (sv r (nA r k))) → (∀ j', j' < j → VC q 2 (st j') (ev r ρ α (st j'))) → ∃ q', f_X1_workOut_2 u fu q (nI j) = some q' ∧ OnV q q' ∧ (∀ j', j' < m → VC q' 2 (st j') (ev r ρ α (st j'))) ∧ ∀ k x, (¬ P k ∨ nK r k < 4 ∨ (5 ≤ nK r k ∧ nK r k ≤ 9)) → k < N → VC q 2 k x → VC q' 2 k x := by
  have h200 := hN.1
  induction fu with
  | zero => intro q j _ _ h; omega
  | succ fu ih =>
    intro q j ho hj hf hq hc hd
    rw [f_X1_workOut_2]
    by_cases he : j = m
    · subst he
      unfold f_X1_workOut_2_b
      rw [ho.2.2.1, hF, if_pos (nI_le (Nat.le_refl _) (by omega))]
      exact ⟨q, rfl, OnV.rfl, hd, fun _ _ _ _ h => h⟩
    · have hjm : j < m := by omega
      obtain ⟨s1, s2, s3⟩ := hst j hjm
      have hnod := hN.2.2.2 _ s2
      have hpart : ∀ x, x < st j → P x → VC q 2 x (ev r ρ α x) := fun x hx hp => by
        obtain ⟨j', j1, j2⟩ := hco x (by omega) hp
        have : j' < j := by
          rcases Nat.lt_trichotomy j' j with h | h | h
          · exact h
          · rw [h] at j2; omega
          · have := hmo j j' h j1; omega
        rw [← j2]; exact hd j' this
      obtain ⟨q1, a1, a2, a3, a4⟩ := c_node (B := f_X1_workOut_2 u fu) (ρ := ρ) (α := α) (e := ev r ρ α) hS hT hnod (by omega) ho hjm hm (by rw [ho.2.2.1]; exact hF) (by rw [ho.1 _ (by omega)]; exact s1) (fun h4 => by rw [ho.1 46 (by decide)]; exact hrow _ s2 s3 h4) (hr _ s2 s3) (fun z1 z2 => hq _ s2 s3 z1 z2) (fun z => hc _ s2 z)
        (fun h10 => ⟨hpart _ (hnod.bef.1 h10) (hcl _ s2 s3 h10).1, ev_ty hS hT hN hcl hr hα 200 _ (by have := hnod.bef.1 h10; omega) (by have := hnod.bef.1 h10; omega) (hcl _ s2 s3 h10).1⟩)
        (fun h2 => by
          have h10 : 10 ≤ nK r (st j) := by unfold two at h2; omega
          have hb := hnod.bef.2.1 h2
          exact ⟨hpart _ hb ((hcl _ s2 s3 h10).2 h2), ev_ty hS hT hN hcl hr hα 200 _ (by omega) (by omega) ((hcl _ s2 s3 h10).2 h2)⟩)
      rw [← ev_eq hnod.bef] at a3
      obtain ⟨q', b1, b2, b3, b4⟩ := ih q1 (j + 1) (ho.trans a2.onV) (by omega) (by omega)
        (fun k k1 k2 k3 k4 => by
          by_cases e : k = st j
          · subst e; rw [a4 (Or.inr ⟨k3, k4⟩)]; exact hq _ k1 k2 k3 k4
          · exact (hq k k1 k2 k3 k4).other a2 (Or.inr e))
        (fun k k1 k2 => by
          by_cases e : k = st j
          · subst e; rw [a4 (Or.inl k2)]; exact hc _ k1 k2
          · exact (hc k k1 k2).other a2 (Or.inr e))
        (fun j' hj' => by
          by_cases e : j' = j
          · subst e; exact a3
          · exact (hd j' (by omega)).other a2 (Or.inr (by have := hmo j' j (by omega) hjm; omega)))
      refine ⟨q', by rw [a1]; exact b1, a2.onV.trans b2, b3, fun k x hk hkN hx => b4 k x hk hkN ?_⟩
      by_cases e : k = st j
      · rcases hk with hk | hk
        · subst e; exact absurd s3 hk
        · rw [a4 (by rw [← e]; exact hk)]; exact hx
      · exact hx.other a2 (Or.inr e)
theorem c_work {u S T N : Nat} {q r : QS} {ρ : Nat → Nat} {α : Nat → Vl} {P : Nat → Prop} (hS : SOk r S) (hT : SimT q r S T) (hN : SimN q r S T N) (hp : PlanOk q u P N) (hcl : Clo r P N) (hrow : ∀ k, k < N → P k → nK r k = 4 → qI q 46 (nA r k) = nI (ρ (nA r k))) (hr : ∀ k, k < N → P k → rowAt r ρ k) (hα : ∀ k, k < N → P k → 5 ≤ nK r k → nK r k ≤ 9 → Ty (nT r k) (α k) ∧ VC q 2 k (α k)) :
    ∃ q', f_X1_workOut u q = some q' ∧ OnV q q' ∧ (∀ k, k < N → P k → VC q' 2 k (ev r ρ α k)) ∧ ∀ k x, (¬ P k ∨ nK r k < 4 ∨ (5 ≤ nK r k ∧ nK r k ≤ 9)) → k < N → VC q 2 k x → VC q' 2 k x := by
  obtain ⟨m, st, p1, p2, p3, p4, p5⟩ := hp
  obtain ⟨q', a1, a2, a3, a4⟩ := wo_loop hS hT hN p1 p2 p3 p4 p5 hcl hrow hr (fun k h1 h2 h3 h4 => (hα k h1 h2 h3 h4).1) FU q 0 OnV.rfl (Nat.zero_le _) (by show m - 0 < 100000; omega) (fun k h1 h2 h3 h4 => (hα k h1 h2 h3 h4).2) (fun k h1 h2 => ((hN.2.2.2 k h1).cons hS h2).2.2.1) (fun j' h => by omega)
  refine ⟨q', a1, a2, fun k hk hP => ?_, a4⟩
  obtain ⟨j, j1, j2⟩ := p5 k hk hP
  rw [← j2]; exact a3 j j1
/-- what the run's own parts change leaves tables and nodes -/
theorem SimT.onV {q q' r : QS} {S T : Nat} (hS : SOk r S) (h : OnV q q') (hT : SimT q r S T) : SimT q' r S T := hT.congr hS (fun s _ => ⟨rfl, rfl, rfl, rfl, rfl⟩) rfl (by rw [h.2.2.1]) rfl rfl rfl rfl (h.1 _ (by decide)) (h.1 _ (by decide)) (h.1 _ (by decide)) (h.1 _ (by decide)) (h.2.1 _ (by decide))
theorem NodOk.val {q q' r : QS} {S T i : Nat} (hc : ∀ k, 30 ≤ k → k ≤ 37 → qI q' k i = qI q k i) (h7 : nK r i < 4 → VC q' 2 i (sv r (nA r i))) (hS : SOk r S) (h : NodOk q r S T i) : NodOk q' r S T i := by
  unfold NodOk at h ⊢
  rw [hc 30 (by decide) (by decide), hc 31 (by decide) (by decide), hc 32 (by decide) (by decide), hc 33 (by decide) (by decide), hc 34 (by decide) (by decide), hc 35 (by decide) (by decide), hc 36 (by decide) (by decide), hc 37 (by decide) (by decide)]
  refine ⟨h.1, h.2.1, h.2.2.1, h.2.2.2.1, h.2.2.2.2.1, h.2.2.2.2.2.1, h.2.2.2.2.2.2.1, h.2.2.2.2.2.2.2.1, h.2.2.2.2.2.2.2.2.1, h.2.2.2.2.2.2.2.2.2.1, fun hk => ?_, h.2.2.2.2.2.2.2.2.2.2.2⟩
  obtain ⟨c1, c2, ⟨s, s1, s2, s3⟩, c4, c5⟩ := h.2.2.2.2.2.2.2.2.2.2.1 hk
  have hs : nA r i = s := by unfold nA nt; rw [s2]; exact nI_clamp (by have := hS.1; omega)
  refine ⟨c1, c2, ⟨s, s1, s2, ?_⟩, c4, c5⟩
  rw [← hs]; exact h7 hk
theorem SimN.onV {q q' r : QS} {S T N : Nat} (hS : SOk r S) (h : OnV q q') (h7 : ∀ k x, nK r k < 4 → k < N → VC q 2 k x → VC q' 2 k x) (hN : SimN q r S T N) : SimN q' r S T N := ⟨hN.1, by rw [h.2.2.1]; exact hN.2.1, hN.2.2.1, fun i hi => (hN.2.2.2 i hi).val (fun k h1 h2 => by rw [h.1 k (by omega)]) (fun hk => h7 i _ hk hi ((hN.2.2.2 i hi).cons hS hk).2.2.1) hS⟩
