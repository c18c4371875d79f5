/-! loose columns, on both sides -/
def Mt (r : QS) (g k : Nat) : Prop := nA r (gn r g) = nA r k ∧ nB r (gn r g) = nB r k
def Ls (r : QS) (G k : Nat) : Prop := nK r k = 4 ∧ ∀ g, g < G → ¬ Mt r g k
theorem Rch.sub {r : QS} {J P P' : Nat → Prop} {N : Nat} (h : Rch r J P N) (hJ : ∀ k, J k → P' k) (hc : ∀ p x, p < N → P' p → prs r p x → P' x) : ∀ k, P k → P' k := by
  have main : ∀ n k, N - k < n → P k → P' k := by
    intro n
    induction n with
    | zero => intro k h; omega
    | succ n ih =>
      intro k hk hP
      rcases h.2.2 k hP with x | ⟨p, p1, p2, p3, p4⟩
      · exact hJ k x
      · exact hc p k p2 (ih p (by omega) p3) p4
  exact fun k hP => main (N - k + 1) k (by omega) hP
def Rc1 (r : QS) (N i k : Nat) : Prop := ∃ P, Rch r (fun k => k = i) P N ∧ P k
theorem P2_iff {q r : QS} {S T N I G O : Nat} {P2 : Nat → Prop} (hN : SimN q r S T N) (hQ : SimQ q r N I G O) (h : Rch r (fun k => ∃ j, j < I ∧ k = itn r j) P2 N) (k : Nat) : P2 k ↔ ∃ j, j < I ∧ Rc1 r N (itn r j) k := by
  constructor
  · refine h.sub (P' := fun k => ∃ j, j < I ∧ Rc1 r N (itn r j) k) (fun k ⟨j, j1, j2⟩ => ⟨j, j1, ?_⟩) (fun p x hp ⟨j, j1, P, p1, p2⟩ hx => ⟨j, j1, P, p1, p1.2.1 p x hp p2 hx⟩) k
    obtain ⟨r', M, m1, m2, m3, m4⟩ := r_mark hN (hQ.it j1).1
    rw [j2]
    exact ⟨_, m4.rch hN (hQ.it j1).1, Nat.le_refl _, m4.2.1⟩
  · intro ⟨j, j1, P, p1, p2⟩
    exact p1.sub (fun k e => h.1 k ⟨j, j1, e⟩) h.2.1 k p2
theorem SimQ.gr {q r : QS} {N I G O g S T : Nat} (hN : SimN q r S T N) (hT : SimT q r S T) (h : SimQ q r N I G O) (hg : g < G) : gn r g < N ∧ qI r 27 g = nI (gn r g) ∧ nK r (gn r g) = 4 ∧ qI r 12 (gn r g) = nI (nA r (gn r g)) ∧ qI r 13 (gn r g) = nI (nB r (gn r g)) ∧ qI q 40 g = nI (nA r (gn r g)) ∧ qI q 41 g = nI (nB r (gn r g)) ∧ nA r (gn r g) < 3 ∧ nB r (gn r g) < 8 := by
  obtain ⟨a, b, c, d, e⟩ := h.2.2.2.2.2.2.2.1 g hg
  obtain ⟨f1, f2, f3, f4, f5, -⟩ := (hN.2.2.2 _ a).2.2.2.2.2.2.2.2.2.2.2.1 c
  have hT3 := hT.1
  have hw := (hT.2.2.2 _ f2).2.1
  exact ⟨a, b, c, f4, f5, d.trans f4, e.trans f5, Nat.lt_of_lt_of_le f2 hT3, Nat.lt_of_lt_of_le f3 hw⟩
theorem col_at {q r : QS} {N k S T : Nat} (hN : SimN q r S T N) (hT : SimT q r S T) (hk : k < N) (h4 : nK r k = 4) : qI r 12 k = nI (nA r k) ∧ qI r 13 k = nI (nB r k) ∧ qI q 34 k = nI (nA r k) ∧ qI q 35 k = nI (nB r k) ∧ nA r k < 3 ∧ nB r k < 8 := by
  obtain ⟨f1, f2, f3, f4, f5, f6, f7, -⟩ := (hN.2.2.2 _ hk).2.2.2.2.2.2.2.2.2.2.2.1 h4
  have hT3 := hT.1
  have hw := (hT.2.2.2 _ f2).2.1
  exact ⟨f4, f5, f6, f7, Nat.lt_of_lt_of_le f2 hT3, Nat.lt_of_lt_of_le f3 hw⟩
theorem l44_0 {K : QS → Int32 → Int32 → Int32 → Int32 → Option (Int32 × QS)} {r : QS} {x1 x2 x3 : Int32} : f_X10_isLoose_44 K FU r x1 x2 x3 0 0 = K r x1 x2 x3 0 := by
  rw [show FU = 99999 + 1 from rfl, f_X10_isLoose_44, f_X10_isLoose_44_b]
  split
  · rfl
  · rw [if_pos rfl]
theorem l113 {B : QS → Int32 → Int32 → Int32 → Option (Int32 × QS)} {r : QS} {x1 x2 x4 : Int32} {k : Nat} (h2 : x2 = 0 ∨ x2 = 1) (h4 : x4 = 0 ∨ x4 = 1) : ∃ z, f_X10_isLoose_113 B r x1 x2 (nI k) x4 = B r x1 z (nI (k + 1)) ∧ (z = 0 ∨ z = 1) ∧ (z = 1 ↔ (x2 = 1 ∨ x4 = 1)) := by
  unfold f_X10_isLoose_113 f_X10_isLoose_122 f_X10_isLoose_127
  rw [nI_1]
  rcases h2 with rfl | rfl
  · rcases h4 with rfl | rfl
    · exact ⟨0, by rw [if_pos rfl, if_pos rfl], Or.inl rfl, by decide⟩
    · exact ⟨1, by rw [if_pos rfl, if_neg i1], Or.inr rfl, by decide⟩
  · exact ⟨1, by rw [if_neg i1], Or.inr rfl, ⟨fun _ => Or.inl rfl, fun _ => rfl⟩⟩
theorem lg_loop {q r r1 : QS} {S T N I G O k : Nat} {K : QS → Int32 → Int32 → Int32 → Int32 → Option (Int32 × QS)} {x1 x2 : Int32} (hN : SimN q r S T N) (hT : SimT q r S T) (hQ : SimQ q r N I G O) (ho : On25 r r1) (hk : k < N) (h4 : nK r k = 4) (fu : Nat) : ∀ (g : Nat) (x4 : Int32), g ≤ G → G - g < fu → (x4 = 0 ∨ x4 = 1) → (x4 = 1 ↔ ∀ g', g' < g → ¬ Mt r g' k) → ∃ z, f_X10_isLoose_44 K fu r1 x1 x2 (nI k) x4 (nI g) = K r1 x1 x2 (nI k) z ∧ (z = 0 ∨ z = 1) ∧ (z = 1 ↔ ∀ g', g' < G → ¬ Mt r g' k) := by
  have h200 := hN.1
  have hG := hQ.2.2.2.2.1
  have hF5 := hQ.2.2.2.2.2.2.1
  obtain ⟨k1, k2, -, -, k5, k6⟩ := col_at hN hT hk h4
  induction fu with
  | zero => intro g x4 _ h; omega
  | succ fu ih =>
    intro g x4 hg hf hx hiff
    rw [f_X10_isLoose_44, f_X10_isLoose_44_b, ho.2.2.1, hF5]
    by_cases he : g = G
    · subst he
      rw [if_pos (nI_le (Nat.le_refl _) (by omega))]
      exact ⟨x4, rfl, hx, hiff⟩
    · rw [if_neg (nI_ge (show g < G by omega) (by omega))]
      rcases hx with rfl | rfl
      · rw [if_pos rfl]
        exact ⟨0, rfl, Or.inl rfl, ⟨fun h => absurd h (by decide), fun h => absurd (hiff.mpr (fun g' hg' => h g' (by omega))) (by decide)⟩⟩
      · obtain ⟨a1, a2, a3, a4, a5, a6, a7, a8, a9⟩ := hQ.gr hN hT (show g < G by omega)
        rw [if_neg i1, ho.1 27 (by decide), ho.1 12 (by decide), ho.1 13 (by decide), rd_nI (show g < 4 by omega) (by decide), Option.bind_some, a2, rd_nI (show gn r g < 200 by omega) (by decide), Option.bind_some, rd_nI (show k < 200 by omega) (by decide), Option.bind_some, a4, k1]
        unfold f_X10_isLoose_100 f_X10_isLoose_105
        rw [nI_1]
        by_cases m1 : nA r (gn r g) = nA r k
        · rw [if_pos (by rw [m1]), Option.bind_some, rd_nI (show gn r g < 200 by omega) (by decide), Option.bind_some, rd_nI (show k < 200 by omega) (by decide), Option.bind_some, a5, k2]
          by_cases m2 : nB r (gn r g) = nB r k
          · rw [if_pos (by rw [m2])]
            exact ih (g + 1) 0 (by omega) (by omega) (Or.inl rfl) ⟨fun h => absurd h (by decide), fun h => absurd ⟨m1, m2⟩ (h g (by omega))⟩
          · rw [if_neg (fun h => m2 (nI_inj (by omega) (by omega) h))]
            refine ih (g + 1) 1 (by omega) (by omega) (Or.inr rfl) ⟨fun _ g' hg' hm => ?_, fun _ => rfl⟩
            by_cases e : g' = g
            · rw [e] at hm; exact m2 hm.2
            · exact hiff.mp rfl g' (by omega) hm
        · rw [if_neg (fun h => m1 (nI_inj (by omega) (by omega) h))]
          refine ih (g + 1) 1 (by omega) (by omega) (Or.inr rfl) ⟨fun _ g' hg' hm => ?_, fun _ => rfl⟩
          by_cases e : g' = g
          · rw [e] at hm; exact m1 hm.1
          · exact hiff.mp rfl g' (by omega) hm
def Lm (r : QS) (G : Nat) (M : Nat → Nat) (k : Nat) : Prop := ∃ k', k' < k ∧ M k' = 1 ∧ Ls r G k'
theorem lo_loop {q r r1 : QS} {S T N I G O i : Nat} {M : Nat → Nat} (hN : SimN q r S T N) (hT : SimT q r S T) (hQ : SimQ q r N I G O) (ho : On25 r r1) (hi : i < N) (hM2 : ∀ k, k ≤ i → M k ≤ 2) (hM : ∀ k, k ≤ i → qI r1 25 k = nI (M k)) (fu : Nat) : ∀ (k : Nat) (x2 : Int32), k ≤ i + 1 → i + 1 - k < fu → (x2 = 0 ∨ x2 = 1) → (x2 = 1 ↔ Lm r G M k) → ∃ z, f_X10_isLoose_9 fu r1 (nI i) x2 (nI k) = some (z, r1) ∧ (z = 0 ∨ z = 1) ∧ (z = 1 ↔ Lm r G M (i + 1)) := by
  have h200 := hN.1
  induction fu with
  | zero => intro k x2 _ h; omega
  | succ fu ih =>
    intro k x2 hk hf hx hiff
    rw [f_X10_isLoose_9, f_X10_isLoose_9_b]
    by_cases he : k = i + 1
    · subst he
      rw [if_pos (nI_lt (by omega) (by omega))]
      refine ⟨x2, ?_, hx, hiff⟩
      rcases hx with rfl | rfl
      · rw [if_pos nar0]
      · rw [if_pos nar1]
    · have hki : k ≤ i := by omega
      rw [if_neg (show ¬ nI i < nI k from fun h => by have := (nI_ltI (by omega) (by omega)).mp h; omega), rd_nI (show k < 200 by omega) (by decide), Option.bind_some, hM k hki]
      have step : ∀ x4 : Int32, (x4 = 0 ∨ x4 = 1) → (x4 = 1 ↔ (M k = 1 ∧ Ls r G k)) → ∃ z, f_X10_isLoose_113 (f_X10_isLoose_9 fu) r1 (nI i) x2 (nI k) x4 = some (z, r1) ∧ (z = 0 ∨ z = 1) ∧ (z = 1 ↔ Lm r G M (i + 1)) := by
        intro x4 h4 hi4
        obtain ⟨z, z1, z2, z3⟩ := l113 (B := f_X10_isLoose_9 fu) (r := r1) (x1 := nI i) (k := k) hx h4
        rw [z1]
        refine ih (k + 1) z (by omega) (by omega) z2 ⟨fun h => ?_, fun ⟨k', k1, k2, k3⟩ => ?_⟩
        · rcases z3.mp h with y | y
          · obtain ⟨k', k1, k2⟩ := hiff.mp y
            exact ⟨k', by omega, k2⟩
          · exact ⟨k, by omega, hi4.mp y⟩
        · by_cases e : k' = k
          · rw [e] at k2 k3
            exact z3.mpr (Or.inr (hi4.mpr ⟨k2, k3⟩))
          · exact z3.mpr (Or.inl (hiff.mpr ⟨k', by omega, k2, k3⟩))
      unfold f_X10_isLoose_38 f_X10_isLoose_39
      rw [l44_0]
      by_cases hm : M k = 1
      · rw [if_pos (show nI (M k) = (1 : Int32) by rw [hm]; rfl), ho.1 11 (by decide), rd_nI (show k < 200 by omega) (by decide), Option.bind_some, (hN.2.2.2 k (by omega)).2.1]
        by_cases h4 : nK r k = 4
        · rw [if_pos (show nI (nK r k) = (4 : Int32) by rw [h4]; rfl)]
          obtain ⟨z, z1, z2, z3⟩ := lg_loop (K := f_X10_isLoose_113 (f_X10_isLoose_9 fu)) (x1 := nI i) (x2 := x2) hN hT hQ ho (show k < N by omega) h4 FU 0 1 (Nat.zero_le _) (by have := hQ.2.2.2.2.1; show G - 0 < 100000; omega) (Or.inr rfl) ⟨fun _ g' h => by omega, fun _ => rfl⟩
          have z1' : f_X10_isLoose_44 (f_X10_isLoose_113 (f_X10_isLoose_9 fu)) FU r1 (nI i) x2 (nI k) 1 0 = f_X10_isLoose_113 (f_X10_isLoose_9 fu) r1 (nI i) x2 (nI k) z := z1
          rw [z1']
          exact step z z2 ⟨fun h => ⟨hm, h4, z3.mp h⟩, fun h => z3.mpr h.2.2⟩
        · rw [if_neg (show ¬ nI (nK r k) = (4 : Int32) from cNe (c := 4) h4 (by have := (hN.2.2.2 k (by omega)).1; omega) (by decide))]
          exact step 0 (Or.inl rfl) ⟨fun h => absurd h (by decide), fun h => absurd h.2.1 h4⟩
      · rw [if_neg (show ¬ nI (M k) = (1 : Int32) from cNe (c := 1) hm (by have := hM2 k hki; omega) (by decide))]
        exact step 0 (Or.inl rfl) ⟨fun h => absurd h (by decide), fun h => absurd h.1 hm⟩
theorem On25.Q {q r r' : QS} {N I G O : Nat} (h : On25 r r') (hQ : SimQ q r N I G O) : SimQ q r' N I G O := OnRw.Q h.evr.c.rw hQ
theorem r_loose {q r r1 : QS} {S T N I G O i : Nat} (hS : SOk r S) (hN : SimN q r S T N) (hT : SimT q r S T) (hQ : SimQ q r N I G O) (ho : On25 r r1) (hi : i < N) : ∃ r' z, f_X10_isLoose r1 (nI i) = some (z, r') ∧ On25 r r' ∧ (z = 0 ∨ z = 1) ∧ (z = 1 ↔ ∃ k, Rc1 r N i k ∧ Ls r G k) := by
  have h200 := hN.1
  obtain ⟨r2, M, m1, m2, m3, m4⟩ := r_mark (ho.evr.same.n hS (by rw [ho.2.2.1]) hN) hi
  have m4' : Mk r i M := m4.cg (ho.1 11 (by decide)).symm (ho.1 12 (by decide)).symm (ho.1 13 (by decide)).symm
  unfold f_X10_isLoose f_X10_isLoose_0
  rw [m1, Option.bind_some]
  obtain ⟨z, z1, z2, z3⟩ := lo_loop hN hT hQ (ho.trans m2) hi m4'.1 m3 FU 0 0 (Nat.zero_le _) (by show i + 1 - 0 < 100000; omega) (Or.inl rfl) ⟨fun h => absurd h (by decide), fun ⟨k', h, _⟩ => by omega⟩
  refine ⟨r2, z, z1, ho.trans m2, z2, z3.trans ⟨fun ⟨k, k1, k2, k3⟩ => ⟨k, ⟨_, m4'.rch hN hi, by omega, k2⟩, k3⟩, fun ⟨k, ⟨P, p1, p2⟩, k3⟩ => ?_⟩⟩
  obtain ⟨y1, y2⟩ := p1.sub (P' := fun k => k ≤ i ∧ M k = 1) (fun k e => by rw [e]; exact ⟨Nat.le_refl _, m4'.2.1⟩) (m4'.rch hN hi).2.1 k p2
  exact ⟨k, by omega, y2, k3⟩
/-- a loose column among the items -/
def Lo (r : QS) (N I G : Nat) : Prop := ∃ j, j < I ∧ ∃ k, Rc1 r N (itn r j) k ∧ Ls r G k
theorem rf_loop {q r : QS} {S T N I G O : Nat} {K : QS → Int32 → Option (Int32 × QS)} (hS : SOk r S) (hN : SimN q r S T N) (hT : SimT q r S T) (hQ : SimQ q r N I G O) (hgp : Gp r G I) (fu : Nat) : ∀ (r1 : QS) (j : Nat) (x1 : Int32), On25 r r1 → j ≤ I → I - j < fu → (x1 = 0 ∨ x1 = 1) → (x1 = 1 ↔ Lo r N j G) → ∃ r' z, f_X10_refusal_20 K fu r1 x1 (nI j) = K r' z ∧ On25 r r' ∧ (z = 0 ∨ z = 1) ∧ (z = 1 ↔ Lo r N I G) := by
  have hI := hQ.1
  induction fu with
  | zero => intro r1 j x1 _ _ h; omega
  | succ fu ih =>
    intro r1 j x1 ho hj hf hx hiff
    have hQ1 := ho.Q hQ
    have hN1 : SimN q r1 S T N := ho.evr.same.n hS (by rw [ho.2.2.1]) hN
    rw [f_X10_refusal_20, f_X10_refusal_20_b, hQ1.2.2.1]
    by_cases he : j = I
    · subst he
      rw [if_pos (nI_le (Nat.le_refl _) (by omega))]
      exact ⟨r1, x1, rfl, ho, hx, hiff⟩
    · have hjI : j < I := by omega
      have g1 : f_X10_isGathered r1 = some 1 := (r_gath hN1 hQ1).1 ((Gp.same ho.evr.same (ho.1 26 (by decide))).mpr hgp)
      rw [if_neg (nI_ge hjI (by omega)), g1, Option.bind_some, if_neg i1]
      unfold f_X10_refusal_52 f_X10_refusal_57
      rw [nI_1]
      rcases hx with rfl | rfl
      · obtain ⟨b1, b2, b3⟩ := hQ.it hjI
        obtain ⟨r2, z, z1, z2, z3, z4⟩ := r_loose hS hN hT hQ ho b1
        rw [if_pos rfl, ho.1 26 (by decide), rd_nI (show j < 8 by omega) (by decide), Option.bind_some, b2, z1, Option.bind_some]
        rcases z3 with rfl | rfl
        · rw [if_pos (show ((0 : Int32), r2).1 = 0 from rfl)]
          refine ih r2 (j + 1) 0 z2 (by omega) (by omega) (Or.inl rfl) ⟨fun h => absurd h (by decide), fun ⟨j', j1, j2⟩ => ?_⟩
          by_cases e : j' = j
          · rw [e] at j2; exact z4.mpr j2
          · exact hiff.mpr ⟨j', by omega, j2⟩
        · rw [if_neg (show ¬ ((1 : Int32), r2).1 = 0 from i1)]
          exact ih r2 (j + 1) 1 z2 (by omega) (by omega) (Or.inr rfl) ⟨fun _ => ⟨j, by omega, z4.mp rfl⟩, fun _ => rfl⟩
      · rw [if_neg i1]
        refine ih r1 (j + 1) 1 ho (by omega) (by omega) (Or.inr rfl) ⟨fun _ => ?_, fun _ => rfl⟩
        obtain ⟨j', j1, j2⟩ := hiff.mp rfl
        exact ⟨j', by omega, j2⟩
theorem r_refusal {q r : QS} {S T N I G O : Nat} (hS : SOk r S) (hN : SimN q r S T N) (hT : SimT q r S T) (hQ : SimQ q r N I G O) (hT1 : 1 ≤ T) (hI1 : 1 ≤ I) : ∃ r' z, f_X10_refusal r = f_X10_refusal_64 r' z ∧ On25 r r' ∧ (z = 0 ∨ z = 1) ∧ (z = 1 ↔ (Gp r G I ∧ Lo r N I G)) := by
  have hI := hQ.1
  have hT3 := hT.1
  unfold f_X10_refusal f_X10_refusal_0
  rw [hT.2.2.1, if_neg (show ¬ nI T = (0 : Int32) from cNe (c := 0) (by omega) (by omega) (by decide)), hQ.2.2.1, if_neg (show ¬ nI I = (0 : Int32) from cNe (c := 0) (by omega) (by omega) (by decide))]
  by_cases hg : Gp r G I
  · obtain ⟨r', z, a1, a2, a3, a4⟩ := rf_loop (K := f_X10_refusal_64) hS hN hT hQ hg FU r 0 0 On25.rfl (Nat.zero_le _) (by show I - 0 < 100000; omega) (Or.inl rfl) ⟨fun h => absurd h (by decide), fun ⟨j', h, _⟩ => by omega⟩
    exact ⟨r', z, a1, a2, a3, a4.trans ⟨fun h => ⟨hg, h⟩, fun h => h.2⟩⟩
  · refine ⟨r, 0, ?_, On25.rfl, Or.inl rfl, ⟨fun h => absurd h (by decide), fun h => absurd h.1 hg⟩⟩
    rw [show FU = 99999 + 1 from rfl, f_X10_refusal_20, f_X10_refusal_20_b, hQ.2.2.1, if_neg (show ¬ nI I ≤ (0 : Int32) from nI_ge (a := 0) (by omega) (by omega)), (r_gath hN hQ).2 hg, Option.bind_some, if_pos rfl]
/-! the class -/
theorem gb_loop {q r : QS} {S T N I G O k : Nat} (hN : SimN q r S T N) (hT : SimT q r S T) (hQ : SimQ q r N I G O) (hk : k < N) (h4 : nK r k = 4) (fu : Nat) : ∀ g, g ≤ G → G - g < fu → (∀ g', g' < g → ¬ Mt r g' k) → ((∀ g', g' < G → ¬ Mt r g' k) → f_X4_groupsBy_2 q fu (nI (nA r k)) (nI (nB r k)) (nI g) = some 0) ∧ (¬ (∀ g', g' < G → ¬ Mt r g' k) → f_X4_groupsBy_2 q fu (nI (nA r k)) (nI (nB r k)) (nI g) = some 1) := by
  have h200 := hN.1
  have hG := hQ.2.2.2.2.1
  have hF7 := hQ.2.2.2.2.2.1
  obtain ⟨k1, k2, -, -, k5, k6⟩ := col_at hN hT hk h4
  induction fu with
  | zero => intro g _ h; omega
  | succ fu ih =>
    intro g hg hf hd
    rw [f_X4_groupsBy_2, f_X4_groupsBy_2_b, hF7]
    by_cases he : g = G
    · subst he
      rw [if_pos (nI_le (Nat.le_refl _) (by omega))]
      exact ⟨fun _ => rfl, fun h => absurd hd h⟩
    · obtain ⟨a1, a2, a3, a4, a5, a6, a7, a8, a9⟩ := hQ.gr hN hT (show g < G by omega)
      rw [if_neg (nI_ge (show g < G by omega) (by omega)), rd_nI (show g < 4 by omega) (by decide), Option.bind_some, a6]
      unfold f_X4_groupsBy_32
      rw [nI_1]
      by_cases m1 : nA r (gn r g) = nA r k
      · rw [if_pos (by rw [m1]), rd_nI (show g < 4 by omega) (by decide), Option.bind_some, a7]
        by_cases m2 : nB r (gn r g) = nB r k
        · rw [if_pos (by rw [m2])]
          exact ⟨fun h => absurd ⟨m1, m2⟩ (h g (by omega)), fun _ => rfl⟩
        · rw [if_neg (fun h => m2 (nI_inj (by omega) (by omega) h))]
          refine ih (g + 1) (by omega) (by omega) (fun g' hg' hm => ?_)
          by_cases e : g' = g
          · rw [e] at hm; exact m2 hm.2
          · exact hd g' (by omega) hm
      · rw [if_neg (fun h => m1 (nI_inj (by omega) (by omega) h))]
        refine ih (g + 1) (by omega) (by omega) (fun g' hg' hm => ?_)
        by_cases e : g' = g
        · rw [e] at hm; exact m1 hm.1
        · exact hd g' (by omega) hm
theorem hl_loop {q r : QS} {S T N I G O m : Nat} {P : Nat → Prop} {st : Nat → Nat} (hN : SimN q r S T N) (hT : SimT q r S T) (hQ : SimQ q r N I G O) (hm : m ≤ 200) (h5 : qF q 5 = nI m) (hst : ∀ j, j < m → qI q 23 j = nI (st j) ∧ st j < N ∧ P (st j)) (hco : ∀ k, k < N → P k → ∃ j, j < m ∧ st j = k) (fu : Nat) : ∀ j, j ≤ m → m - j < fu → (∀ j', j' < j → ¬ Ls r G (st j')) → ((∃ k, k < N ∧ P k ∧ Ls r G k) → f_X6_hasLooseColumn_11 q fu (nI j) = some 1) ∧ (¬ (∃ k, k < N ∧ P k ∧ Ls r G k) → f_X6_hasLooseColumn_11 q fu (nI j) = some 0) := by
  have h200 := hN.1
  induction fu with
  | zero => intro j _ h; omega
  | succ fu ih =>
    intro j hj hf hd
    rw [f_X6_hasLooseColumn_11, f_X6_hasLooseColumn_11_b, h5]
    by_cases he : j = m
    · subst he
      rw [if_pos (nI_le (Nat.le_refl _) (by omega))]
      refine ⟨fun ⟨k, k1, k2, k3⟩ => ?_, fun _ => rfl⟩
      obtain ⟨j', j1, j2⟩ := hco k k1 k2
      rw [← j2] at k3
      exact absurd k3 (hd j' j1)
    · obtain ⟨a1, a2, a3⟩ := hst j (by omega)
      have hn := hN.2.2.2 _ a2
      rw [if_neg (nI_ge (show j < m by omega) (by omega)), rd_nI (show j < 200 by omega) (by decide), Option.bind_some, a1, rd_nI (show st j < 200 by omega) (by decide), Option.bind_some, hn.2.2.1]
      unfold f_X6_hasLooseColumn_75
      rw [nI_1]
      have go : ¬ Ls r G (st j) → ((∃ k, k < N ∧ P k ∧ Ls r G k) → f_X6_hasLooseColumn_11 q fu (nI (j + 1)) = some 1) ∧ (¬ (∃ k, k < N ∧ P k ∧ Ls r G k) → f_X6_hasLooseColumn_11 q fu (nI (j + 1)) = some 0) := fun hno => ih (j + 1) (by omega) (by omega) (fun j' hj' hl => by
        by_cases e : j' = j
        · rw [e] at hl; exact hno hl
        · exact hd j' (by omega) hl)
      by_cases h4 : nK r (st j) = 4
      · obtain ⟨k1, k2, k3, k4, k5, k6⟩ := col_at hN hT a2 h4
        rw [if_pos (show nI (nK r (st j)) = (4 : Int32) by rw [h4]; rfl), rd_nI (show st j < 200 by omega) (by decide), Option.bind_some, rd_nI (show st j < 200 by omega) (by decide), Option.bind_some, k3, k4]
        obtain ⟨g1, g2⟩ := gb_loop hN hT hQ a2 h4 FU 0 (Nat.zero_le _) (by have := hQ.2.2.2.2.1; show G - 0 < 100000; omega) (fun g' h => by omega)
        by_cases hl : ∀ g', g' < G → ¬ Mt r g' (st j)
        · have e0 : f_X4_groupsBy q (nI (nA r (st j))) (nI (nB r (st j))) = some 0 := g1 hl
          rw [e0, Option.bind_some, if_pos rfl]
          exact ⟨fun _ => rfl, fun h => absurd ⟨st j, a2, a3, h4, hl⟩ h⟩
        · have e0 : f_X4_groupsBy q (nI (nA r (st j))) (nI (nB r (st j))) = some 1 := g2 hl
          rw [e0, Option.bind_some, if_neg i1]
          exact go (fun h => hl h.2)
      · rw [if_neg (show ¬ nI (nK r (st j)) = (4 : Int32) from cNe (c := 4) h4 (by have := hn.1; omega) (by decide))]
        exact go (fun h => h4 h.1)
theorem Lo_iff {q r : QS} {S T N I G O : Nat} {P2 : Nat → Prop} (hN : SimN q r S T N) (hQ : SimQ q r N I G O) (h : Rch r (fun k => ∃ j, j < I ∧ k = itn r j) P2 N) (hP : ∀ k, P2 k → k < N) : (∃ k, k < N ∧ P2 k ∧ Ls r G k) ↔ Lo r N I G := by
  constructor
  · intro ⟨k, k1, k2, k3⟩
    obtain ⟨j, j1, j2⟩ := (P2_iff hN hQ h k).mp k2
    exact ⟨j, j1, k, j2, k3⟩
  · intro ⟨j, j1, k, k2, k3⟩
    have := (P2_iff hN hQ h k).mpr ⟨j, j1, k2⟩
    exact ⟨k, hP k this, this, k3⟩
theorem P2_lt {q r : QS} {S T N I G O : Nat} {P2 : Nat → Prop} (hQ : SimQ q r N I G O) (h : Rch r (fun k => ∃ j, j < I ∧ k = itn r j) P2 N) : ∀ k, P2 k → k < N := fun k hk => by
  rcases h.2.2 k hk with ⟨j, j1, j2⟩ | ⟨p, p1, p2, -⟩
  · rw [j2]; exact (hQ.it j1).1
  · omega
theorem c_loose {q r : QS} {S T N I G O : Nat} {P1 P2 : Nat → Prop} (hN : SimN q r S T N) (hT : SimT q r S T) (hQ : SimQ q r N I G O) (hp : Pl q r N I P1 P2) : ((Gp r G I ∧ Lo r N I G) → f_X6_hasLooseColumn q = some 1) ∧ (¬ (Gp r G I ∧ Lo r N I G) → f_X6_hasLooseColumn q = some 0) := by
  obtain ⟨⟨m, st, hm, h5, hst, hmo, hco⟩, hrc, -⟩ := id hp
  obtain ⟨g1, g2⟩ := c_grp hN hQ hp
  unfold f_X6_hasLooseColumn f_X6_hasLooseColumn_0
  obtain ⟨l1, l2⟩ := hl_loop (st := st) (P := P2) hN hT hQ hm h5 hst hco FU 0 (Nat.zero_le _) (by show m - 0 < 100000; omega) (fun j' h => by omega)
  have li := Lo_iff (G := G) hN hQ hrc (P2_lt (S := S) (T := T) hQ hrc)
  by_cases hg : Gp r G I
  · rw [g1 hg, Option.bind_some, if_neg i1]
    exact ⟨fun h => l1 (li.mpr h.2), fun h => l2 (fun z => h ⟨hg, li.mp z⟩)⟩
  · rw [g2 hg, Option.bind_some, if_pos rfl]
    exact ⟨fun h => absurd h.1 hg, fun _ => rfl⟩
/-- where no column is loose and there are no groups, the items have no column -/
theorem no_col {q r : QS} {S T N I G O : Nat} {P2 : Nat → Prop} (hN : SimN q r S T N) (hQ : SimQ q r N I G O) (h : Rch r (fun k => ∃ j, j < I ∧ k = itn r j) P2 N) (hlo : ¬ Lo r N I G) (hG : G = 0) : ∀ k, k < N → P2 k → nK r k ≠ 4 := fun k h1 h2 h3 =>
  hlo ((Lo_iff hN hQ h (P2_lt (S := S) (T := T) hQ h)).mp ⟨k, h1, h2, h3, fun g hg => by omega⟩)
