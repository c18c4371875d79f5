/-! every call keeps both sides at the same place, and the rooms stay small -/
theorem Sim.cap {κ n : Nat} {q r : QS} (h : Sim κ n q r) : qC q = κ ∧ 16 ≤ κ ∧ κ ≤ 2000 := by
  obtain ⟨S, T, N, I, G, O, K, I', -, -, -, -, -, -, -, -, h1, -, h3, h4⟩ := h
  rw [h1] at h3 h4
  exact ⟨h1, h3, h4⟩
theorem bz01 (x : Int32) : bz x = 0 ∨ bz x = 1 := by
  unfold bz
  split
  · exact Or.inl rfl
  · exact Or.inr rfl
theorem st_all {κ j : Nat} {q r : QS} (hj : j < 512) (h : Sim κ j q r) (k : Nat) (a1 a2 a3 a4 : Int32) : ∃ mc ms cap q' r', St k a1 a2 a3 a4 q r mc ms q' r' ∧ Sim cap (j + 1) q' r' ∧ Cost q cap mc ms := by
  have hκ := h.cap.1
  have c0 : Cost q κ 0 0 := Or.inl ⟨hκ.symm, rfl, rfl⟩
  have up : ∀ {c : Nat} {q' r' : QS}, Sim c j q' r' → Sim c (j + 1) q' r' := fun z => z.mono (Nat.le_succ j)
  match k with
  | 0 =>
    obtain ⟨q', r', h1, h2, h3⟩ := st_0 h
    exact ⟨0, 0, κ, q', r', ⟨⟨rfl, rfl⟩, h1, h2⟩, up h3, c0⟩
  | 1 =>
    obtain ⟨v, q', r', h1, h2, h3⟩ := st_1 h a1 a2
    exact ⟨0, 0, κ, q', r', ⟨⟨rfl, rfl⟩, v, h1, h2⟩, up h3, c0⟩
  | 2 =>
    obtain ⟨q', r', h1, h2, h3⟩ := st_2 h
    exact ⟨0, 0, κ, q', r', ⟨⟨rfl, rfl⟩, h1, h2⟩, up h3, c0⟩
  | 3 =>
    obtain ⟨v, q', r', h1, h2, h3⟩ := st_3 hj h a1 (lng a2 a3)
    exact ⟨0, 0, κ, q', r', ⟨⟨rfl, rfl⟩, v, h1, h2⟩, h3, c0⟩
  | 4 =>
    obtain ⟨v, q', r', h1, h2, h3⟩ := st_4 hj h a1 (bz a2)
    exact ⟨0, 0, κ, q', r', ⟨⟨rfl, rfl⟩, v, h1, h2⟩, h3, c0⟩
  | 5 =>
    obtain ⟨v, q', r', h1, h2, h3⟩ := st_5 hj h a1 (lng a2 a3) a4
    exact ⟨0, 0, κ, q', r', ⟨⟨rfl, rfl⟩, v, h1, h2⟩, h3, c0⟩
  | 6 =>
    obtain ⟨v, q', r', h1, h2, h3⟩ := st_6 h a1
    exact ⟨0, 0, κ, q', r', ⟨⟨rfl, rfl⟩, v, h1, h2⟩, up h3, c0⟩
  | 7 =>
    obtain ⟨v, q', r', h1, h2, h3⟩ := st_7 h a1 a2
    exact ⟨0, 0, κ, q', r', ⟨⟨rfl, rfl⟩, v, h1, h2⟩, up h3, c0⟩
  | 8 =>
    obtain ⟨v, q', r', h1, h2, h3⟩ := st_8 h
    exact ⟨0, 0, κ, q', r', ⟨⟨rfl, rfl⟩, v, h1, h2⟩, up h3, c0⟩
  | 9 =>
    obtain ⟨v, q', r', h1, h2, h3⟩ := st_9 h a1 a2 a3
    exact ⟨0, 0, κ, q', r', ⟨⟨rfl, rfl⟩, v, h1, h2⟩, up h3, c0⟩
  | 10 =>
    obtain ⟨v, h1, h2⟩ := st_10 h a1
    exact ⟨0, 0, κ, q, r, ⟨⟨rfl, rfl⟩, v, h1, rfl, h2, rfl⟩, up h, c0⟩
  | 11 =>
    obtain ⟨v, q', r', h1, h2, h3⟩ := st_11 h a1
    exact ⟨0, 0, κ, q', r', ⟨⟨rfl, rfl⟩, v, h1, h2⟩, up h3, c0⟩
  | 12 =>
    obtain ⟨v, q', r', h1, h2, h3⟩ := st_12 h a1
    exact ⟨0, 0, κ, q', r', ⟨⟨rfl, rfl⟩, v, h1, h2⟩, up h3, c0⟩
  | 13 =>
    obtain ⟨v, q', r', h1, h2, h3⟩ := st_13 h a1
    exact ⟨0, 0, κ, q', r', ⟨⟨rfl, rfl⟩, v, h1, h2⟩, up h3, c0⟩
  | 14 =>
    obtain ⟨v, q', r', h1, h2, h3⟩ := st_14 h a1 (bz a2) (bz01 a2)
    exact ⟨0, 0, κ, q', r', ⟨⟨rfl, rfl⟩, v, h1, h2⟩, up h3, c0⟩
  | 15 =>
    obtain ⟨v, q', r', h1, h2, h3⟩ := st_15 h a1
    exact ⟨0, 0, κ, q', r', ⟨⟨rfl, rfl⟩, v, h1, h2⟩, up h3, c0⟩
  | 16 =>
    obtain ⟨q', r', h1, h2, h3⟩ := st_16 h (bz a1) (bz01 a1)
    exact ⟨0, 0, κ, q', r', ⟨⟨rfl, rfl⟩, h1, h2⟩, up h3, c0⟩
  | 17 =>
    obtain ⟨mc, ms, cap, v, q', r', h1, h2, h3, h4, h5⟩ := st_17 h
    exact ⟨mc, ms, cap, q', r', ⟨v, h1, h2⟩, up h3, h4⟩
  | 18 =>
    obtain ⟨v, h1, h2⟩ := st_18 h a1 a2
    exact ⟨0, 0, κ, q, r, ⟨⟨rfl, rfl⟩, v, h1, rfl, h2, rfl⟩, up h, c0⟩
  | 19 =>
    obtain ⟨v, h1, h2⟩ := st_19 h a1 a2
    exact ⟨0, 0, κ, q, r, ⟨⟨rfl, rfl⟩, v, h1, rfl, h2, rfl⟩, up h, c0⟩
  | 20 =>
    obtain ⟨v, h1, h2⟩ := st_20 h a1 a2 a3
    exact ⟨0, 0, κ, q, r, ⟨⟨rfl, rfl⟩, v, h1, rfl, h2, rfl⟩, up h, c0⟩
  | k + 21 => exact ⟨0, 0, κ, q, r, ⟨⟨rfl, rfl⟩, rfl, rfl⟩, up h, c0⟩
theorem Sim_0 : Sim 16 0 qX0 qM0 := by
  have hS : SOk qM0 0 := ⟨by decide, fun s hs => ⟨rfl, rfl, rfl, rfl, Nat.zero_le _, Nat.zero_le _, (show 0 < 4 by decide), Nat.zero_le _⟩, rfl, rfl, rfl, rfl, fun s h1 h2 => by omega⟩
  refine ⟨0, 0, 0, 0, 0, 0, 0, 0, hS, Nat.le_refl _, rfl, hand_null hS (fun _ _ => rfl) (fun _ _ => rfl), ⟨by decide, rfl, rfl, fun t ht => by omega⟩, ⟨by decide, rfl, rfl, fun i hi => by omega⟩, ?_, ⟨by decide, by decide, rfl, rfl, rfl, rfl, fun row j hr => by omega⟩, ⟨rfl, rfl, Nat.le_refl _, (show 16 ≤ 2000 by decide)⟩⟩
  exact ⟨by decide, rfl, rfl, fun j hj => by omega, by decide, rfl, rfl, fun j hj => by omega, by decide, rfl, rfl, fun j hj => by omega, rfl, Or.inl rfl, rfl, (show (-1 : Int32) ≤ -1 by decide), rfl, Or.inl rfl⟩
def Iv (j : Nat) (q r : QS) (C S : Nat) : Prop := ∃ κ, Sim κ j q r ∧ C ≤ 100 + 12 * κ ∧ ((κ = 2000 ∧ S ≤ 431773) ∨ (κ < 2000 ∧ S ≤ 31773 + 100 * κ))
theorem pure_all : ∃ I : Nat → QS → QS → Nat → Nat → Prop, Kept I ∧ I 0 qX0 qM0 100 31773 := by
  refine ⟨Iv, ⟨fun j q r C S ⟨κ, h1, h2, h3⟩ => ?_, fun j q r C S hj ⟨κ, h1, h2, h3⟩ k a1 a2 a3 a4 hk => ?_⟩, 16, Sim_0, by omega, Or.inr ⟨by omega, by omega⟩⟩
  · have := h1.cap
    exact ⟨by omega, by omega⟩
  · obtain ⟨mc, ms, cap, q', r', s1, s2, s3⟩ := st_all hj h1 k a1 a2 a3 a4
    obtain ⟨b1, b2, b3⟩ := h1.cap
    obtain ⟨-, d2, d3⟩ := s2.cap
    refine ⟨mc, ms, q', r', s1, cap, s2, ?_⟩
    unfold Cost at s3
    rw [b1] at s3
    rcases s3 with ⟨x1, x2, x3⟩ | ⟨x1, x2, x3, x4⟩
    · subst x1; subst x2; subst x3
      exact ⟨by omega, by omega⟩
    · subst x3; subst x4
      refine ⟨by omega, ?_⟩
      by_cases e : cap = 2000
      · exact Or.inl ⟨e, by omega⟩
      · exact Or.inr ⟨by omega, by omega⟩
