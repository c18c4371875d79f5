/-! the reference marks what a node needs -/
theorem in59 : ∀ k, k < 28 → f_X10_in (nI k) 5 9 = some (if 5 ≤ k ∧ k ≤ 9 then 1 else 0) := by decide +kernel
theorem nI2 {a b : Nat} (ha : a < 2 ^ 31) (hb : b < 2 ^ 31) : (nI a = nI b) = (a = b) := propext ⟨fun h => nI_inj ha hb h, fun h => by rw [h]⟩
/-- the marks alone have changed -/
def On25 (r r' : QS) : Prop := (∀ k, k ≠ 25 → qI r' k = qI r k) ∧ qL r' = qL r ∧ qF r' = qF r ∧ qC r' = qC r
theorem On25.rfl {r : QS} : On25 r r := ⟨fun _ _ => Eq.refl _, Eq.refl _, Eq.refl _, Eq.refl _⟩
theorem On25.trans {r r1 r2 : QS} (h : On25 r r1) (g : On25 r1 r2) : On25 r r2 := ⟨fun k a => (g.1 k a).trans (h.1 k a), g.2.1.trans h.2.1, g.2.2.1.trans h.2.2.1, g.2.2.2.trans h.2.2.2⟩
theorem On25.u {r : QS} {j : Nat} {x : Int32} : On25 r (uI r 25 j x) := ⟨fun k a => by rw [qI_uI, if_neg a], Eq.refl _, Eq.refl _, Eq.refl _⟩
/-- the mark that a node's parts get -/
def inn (r : QS) (p v : Nat) : Nat := if nK r p ≤ 9 then 2 else v
def Mk (r : QS) (i : Nat) (M : Nat → Nat) : Prop := (∀ k, k ≤ i → M k ≤ 2) ∧ M i = 1 ∧ (∀ p x, p ≤ i → M p ≠ 0 → prt r p x → M x = inn r p (M p)) ∧ ∀ k, k < i → M k ≠ 0 → ∃ p, p ≤ i ∧ k < p ∧ M p ≠ 0 ∧ prt r p k ∧ M k = inn r p (M p)
theorem mz_loop {i : Nat} {K : QS → Int32 → Option QS} (hi : i < 200) (fu : Nat) : ∀ (r : QS) (k : Nat), k ≤ i → i - k < fu → (∀ j, j < k → qI r 25 j = 0) → ∃ r', f_X10_mark_2 K fu r (nI i) (nI k) = K r' (nI i) ∧ On25 r r' ∧ ∀ j, j < i → qI r' 25 j = 0 := by
  induction fu with
  | zero => intro r k _ h; omega
  | succ fu ih =>
    intro r k hk hf hz
    rw [f_X10_mark_2, f_X10_mark_2_b]
    by_cases he : k = i
    · subst he
      rw [if_pos (nI_le (Nat.le_refl _) (by omega))]
      exact ⟨r, rfl, On25.rfl, hz⟩
    · rw [if_neg (nI_ge (by omega) (by omega)), wI_nI (by omega) (by decide), Option.bind_some, nI_1]
      obtain ⟨r', h1, h2, h3⟩ := ih (uI r 25 k 0) (k + 1) (by omega) (by omega) (fun j hj => by
        rw [qI_uI, if_pos rfl, upd_at]
        by_cases e : j = k
        · rw [if_pos e]
        · rw [if_neg e]; exact hz j (by omega))
      exact ⟨r', h1, On25.u.trans h2, h3⟩
theorem NodOk.rlr {q r : QS} {S T i : Nat} (h : NodOk q r S T i) (h6 : 6 ≤ nK r i) : qI r 12 i = nI (nA r i) ∧ nA r i < i ∧ (two (nK r i) → qI r 13 i = nI (nB r i) ∧ nB r i < i) ∧ (¬ two (nK r i) → qI r 13 i = -1) := by
  obtain ⟨e1, e2, e3, e4, e5, e6, e7, -⟩ := h.2.2.2.2.2.2.2.2.2.2.2.2.2 h6
  exact ⟨e2, e1, fun h2 => ⟨(e6 h2).2.1, (e6 h2).1⟩, fun h2 => (e7 h2).1⟩
theorem NodOk.plt {q r : QS} {S T i x : Nat} (h : NodOk q r S T i) (hp : prt r i x) : x < i := by
  obtain ⟨e1, e2, e3, -⟩ := h.rlr hp.1
  rcases hp.2 with z | ⟨z, z'⟩
  · omega
  · have := (e3 z).2; omega
theorem mk_loop {S T N i : Nat} {q0 r0 : QS} (hN : SimN q0 r0 S T N) (hi : i < N) (fu : Nat) : ∀ (r : QS) (m : Nat) (M : Nat → Nat), On25 r0 r → m ≤ i + 1 → m < fu → (∀ k, k ≤ i → qI r 25 k = nI (M k) ∧ M k ≤ 2) → M i = 1 → (∀ p x, m ≤ p → p ≤ i → M p ≠ 0 → prt r0 p x → M x = inn r0 p (M p)) → (∀ k, k < i → M k ≠ 0 → ∃ p, m ≤ p ∧ p ≤ i ∧ k < p ∧ M p ≠ 0 ∧ prt r0 p k ∧ M k = inn r0 p (M p)) → ∃ r' M', f_X10_mark_29 fu r (nI m - 1) = some r' ∧ On25 r r' ∧ (∀ k, k ≤ i → qI r' 25 k = nI (M' k)) ∧ Mk r0 i M' := by
  have h200 := hN.1
  induction fu with
  | zero => intro r m M _ _ h; omega
  | succ fu ih =>
    intro r m M ho hm hf hM hMi hcl hor
    rw [f_X10_mark_29, f_X10_mark_29_b]
    rcases Nat.eq_zero_or_pos m with h0 | h0
    · subst h0
      rw [if_pos (by decide)]
      exact ⟨r, M, rfl, On25.rfl, fun k hk => (hM k hk).1, fun k hk => (hM k hk).2, hMi, fun p x hp => hcl p x (Nat.zero_le _) hp, fun k hk h => by
        obtain ⟨p, b1, b2⟩ := hor k hk h
        exact ⟨p, b2⟩⟩
    · obtain ⟨j, rfl⟩ : ∃ j, m = j + 1 := ⟨m - 1, by omega⟩
      have hnod := hN.2.2.2 j (by omega)
      obtain ⟨m1', m2'⟩ := hM j (by omega)
      have hskip : (∀ x, M j ≠ 0 → prt r0 j x → False) → ∃ r' M', f_X10_mark_29 fu r (nI j - 1) = some r' ∧ On25 r r' ∧ (∀ k, k ≤ i → qI r' 25 k = nI (M' k)) ∧ Mk r0 i M' := fun hno => by
        refine ih r j M ho (by omega) (by omega) hM hMi (fun p x h1 h2 h3 h4 => ?_) (fun k hk h => ?_)
        · by_cases e : p = j
          · subst e; exact absurd h4 (fun z => hno x h3 z)
          · exact hcl p x (by omega) h2 h3 h4
        · obtain ⟨p, b1, b2⟩ := hor k hk h
          exact ⟨p, by omega, b2⟩
      have h90 : ∀ t, f_X10_mark_90 (f_X10_mark_29 fu) r (nI j) t = f_X10_mark_29 fu r (nI j - 1) := fun t => by
        unfold f_X10_mark_90 f_X10_mark_91 f_X10_mark_131
        rw [if_pos rfl, m1_sub]
      rw [nI_pred, if_neg (nI_pos (by omega)), rd_nI (by omega) (by decide), Option.bind_some, m1', rd_nI (by omega) (by decide), Option.bind_some, ho.1 11 (by decide), hnod.2.1, in59 _ (by have := hnod.1; omega), Option.bind_some]
      by_cases hz : M j = 0
      · rw [if_pos (by rw [hz]; rfl)]
        unfold f_X10_mark_71
        rw [if_pos (by decide), h90]
        exact hskip (fun x h => absurd hz h)
      · rw [if_neg (show ¬ nI (M j) = 0 from cNe (c := 0) hz (by omega) (by decide)), Option.bind_some]
        have h71 : (if (if 5 ≤ nK r0 j ∧ nK r0 j ≤ 9 then (1 : Int32) else 0) = 0 then f_X10_mark_71 (f_X10_mark_29 fu) r (nI j) (nI (M j)) else f_X10_mark_71 (f_X10_mark_29 fu) r (nI j) 2) = f_X10_mark_71 (f_X10_mark_29 fu) r (nI j) (nI (if 5 ≤ nK r0 j ∧ nK r0 j ≤ 9 then 2 else M j)) := by
          by_cases c : 5 ≤ nK r0 j ∧ nK r0 j ≤ 9
          · rw [if_pos c, if_neg i1, if_pos c]; rfl
          · rw [if_neg c, if_pos rfl, if_neg c]
        rw [h71]
        unfold f_X10_mark_71
        have hpos : 1 ≤ (if 5 ≤ nK r0 j ∧ nK r0 j ≤ 9 then 2 else M j) ∧ (if 5 ≤ nK r0 j ∧ nK r0 j ≤ 9 then 2 else M j) ≤ 2 := by
          split <;> omega
        rw [if_neg (show ¬ nI _ ≤ (0 : Int32) from nI_ge (a := 0) (by omega) (by omega)), rd_nI (by omega) (by decide), Option.bind_some, ho.1 11 (by decide), hnod.2.1, h90]
        by_cases h5 : nK r0 j ≤ 5
        · rw [if_pos (show nI (nK r0 j) ≤ (5 : Int32) from nI_le (b := 5) h5 (by decide))]
          exact hskip (fun x _ hp => by have := hp.1; omega)
        · rw [if_neg (show ¬ nI (nK r0 j) ≤ (5 : Int32) from nI_ge (a := 5) (by omega) (by have := hnod.1; omega))]
          have hin : (if 5 ≤ nK r0 j ∧ nK r0 j ≤ 9 then 2 else M j) = inn r0 j (M j) := by
            unfold inn
            by_cases c : nK r0 j ≤ 9
            · rw [if_pos ⟨by omega, c⟩, if_pos c]
            · rw [if_neg (fun z => c z.2), if_neg c]
          rw [hin] at hpos ⊢
          obtain ⟨e1, e2, e3, e4⟩ := hnod.rlr (by omega)
          unfold f_X10_mark_91 f_X10_mark_131
          rw [if_neg i1, rd_nI (by omega) (by decide), Option.bind_some, ho.1 12 (by decide), e1, wI_nI (by omega) (by decide), Option.bind_some, rd_nI (by omega) (by decide), Option.bind_some, Option.bind_some, show qI (uI r 25 (nA r0 j) (nI (inn r0 j (M j)))) 13 = qI r 13 from rfl, ho.1 13 (by decide), m1_sub]
          have next : ∀ r2, On25 r r2 → (∀ x, prt r0 j x → qI r2 25 x = nI (inn r0 j (M j))) → (∀ x, ¬ prt r0 j x → qI r2 25 x = qI r 25 x) → ∃ r' M', f_X10_mark_29 fu r2 (nI j - 1) = some r' ∧ On25 r r' ∧ (∀ k, k ≤ i → qI r' 25 k = nI (M' k)) ∧ Mk r0 i M' := by
            intro r2 p1 p2 p3
            have hd : ∀ x, Decidable (prt r0 j x) := fun x => Classical.propDecidable _
            let M2 : Nat → Nat := fun x => @ite Nat (prt r0 j x) (hd x) (inn r0 j (M j)) (M x)
            have my : ∀ x, prt r0 j x → M2 x = inn r0 j (M j) := fun x h => if_pos h
            have mn : ∀ x, ¬ prt r0 j x → M2 x = M x := fun x h => if_neg h
            have hge : ∀ p, j ≤ p → ¬ prt r0 j p := fun p hp z => by have := hnod.plt z; omega
            obtain ⟨r', M', a1, a2, a3⟩ := ih r2 j M2 (ho.trans p1) (by omega) (by omega) (fun k hk => by
                by_cases c : prt r0 j k
                · rw [my k c, p2 k c]; exact ⟨rfl, hpos.2⟩
                · rw [mn k c, p3 k c]; exact hM k hk) (by rw [mn i (hge i (by omega))]; exact hMi) (fun p x h1 h2 h3 h4 => by
                rw [mn p (hge p h1)] at h3 ⊢
                by_cases e : p = j
                · subst e; exact my x h4
                · have hnp := hN.2.2.2 p (by omega)
                  have : ¬ prt r0 j x := ((hnp.2.2.2.2.2.2.2.2.2.2.2.2.2 h4.1).2.2.2.2.2.2.2.2.2) j x (by omega) h4
                  rw [mn x this]
                  exact hcl p x (by omega) h2 h3 h4) (fun k hk h => by
                by_cases c : prt r0 j k
                · refine ⟨j, Nat.le_refl _, by omega, hnod.plt c, ?_, c, ?_⟩
                  · rw [mn j (hge j (Nat.le_refl _))]; exact hz
                  · rw [mn j (hge j (Nat.le_refl _)), my k c]
                · rw [mn k c] at h ⊢
                  obtain ⟨p, b1, b2, b3, b4, b5, b6⟩ := hor k hk h
                  exact ⟨p, by omega, b2, b3, by rw [mn p (hge p (by omega))]; exact b4, b5, by rw [mn p (hge p (by omega))]; exact b6⟩)
            exact ⟨r', M', a1, p1.trans a2, a3⟩
          by_cases h2 : two (nK r0 j)
          · obtain ⟨f1, f2⟩ := e3 h2
            rw [f1, if_neg (nI_pos (by omega)), wI_nI (by omega) (by decide), Option.bind_some]
            refine next _ (On25.u.trans On25.u) (fun x hx => ?_) (fun x hx => ?_)
            · rw [qI_uI, if_pos rfl, upd_at, qI_uI, if_pos rfl, upd_at]
              rcases hx.2 with z | ⟨-, z⟩
              · rw [if_pos z]; split <;> rfl
              · rw [if_pos z]
            · rw [qI_uI, if_pos rfl, upd_at, qI_uI, if_pos rfl, upd_at, if_neg (fun z => hx ⟨by omega, Or.inr ⟨h2, z⟩⟩), if_neg (fun z => hx ⟨by omega, Or.inl z⟩)]
          · rw [e4 h2, if_pos (by decide)]
            refine next _ On25.u (fun x hx => ?_) (fun x hx => ?_)
            · rw [qI_uI, if_pos rfl, upd_at]
              rcases hx.2 with z | ⟨z', z⟩
              · rw [if_pos z]
              · exact absurd z' h2
            · rw [qI_uI, if_pos rfl, upd_at, if_neg (fun z => hx ⟨by omega, Or.inl z⟩)]
theorem Mk.cg {r r' : QS} {i : Nat} {M : Nat → Nat} (h11 : qI r' 11 = qI r 11) (h12 : qI r' 12 = qI r 12) (h13 : qI r' 13 = qI r 13) (h : Mk r i M) : Mk r' i M := by
  have b1 : nK r' = nK r := by funext t; unfold nK; rw [h11]
  have b2 : nA r' = nA r := by funext t; unfold nA; rw [h12]
  have b3 : nB r' = nB r := by funext t; unfold nB; rw [h13]
  unfold Mk prt inn at h ⊢
  rw [b1, b2, b3]; exact h
theorem r_mark {S T N i : Nat} {q0 r : QS} (hN : SimN q0 r S T N) (hi : i < N) : ∃ r' M, f_X10_mark r (nI i) = some r' ∧ On25 r r' ∧ (∀ k, k ≤ i → qI r' 25 k = nI (M k)) ∧ Mk r i M := by
  have h200 := hN.1
  unfold f_X10_mark f_X10_mark_0
  obtain ⟨r1, a1, a2, a3⟩ := mz_loop (K := f_X10_mark_20) (show i < 200 by omega) FU r 0 (Nat.zero_le _) (by show i - 0 < 100000; omega) (fun j hj => by omega)
  have a1' : f_X10_mark_2 f_X10_mark_20 FU r (nI i) 0 = f_X10_mark_20 r1 (nI i) := a1
  rw [a1']
  unfold f_X10_mark_20
  rw [wI_nI (by omega) (by decide), Option.bind_some]
  have hrd : ∀ k, k ≤ i → qI (uI r1 25 i 1) 25 k = nI (if k = i then 1 else 0) := fun k hk => by
    rw [qI_uI, if_pos rfl, upd_at]
    by_cases e : k = i
    · rw [if_pos e, if_pos e]; rfl
    · rw [if_neg e, if_neg e, a3 k (by omega)]; rfl
  obtain ⟨r', M, b1, b2, b3, b4⟩ := mk_loop hN hi FU (uI r1 25 i 1) (i + 1) (fun k => if k = i then 1 else 0) (a2.trans On25.u) (Nat.le_refl _) (by show i + 1 < 100000; omega) (fun k hk => ⟨hrd k hk, by show (if k = i then 1 else 0) ≤ 2; split <;> omega⟩) (if_pos rfl) (fun p x h1 h2 => by omega) (fun k hk h => absurd (show (if k = i then 1 else 0) = 0 from if_neg (by omega)) h)
  rw [nI_pred] at b1
  exact ⟨r', M, b1, (a2.trans On25.u).trans b2, b3, b4⟩
/-! what the marks say -/
theorem Mk.two0 {S T N i : Nat} {q0 r : QS} {M : Nat → Nat} (hN : SimN q0 r S T N) (hi : i < N) (h : Mk r i M) : ∀ n k, i - k < n → k ≤ i → M k = 2 → qI r 15 k = 0 := by
  intro n
  induction n with
  | zero => intro k h; omega
  | succ n ih =>
    intro k hk hki h2
    have hne : k ≠ i := fun e => by rw [e, h.2.1] at h2; omega
    obtain ⟨p, p1, p2, p3, p4, p5⟩ := h.2.2.2 k (by omega) (by omega)
    have hnod := hN.2.2.2 p (by omega)
    have hk01 := (hN.2.2.2 k (by omega)).2.2.2.2.2.2.1
    obtain ⟨-, -, -, -, e5, e6, e7, -⟩ := hnod.2.2.2.2.2.2.2.2.2.2.2.2.2 p4.1
    unfold inn at p5
    by_cases c9 : nK r p ≤ 9
    · have h2' : ¬ two (nK r p) := by unfold two; omega
      rcases p4.2 with z | ⟨z, -⟩
      · rw [z]; exact e5 c9
      · exact absurd z h2'
    · rw [if_neg c9] at p5
      have hp := ih p (by omega) p1 (by omega)
      refine hk01.resolve_right (fun h1 => ?_)
      by_cases c2 : two (nK r p)
      · have := (e6 c2).2.2.2.2.mpr (by
          rcases p4.2 with z | ⟨-, z⟩
          · rw [← z]; exact Or.inl h1
          · rw [← z]; exact Or.inr h1)
        rw [hp] at this; exact absurd this (by decide)
      · have := (e7 c2).2.2.2.mpr (by
          rcases p4.2 with z | ⟨z', z⟩
          · rw [← z]; exact Or.inr h1
          · exact absurd z' c2)
        rw [hp] at this; exact absurd this (by decide)
theorem agg1 {S T i : Nat} {q r : QS} (h : NodOk q r S T i) (h5 : 5 ≤ nK r i) (h9 : nK r i ≤ 9) : qI r 15 i = 1 := by
  rcases Nat.eq_or_lt_of_le h5 with e | e
  · exact (h.2.2.2.2.2.2.2.2.2.2.2.2.1 e.symm).2.2.2.2.2
  · have h2 : ¬ two (nK r i) := by unfold two; omega
    exact ((h.2.2.2.2.2.2.2.2.2.2.2.2.2 e).2.2.2.2.2.2.1 h2).2.2.2.mpr (Or.inl h9)
theorem Mk.rch {S T N i : Nat} {q0 r : QS} {M : Nat → Nat} (hN : SimN q0 r S T N) (hi : i < N) (h : Mk r i M) : Rch r (fun k => k = i) (fun k => k ≤ i ∧ M k = 1) N := by
  refine ⟨fun k hk => by rw [hk]; exact ⟨Nat.le_refl _, h.2.1⟩, fun p x hp hP hx => ?_, fun k hk => ?_⟩
  · have hpr : prt r p x := ⟨by have := hx.1; omega, hx.2⟩
    have hlt := (hN.2.2.2 p hp).plt hpr
    refine ⟨by omega, ?_⟩
    rw [h.2.2.1 p x hP.1 (by rw [hP.2]; decide) hpr]
    unfold inn
    rw [if_neg (by have := hx.1; omega)]; exact hP.2
  · by_cases e : k = i
    · exact Or.inl e
    · obtain ⟨p, p1, p2, p3, p4, p5⟩ := h.2.2.2 k (by omega) (by rw [hk.2]; decide)
      unfold inn at p5
      by_cases c9 : nK r p ≤ 9
      · rw [if_pos c9, hk.2] at p5; omega
      · rw [if_neg c9, hk.2] at p5
        exact Or.inr ⟨p, p2, by omega, ⟨p1, p5.symm⟩, by omega, p4.2⟩
