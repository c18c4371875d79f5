/-! the condition, on both sides -/
/-- the condition holds for these rows; w is its node, if there is one -/
def Cnd (r : QS) (ρ : Nat → Nat) (w : Option Nat) : Prop := match w with
  | none => True
  | some i => vk (evi r ρ i) = 3 ∧ vn (evi r ρ i) = 1
/-- the condition's node -/
def Wn (r : QS) (N : Nat) (w : Option Nat) : Prop := match w with
  | none => qF r 3 = -1
  | some i => qF r 3 = nI i ∧ i < N ∧ (nT r i = 0 ∨ nT r i = 3) ∧ qI r 15 i = 0
theorem wn_of {q r : QS} {N I G O : Nat} (hQ : SimQ q r N I G O) : ∃ w, Wn r N w := by
  rcases hQ.2.2.2.2.2.2.2.2.2.2.2.2.2.1 with h | ⟨i, h1, h2, h3, h4⟩
  · exact ⟨none, h⟩
  · exact ⟨some i, h2, h1, h3, h4⟩
theorem c_meets {S T N I G O : Nat} {q r : QS} {P0 : Nat → Prop} {ρ : Nat → Nat} {w : Option Nat} (hS : SOk r S) (hT : SimT q r S T) (hN : SimN q r S T N) (hQ : SimQ q r N I G O) (hw : Wn r N w) (hp : PlanOk q 0 P0 N) (hrc : Rch r (fun k => qF q 9 = nI k ∧ k < N) P0 N) (h40 : ∀ t, t < 3 → ρ t < 40) (hrv : ∀ t, t < T → ρ t < tR r t) : ∃ q' z, f_X6_meetsCondition q (nI ((ρ 0 * 40 + ρ 1) * 40 + ρ 2)) = some (z, q') ∧ OnVR q q' ∧ KC r N q q' ∧ (Cnd r ρ w → z = 1) ∧ (¬ Cnd r ρ w → z = 0) := by
  have h200 := hN.1
  have h93 := hQ.2.2.2.2.2.2.2.2.2.2.2.2.1
  unfold f_X6_meetsCondition f_X6_meetsCondition_0
  cases w with
  | none =>
    have hw' : qF r 3 = -1 := hw
    rw [h93, hw', if_pos rfl]
    exact ⟨q, 1, rfl, OnVR.rfl, KC.rfl, fun _ => rfl, fun h => absurd trivial h⟩
  | some i =>
    obtain ⟨w1, w2, w3, w4⟩ := hw
    rw [h93, w1, if_neg (nI_neg (by omega))]
    obtain ⟨q1, a1, a2, a3, a4, a5, a6⟩ := c_goTo (q := q) (ρ := ρ) h40
    rw [a1, Option.bind_some]
    have o1 := goTo_vr a2 a3 a4 a5
    have k1 : KC r N q q1 := KC.of (a2 7 (by decide)) (by rw [a3])
    have hT1 := o1.run.T hS hT
    have hN1 := o1.run.N hS k1 hN
    have hcol : ∀ k, k < N → nK r k = 4 → nA r k < T := fun k hk h4 => ((hN.2.2.2 k hk).2.2.2.2.2.2.2.2.2.2.2.1 h4).2.1
    have hPi : P0 i := hrc.1 i ⟨by rw [h93, w1], w2⟩
    have hz : ∀ k, k < N → P0 k → qI r 15 k = 0 := fun k hk hp => hrc.z15 hN (fun j hj hJ => by
      have : i = j := nI_inj (by omega) (by omega) (by rw [← hJ.1, h93, w1])
      rw [← this]; exact w4) (N + 1) k (by omega) hk hp
    have hna : ∀ k, k < N → P0 k → ¬ isA r k := fun k hk hp ha => by
      have := hz k hk hp
      rw [agg1 (hN.2.2.2 k hk) ha.1 ha.2] at this
      exact absurd this (by decide)
    obtain ⟨q2, b1, b2, b3, b4⟩ := c_work (u := 0) (ρ := ρ) (α := fun _ => vNull) hS hT1 hN1 (hp.keep (a2 _ (by decide)) (by rw [a4])) hrc.clo (fun k hk _ h4 => a6 _ (by have := hcol k hk h4; have := hT.1; omega)) (fun k hk _ h4 => hrv _ (hcol k hk h4)) (fun k hk hp h5 h9 => absurd ⟨h5, h9⟩ (hna k hk hp))
    have hty := evi_ty hS hT hN hrc.clo hna hrv i w2 hPi
    rw [b1, Option.bind_some, b2.2.2.1, a4, h93, w1, f_isTruth (b3 i w2 hPi) (vOk_k hty.1) (show i < 200 by omega) (by show 200 < 20000; decide) 1 (Or.inr rfl), Option.bind_some]
    have hiff : (vk (ev r ρ (fun _ => vNull) i) = 3 ∧ ((vn (ev r ρ (fun _ => vNull) i) = 0 ∧ (1 : Int32) = 0) ∨ (vn (ev r ρ (fun _ => vNull) i) ≠ 0 ∧ (1 : Int32) = 1))) ↔ Cnd r ρ (some i) := by
      constructor
      · intro ⟨z1, z2⟩
        refine ⟨z1, ?_⟩
        rcases bool_n hty.1 z1 with h | h
        · rcases z2 with ⟨-, z⟩ | ⟨z, -⟩
          · exact absurd z (by decide)
          · exact absurd h z
        · exact h
      · intro ⟨z1, z2⟩
        have z2' : vn (ev r ρ (fun _ => vNull) i) = 1 := z2
        exact ⟨z1, Or.inr ⟨by rw [z2']; decide, rfl⟩⟩
    have k2 : KC r N q1 q2 := fun k y hk4 hkN hy => b4 k y (Or.inr (Or.inl hk4)) hkN hy
    by_cases hc : Cnd r ρ (some i)
    · rw [if_pos (hiff.mpr hc), if_pos sf1]
      exact ⟨q2, 1, rfl, o1.trans b2.vr, k1.trans k2, fun _ => rfl, fun h => absurd hc h⟩
    · rw [if_neg (fun z => hc (hiff.mp z)), if_pos sf0]
      exact ⟨q2, 0, rfl, o1.trans b2.vr, k1.trans k2, fun h => absurd h hc, fun _ => rfl⟩
theorem ct_loop {S T N i : Nat} {q0 r0 r1 : QS} {M : Nat → Nat} {ρ : Nat → Nat} {cb : Int32} {K : QS → Option (Int32 × QS)} (hS : SOk r0 S) (hT : SimT q0 r0 S T) (hN : SimN q0 r0 S T N) (hi : i < N) (hM : Mk r0 i M) (hb : SameB r0 r1) (hF : qF r1 3 = nI i) (h25 : ∀ k, k ≤ i → qI r1 25 k = nI (M k)) (hcb : ∀ t, t < 3 → f_X10_rowOf cb (nI t) = some (nI (ρ t))) (hrv : ∀ t, t < T → ρ t < tR r0 t) (hna : ∀ k, k ≤ i → M k = 1 → ¬ isA r0 k) (fu : Nat) :
    ∀ (r : QS) (kk : Nat), EvN r1 r → kk ≤ i + 1 → i + 1 - kk < fu → (∀ k, k < kk → M k = 1 → VR r k (evi r0 ρ k)) → ∃ r', f_X10_counts_11 K fu r cb (nI kk) = K r' ∧ EvN r r' ∧ VR r' i (evi r0 ρ i) := by
  have h200 := hN.1
  have hrch := hM.rch hN hi
  have hty : ∀ k, k ≤ i → M k = 1 → Ty (nT r0 k) (evi r0 ρ k) := fun k hk h1 => evi_ty hS hT hN hrch.clo (fun k _ hp => hna k hp.1 hp.2) hrv k (by omega) ⟨hk, h1⟩
  induction fu with
  | zero => intro r kk _ _ h; omega
  | succ fu ih =>
    intro r kk ho hkk hf hV
    rw [f_X10_counts_11, f_X10_counts_11_b, ho.2.2.1, hF]
    by_cases he : kk = i + 1
    · subst he
      rw [if_pos (nI_lt (by omega) (by omega))]
      exact ⟨r, rfl, EvN.rfl, hV i (by omega) hM.2.1⟩
    · have hki : kk ≤ i := by omega
      have hnod := hN.2.2.2 kk (by omega)
      have hbr : SameB r0 r := fun k hk => by
        rw [ho.1 k (by omega) (by omega) (by omega), ho.2.1 k (by omega) (by omega) (by omega) (by omega) (by omega)]; exact hb k hk
      have hle := hM.1 kk hki
      unfold f_X10_counts_35
      rw [if_neg (show ¬ nI i < nI kk from fun z => by rw [i32_lt, nI_toInt (by omega), nI_toInt (by omega)] at z; omega), rd_nI (by omega) (by decide), Option.bind_some, ho.1 25 (by decide) (by decide) (by decide), h25 kk hki, nI_1]
      by_cases k1 : M kk = 1
      · rw [if_pos (show nI (M kk) = (1 : Int32) by rw [k1]; rfl)]
        have hpp : ∀ x, prt r0 kk x → 10 ≤ nK r0 kk → VR r x (evi r0 ρ x) ∧ vOk (evi r0 ρ x) := fun x hx h10 => by
          have hlt := hnod.plt hx
          have : M x = 1 := by
            rw [hM.2.2.1 kk x hki (by rw [k1]; decide) hx]
            unfold inn
            rw [if_neg (by omega)]; exact k1
          exact ⟨hV x hlt this, (hty x (by omega) this).1⟩
        obtain ⟨r2, a1, a2, a3⟩ := r_node (α := fun _ => vNull) (e := evi r0 ρ) hS hT hnod (by omega) hbr hcb (fun h4 => hrv _ (hnod.2.2.2.2.2.2.2.2.2.2.2.1 h4).2.1) (hna kk hki k1) (fun h10 => hpp _ ⟨by omega, Or.inl rfl⟩ h10) (fun h2 => hpp _ ⟨by unfold two at h2; omega, Or.inr ⟨h2, rfl⟩⟩ (by unfold two at h2; omega))
        have hev : nodv r0 ρ (fun _ => vNull) kk (evi r0 ρ) = evi r0 ρ kk := (ev_eq hnod.bef).symm
        rw [hev] at a3
        rw [a1, Option.bind_some]
        obtain ⟨r', b1, b2, b3⟩ := ih r2 (kk + 1) (ho.trans a2.evn) (by omega) (by omega) (fun k hk h2 => by
            by_cases e : k = kk
            · subst e; exact a3
            · exact (hV k (by omega) h2).other a2 e)
        exact ⟨r', b1, a2.evn.trans b2, b3⟩
      · rw [if_neg (show ¬ nI (M kk) = (1 : Int32) from cNe (c := 1) k1 (by omega) (by decide))]
        refine ih r (kk + 1) ho (by omega) (by omega) (fun k hk h1 => ?_)
        by_cases e : k = kk
        · subst e; exact absurd h1 k1
        · exact hV k (by omega) h1
/-- the marks of the condition -/
def Wm (r0 r : QS) (w : Option Nat) : Prop := match w with
  | none => True
  | some i => ∃ M, Mk r0 i M ∧ ∀ k, k ≤ i → qI r 25 k = nI (M k)
theorem r_counts {S T N : Nat} {q0 r0 r : QS} {ρ : Nat → Nat} {w : Option Nat} {cb : Int32} (hS : SOk r0 S) (hT : SimT q0 r0 S T) (hN : SimN q0 r0 S T N) (hw : Wn r0 N w) (hm : Wm r0 r w) (hb : SameB r0 r) (hF : qF r 3 = qF r0 3) (hcb : ∀ t, t < 3 → f_X10_rowOf cb (nI t) = some (nI (ρ t))) (hrv : ∀ t, t < T → ρ t < tR r0 t) : ∃ r' z, f_X10_counts r cb = some (z, r') ∧ EvN r r' ∧ (Cnd r0 ρ w → z = 1) ∧ (¬ Cnd r0 ρ w → z = 0) := by
  have h200 := hN.1
  unfold f_X10_counts f_X10_counts_0
  rw [hF]
  cases w with
  | none =>
    have hw' : qF r0 3 = -1 := hw
    rw [hw', if_neg (by decide)]
    exact ⟨r, 1, rfl, EvN.rfl, fun _ => rfl, fun h => absurd trivial h⟩
  | some i =>
    obtain ⟨w1, w2, w3, w4⟩ := hw
    obtain ⟨M, m1', m2'⟩ := hm
    rw [w1, if_pos (show (0 : Int32) ≤ nI i from nI_le (a := 0) (Nat.zero_le _) (by omega))]
    have hrch := m1'.rch hN w2
    have hna : ∀ k, k ≤ i → M k = 1 → ¬ isA r0 k := fun k hk h1 ha => by
      have := hrch.all0 hN w2 w4 (N + 1) k (by omega) (by omega) ⟨hk, h1⟩
      rw [agg1 (hN.2.2.2 k (by omega)) ha.1 ha.2] at this
      exact absurd this (by decide)
    obtain ⟨r1, a1, a2, a3⟩ := ct_loop (K := f_X10_counts_41) (cb := cb) hS hT hN w2 m1' hb (by rw [hF, w1]) m2' hcb hrv hna FU r 0 EvN.rfl (Nat.zero_le _) (by show i + 1 - 0 < 100000; omega) (fun k hk => by omega)
    have a1' : f_X10_counts_11 f_X10_counts_41 FU r cb 0 = f_X10_counts_41 r1 := a1
    rw [a1']
    unfold f_X10_counts_41
    have hty := evi_ty hS hT hN hrch.clo (fun k _ hp => hna k hp.1 hp.2) hrv i w2 ⟨Nat.le_refl _, m1'.2.1⟩
    rw [a2.2.2.1, hF, w1, rd_nI (by omega) (by decide), Option.bind_some, a3.1, rd_nI (by omega) (by decide), Option.bind_some, a3.2.1]
    by_cases h0 : vk (evi r0 ρ i) = 0
    · rw [if_pos h0, if_neg i1]
      exact ⟨r1, 0, rfl, a2, fun h => by have := h.1; omega, fun _ => rfl⟩
    · rw [if_neg h0, if_pos rfl]
      have h3 : vk (evi r0 ρ i) = 3 := by have := hty.2; omega
      by_cases h1 : vn (evi r0 ρ i) = 1
      · rw [if_pos ((lg_eq0 _ _).mpr h1)]
        exact ⟨r1, 1, rfl, a2, fun _ => rfl, fun h => absurd ⟨h3, h1⟩ h⟩
      · rw [if_neg (fun z => h1 ((lg_eq0 _ _).mp z))]
        exact ⟨r1, 0, rfl, a2, fun h => absurd h.2 h1, fun _ => rfl⟩
