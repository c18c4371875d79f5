/-! the limit, and what is kept -/
theorem r77 {r : QS} {m I : Nat} (hm : m ≤ 2000) (h4 : qF r 4 = nI I) : f_X10_run_77 r (nI m) = f_X10_run_112 FU (uF (uF (uF r 10 (nI m)) 11 (nI (min m 64))) 12 (nI I)) 0 := by
  unfold f_X10_run_77 f_X10_run_99
  have e10 : qF (uF r 10 (nI m)) 10 = nI m := rfl
  have e4 : ∀ z, qF (uF (uF r 10 (nI m)) 11 z) 4 = nI I := fun z => h4
  rw [e10, e4, e4]
  by_cases h : 64 ≤ m
  · rw [if_pos (show (64 : Int32) ≤ nI m from nI_le (a := 64) h (by omega)), Nat.min_eq_right h]
    rfl
  · rw [if_neg (show ¬ (64 : Int32) ≤ nI m from nI_ge (b := 64) (by omega) (by decide)), Nat.min_eq_left (by omega)]
theorem lim {q r : QS} {n I : Nat} {y : Int32} (hn : n ≤ 2000) (hq : qF q 10 = y) (hr : qF r 7 = y) (h1 : -1 ≤ y) (h10 : qF r 10 = nI n) (h4 : qF r 4 = nI I) : ∃ m, m ≤ n ∧ f_X4_cutToLimit q (nI n) = some (nI m) ∧ f_X10_run_47 r = f_X10_run_112 FU (uF (uF (uF r 10 (nI m)) 11 (nI (min m 64))) 12 (nI I)) 0 := by
  unfold f_X4_cutToLimit f_X4_cutToLimit_0 f_X10_run_47 f_X10_run_73
  rw [hq, hr, h10]
  rcases ix_cases y n (by omega) with (h | h) | ⟨j, h2, h3⟩
  · have e : y = -1 := by
      apply Int32.toInt_inj.mp
      rw [i32_lt] at h
      rw [i32_le] at h1
      have z1 : (-1 : Int32).toInt = -1 := rfl
      have z2 : (0 : Int32).toInt = 0 := rfl
      rw [z1] at h1 ⊢
      rw [z2] at h
      omega
    rw [if_pos e, if_pos h]
    exact ⟨n, Nat.le_refl _, rfl, r77 hn h4⟩
  · have h0 : ¬ y < 0 := fun z => by
      have z3 := nI_pos' (n := n) (by omega)
      rw [i32_lt] at z
      rw [i32_le] at h z3
      omega
    have hne : ¬ y = -1 := fun z => h0 (by rw [z]; decide)
    rw [if_neg hne, if_neg h0, if_pos h]
    refine ⟨n, Nat.le_refl _, ?_, r77 hn h4⟩
    unfold f_J9_min_7cf53 f_J9_min_7cf53_0
    rw [if_neg (fun z => by rw [i32_lt] at z; rw [i32_le] at h; omega)]
    rfl
  · rw [h3, if_neg (nI_neg (by omega)), if_neg (nI_pos (by omega)), if_neg (nI_ge h2 (by omega)), min_ok (by omega) (by omega), Option.bind_some, Nat.min_eq_right (by omega)]
    exact ⟨j, by omega, rfl, r77 (by omega) h4⟩
/-! the class keeps -/
def OnK (q q' : QS) : Prop := (∀ k, k ≠ 10 → qI q' k = qI q k) ∧ (∀ k, k ≠ 11 → qL q' k = qL q k) ∧ qF q' = qF q ∧ qC q' = qC q
theorem OnK.rfl {q : QS} : OnK q q := ⟨fun _ _ => Eq.refl _, fun _ _ => Eq.refl _, Eq.refl _, Eq.refl _⟩
theorem OnK.trans {q q1 q2 : QS} (h : OnK q q1) (g : OnK q1 q2) : OnK q q2 := ⟨fun k a => (g.1 k a).trans (h.1 k a), fun k a => (g.2.1 k a).trans (h.2.1 k a), g.2.2.1.trans h.2.2.1, g.2.2.2.trans h.2.2.2⟩
theorem Oc.onK {i : Nat} {q q' : QS} (h : Oc 3 i q q') : OnK q q' := ⟨fun k a => h.1 k a, fun k a => h.2.2.1 k a, h.2.2.2.2.1, h.2.2.2.2.2⟩
theorem HV.k {q q' : QS} {R I cap : Nat} {ty : Nat → Nat} {x : Nat → Nat → Vl} (o : OnK q q') (h : HV q R I cap ty x) : HV q' R I cap ty x := by
  obtain ⟨h1, h2, h3, h4, h5, h6, h7⟩ := h
  exact ⟨by rw [o.2.2.2]; exact h1, by rw [o.2.2.1]; exact h2, by rw [o.2.2.1]; exact h3, h4, h5, h6, fun ρ j a b => ⟨VC_congr (v := 4) (o.1 13 (by decide)) (o.2.1 14 (by decide)) (h7 ρ j a b).1, (h7 ρ j a b).2⟩⟩
theorem ki_loop {R I cap row ρ : Nat} {ty : Nat → Nat} {x : Nat → Nat → Vl} {K : QS → Int32 → Int32 → Option QS} (hrow : row < 64) (hrc : row < cap) (hρ : ρ < R) (fu : Nat) : ∀ (q : QS) (j : Nat), HV q R I cap ty x → qI q 54 row = nI ρ → j ≤ I → I - j < fu → (∀ j', j' < j → VC q 3 (row * 8 + j') (x ρ j')) → ∃ q', f_X0_keep_30 K fu q (nI I) (nI row) (nI j) = K q' (nI I) (nI row) ∧ OnK q q' ∧ (∀ j', j' < I → VC q' 3 (row * 8 + j') (x ρ j')) ∧ ∀ p z, p / 8 ≠ row → VC q 3 p z → VC q' 3 p z := by
  induction fu with
  | zero => intro q j _ _ _ h; omega
  | succ fu ih =>
    intro q j hv h54 hj hf hd
    have v4 := hv.v4
    obtain ⟨v1, v2, v3, v4', v5, v6, v7⟩ := id hv
    rw [f_X0_keep_30, f_X0_keep_30_b]
    by_cases he : j = I
    · subst he
      rw [if_pos (nI_le (Nat.le_refl _) (by omega))]
      exact ⟨q, rfl, OnK.rfl, hd, fun _ _ _ z => z⟩
    · have hjI : j < I := by omega
      rw [if_neg (nI_ge hjI (by omega)), plc0, Option.bind_some, v1, rd_nI hrc (by omega), Option.bind_some, h54, plc, Option.bind_some]
      obtain ⟨a1, a2⟩ := v7 ρ j hρ hjI
      obtain ⟨q1, b1, b2, b3⟩ := v_copy (q := q) (v := 3) (u := 4) (i := row * 8 + j) (j := ρ * 8 + j) a1 (vOk_k a2.1) (show row * 8 + j < 512 by omega) (show (512 : Nat) < 20000 by decide) (by rw [v4]; omega) (by rw [v4]; omega)
      rw [b1, Option.bind_some, nI_1]
      obtain ⟨q', d1, d2, d3, d4⟩ := ih q1 (j + 1) (hv.k b3.onK) (by rw [b3.onK.1 54 (by decide)]; exact h54) (by omega) (by omega) (fun j' hj' => by
        by_cases e : j' = j
        · subst e; exact b2
        · exact (hd j' (by omega)).other b3 (Or.inr (by omega)))
      exact ⟨q', d1, b3.onK.trans d2, d3, fun p z hp hz => d4 p z hp (hz.other b3 (Or.inr (by omega)))⟩
theorem ko_loop {R I cap Kn : Nat} {ty : Nat → Nat} {x : Nat → Nat → Vl} {s : Nat → Nat} (hK : Kn ≤ 64) (hKc : Kn ≤ cap) (hs : ∀ p, p < Kn → s p < R) (fu : Nat) : ∀ (q : QS) (row : Nat), HV q R I cap ty x → qF q 0 = nI Kn → (∀ p, p < Kn → qI q 54 p = nI (s p)) → row ≤ Kn → Kn - row < fu → (∀ p j, p < row → j < I → VC q 3 (p * 8 + j) (x (s p) j)) → ∃ q', f_X0_keep_18 fu q (nI I) (nI row) = some q' ∧ OnK q q' ∧ ∀ p j, p < Kn → j < I → VC q' 3 (p * 8 + j) (x (s p) j) := by
  induction fu with
  | zero => intro q row _ _ _ _ h; omega
  | succ fu ih =>
    intro q row hv h0 h54 hr hf hd
    rw [f_X0_keep_18, f_X0_keep_18_b, h0]
    by_cases he : row = Kn
    · subst he
      rw [if_pos (nI_le (Nat.le_refl _) (by omega))]
      exact ⟨q, rfl, OnK.rfl, hd⟩
    · have hrK : row < Kn := by omega
      have hI8 := hv.2.2.2.2.2.1
      rw [if_neg (nI_ge hrK (by omega))]
      obtain ⟨q1, a1, a2, a3, a4⟩ := ki_loop (K := f_X0_keep_73 (f_X0_keep_18 fu)) (show row < 64 by omega) (show row < cap by omega) (hs row hrK) FU q 0 hv (h54 row hrK) (Nat.zero_le _) (by show I - 0 < 100000; omega) (fun j' h => by omega)
      have a1' : f_X0_keep_30 (f_X0_keep_73 (f_X0_keep_18 fu)) FU q (nI I) (nI row) 0 = f_X0_keep_73 (f_X0_keep_18 fu) q1 (nI I) (nI row) := a1
      rw [a1']
      unfold f_X0_keep_73
      rw [nI_1]
      obtain ⟨q', d1, d2, d3⟩ := ih q1 (row + 1) (hv.k a2) (by rw [a2.2.2.1]; exact h0) (fun p hp => by rw [a2.1 54 (by decide)]; exact h54 p hp) (by omega) (by omega) (fun p j hp hj => by
        by_cases e : p = row
        · subst e; exact a3 j hj
        · exact a4 _ _ (by omega) (hd p j (by omega) hj))
      exact ⟨q', d1, a2.trans d2, d3⟩
/-! the reference keeps -/
def OnE (r r' : QS) : Prop := (∀ k, (k ≤ 16 ∨ (26 ≤ k ∧ k ≤ 31)) → qI r' k = qI r k ∧ qL r' k = qL r k) ∧ (∀ k, k < 9 → qF r' k = qF r k)
theorem OnSr.e {r r' : QS} (h : OnSr r r') : OnE r r' := ⟨fun k a => h.1 k (by omega), fun k a => h.2.1 k (by omega)⟩
theorem OnE.same {r r' : QS} (h : OnE r r') : SameB r r' := fun k hk => h.1 k (Or.inl hk)
theorem Cx.e {q r r' : QS} {S T N C : Nat} {cr : Nat → Nat → Nat} (h : OnE r r') (hc : Cx q r S T N C cr) : Cx q r' S T N C cr := by
  obtain ⟨h1, h2, h3, h4⟩ := hc
  refine ⟨same_SOk h.same.s h1, h.same.t h1 (h.2 1 (by decide)) h2, h.same.n h1 (h.2 2 (by decide)) h3, h4.1, fun c hc t ht => ?_, fun c hc t ht => ?_⟩
  · rw [(h.1 30 (by decide)).1]; exact h4.2.1 c hc t ht
  · rw [h.same.fs.2.2.2.2.2.1]; exact h4.2.2 c hc t ht
theorem r_evx {q0 r0 r : QS} {S T N I C R j a : Nat} {cr : Nat → Nat → Nat} {g : Nat → List Nat} {fi : Nat → Int32} (h : Rx q0 r0 S T N I C R cr g fi) (ho : OnE r0 r) (hj : j < I) (ha : a < R) : ∃ r', f_X10_evaluate r (nI (itn r0 j)) (fi a) = some r' ∧ EvR r r' ∧ VR r' (itn r0 j) (xv r0 cr g a j) ∧ Ty (nT r0 (itn r0 j)) (xv r0 cr g a j) := by
  obtain ⟨h1, h2, h3, h4, h5, h6⟩ := h
  obtain ⟨⟨a1, a2, a3⟩, b2, -⟩ := h6 a ha
  obtain ⟨c1, c2, c3, c4⟩ := h1.e ho
  obtain ⟨r', d1, d2, d3, d4⟩ := r_eval (l := g a) c1 c2 c3 (h5 j hj).1 c4 (by rw [(ho.1 31 (by decide)).1]; exact a1) a2 a3 ((b2 j hj).same ho.same)
  rw [ho.same.eVal] at d3 d4
  rw [ho.same.fs.2.2.2.1] at d4
  exact ⟨r', d1, d2, d3, d4⟩
def KR (r : QS) (p : Nat) (x : Vl) : Prop := qI r 38 p = nI (vk x) ∧ qL r 39 p = vn x ∧ qI r 40 p = nI (vl x) ∧ ∀ t, t < 4 → qL r 41 (4 * p + t) = vw x t
def KF (r r' : QS) : Prop := (∀ k, (k ≤ 16 ∨ (26 ≤ k ∧ k ≤ 33)) → qI r' k = qI r k ∧ qL r' k = qL r k) ∧ qF r' = qF r
theorem KF.rfl {r : QS} : KF r r := ⟨fun _ _ => ⟨Eq.refl _, Eq.refl _⟩, Eq.refl _⟩
theorem KF.trans {r r1 r2 : QS} (h : KF r r1) (g : KF r1 r2) : KF r r2 := ⟨fun k a => ⟨((g.1 k a).1).trans (h.1 k a).1, ((g.1 k a).2).trans (h.1 k a).2⟩, g.2.trans h.2⟩
theorem KF.e {r0 r r' : QS} (h : KF r r') (g : OnE r0 r) : OnE r0 r' := ⟨fun k a => ⟨((h.1 k (by omega)).1).trans (g.1 k a).1, ((h.1 k (by omega)).2).trans (g.1 k a).2⟩, fun k a => by rw [h.2]; exact g.2 k a⟩
theorem kw_loop {i p : Nat} {W : Nat → Int64} {K : QS → Int32 → Int32 → Option (Int32 × QS)} {x2 x3 : Int32} (hi : i < 200) (hp : p < 512) (fu : Nat) : ∀ (r : QS) (t : Nat), t ≤ 4 → 4 - t < fu → (∀ s, s < 4 → qL r 20 (4 * i + s) = W s) → (∀ s, s < t → qL r 41 (4 * p + s) = W s) → ∃ r', f_X10_run_218 K fu r x2 x3 (nI i) (nI p) (nI t) = K r' x2 x3 ∧ qI r' = qI r ∧ (∀ k, k ≠ 41 → qL r' k = qL r k) ∧ qF r' = qF r ∧ (∀ j, j / 4 ≠ p → qL r' 41 j = qL r 41 j) ∧ ∀ s, s < 4 → qL r' 41 (4 * p + s) = W s := by
  induction fu with
  | zero => intro r t _ h; omega
  | succ fu ih =>
    intro r t ht hf hW hd
    rw [f_X10_run_218, f_X10_run_218_b]
    by_cases he : t = 4
    · subst he
      rw [if_pos (by decide)]
      exact ⟨r, rfl, rfl, fun _ _ => rfl, rfl, fun _ _ => rfl, hd⟩
    · rw [if_neg (show ¬ (4 : Int32) ≤ nI t from nI_ge (b := 4) (by omega) (by decide)), lit4_nI, lit4_nI, nI_add, nI_add, rd_nI (show 4 * i + t < 800 by omega) (by decide), Option.bind_some, hW t (by omega), wL_nI (show 4 * p + t < 2048 by omega) (by decide), Option.bind_some, nI_1]
      obtain ⟨r', a1, a2, a3, a4, a5, a6⟩ := ih (uL r 41 (4 * p + t) (W t)) (t + 1) (by omega) (by omega) (fun s hs => by rw [qL_uL, if_neg (by decide)]; exact hW s hs) (fun s hs => by
        rw [qL_uL, if_pos rfl, updL_at]
        by_cases e : s = t
        · rw [if_pos (by omega), e]
        · rw [if_neg (by omega)]; exact hd s (by omega))
      exact ⟨r', a1, a2, fun k hk => by rw [a3 k hk, qL_uL, if_neg hk], a4, fun j hj => by rw [a5 j hj, qL_uL, if_pos rfl, updL_at, if_neg (by omega)], a6⟩
theorem k185 {B : QS → Int32 → Int32 → Option (Int32 × QS)} {r : QS} {i p j : Nat} {x : Vl} {x2 : Int32} (hi : i < 200) (hp : p < 512) (hk : vk x < 4) (hx : VR r i x) : ∃ r', f_X10_run_185 B r x2 (nI j) (nI i) (nI p) (nI p) (nI (vk x)) = B r' x2 (nI (j + 1)) ∧ KF r r' ∧ KR r' p x ∧ ∀ p' z, p' ≠ p → KR r p' z → KR r' p' z := by
  obtain ⟨x1, x2', x3, x4⟩ := hx
  unfold f_X10_run_185
  rw [nb8 (by omega), wI_nI hp (by decide), Option.bind_some, qL_uI, rd_nI hi (by decide), Option.bind_some, x2', wL_nI hp (by decide), Option.bind_some]
  rw [show qI (uL (uI r 38 p (nI (vk x))) 39 p (vn x)) 19 = qI r 19 from by rw [qI_uL, qI_uI, if_neg (by decide)], rd_nI hi (by decide), Option.bind_some, x3, wI_nI hp (by decide), Option.bind_some]
  have hW : ∀ s, s < 4 → qL (uI (uL (uI r 38 p (nI (vk x))) 39 p (vn x)) 40 p (nI (vl x))) 20 (4 * i + s) = vw x s := fun s hs => by
    rw [qL_uI, qL_uL, if_neg (by decide), qL_uI]; exact x4 s hs
  obtain ⟨r', a1, a2, a3, a4, a5, a6⟩ := kw_loop (K := f_X10_run_254 B) (x2 := x2) (x3 := nI j) hi hp FU (uI (uL (uI r 38 p (nI (vk x))) 39 p (vn x)) 40 p (nI (vl x))) 0 (by decide) (by show 4 - 0 < 100000; decide) hW (fun s hs => by omega)
  have a1' : f_X10_run_218 (f_X10_run_254 B) FU (uI (uL (uI r 38 p (nI (vk x))) 39 p (vn x)) 40 p (nI (vl x))) x2 (nI j) (nI i) (nI p) 0 = f_X10_run_254 B r' x2 (nI j) := a1
  rw [a1']
  unfold f_X10_run_254
  rw [nI_1]
  refine ⟨r', rfl, ⟨fun k hk => ⟨?_, ?_⟩, ?_⟩, ⟨?_, ?_, ?_, a6⟩, fun p' z hne ⟨z1, z2, z3, z4⟩ => ⟨?_, ?_, ?_, fun t ht => ?_⟩⟩
  · rw [a2, qI_uI, if_neg (by omega), qI_uL, qI_uI, if_neg (by omega)]
  · rw [a3 k (by omega), qL_uI, qL_uL, if_neg (by omega), qL_uI]
  · rw [a4]; rfl
  · rw [a2, qI_uI, if_neg (by decide), qI_uL, qI_uI, if_pos rfl, upd_at, if_pos rfl]
  · rw [a3 39 (by decide), qL_uI, qL_uL, if_pos rfl, updL_at, if_pos rfl]
  · rw [a2, qI_uI, if_pos rfl, upd_at, if_pos rfl]
  · rw [a2, qI_uI, if_neg (by decide), qI_uL, qI_uI, if_pos rfl, upd_at, if_neg hne]; exact z1
  · rw [a3 39 (by decide), qL_uI, qL_uL, if_pos rfl, updL_at, if_neg hne]; exact z2
  · rw [a2, qI_uI, if_pos rfl, upd_at, if_neg hne, qI_uL, qI_uI, if_neg (by decide)]; exact z3
  · rw [a5 _ (by omega), qL_uI, qL_uL, if_neg (by decide), qL_uI]; exact z4 t ht
theorem EvR.kf {r r' : QS} (h : EvR r r') : KF r r' := ⟨fun k a => h.1 k (by omega), h.2.1⟩
theorem KR.evr {r r' : QS} {p : Nat} {x : Vl} (h : EvR r r') (hx : KR r p x) : KR r' p x := by
  unfold KR at hx ⊢
  rw [(h.1 38 (by decide)).1, (h.1 39 (by decide)).2, (h.1 40 (by decide)).1, (h.1 41 (by decide)).2]
  exact hx
theorem kin_loop {q0 r0 : QS} {S T N I C R row a : Nat} {cr : Nat → Nat → Nat} {g : Nat → List Nat} {fi : Nat → Int32} {K : QS → Int32 → Option (Int32 × QS)} (h : Rx q0 r0 S T N I C R cr g fi) (hrow : row < 64) (ha : a < R) (fu : Nat) : ∀ (r : QS) (j : Nat), OnE r0 r → qI r 32 row = fi a → j ≤ I → I - j < fu → (∀ j', j' < j → KR r (8 * row + j') (xv r0 cr g a j')) → ∃ r', f_X10_run_122 K fu r (nI row) (nI j) = K r' (nI row) ∧ KF r r' ∧ (∀ j', j' < I → KR r' (8 * row + j') (xv r0 cr g a j')) ∧ ∀ p z, p / 8 ≠ row → KR r p z → KR r' p z := by
  obtain ⟨-, hI, hR, h4, h5, -⟩ := id h
  have h200 := h.1.2.2.1.1
  have hN := h.1.2.2.1
  induction fu with
  | zero => intro r j _ _ _ h; omega
  | succ fu ih =>
    intro r j ho e32 hj hf hd
    rw [f_X10_run_122, f_X10_run_122_b, ho.2 4 (by decide), h4]
    by_cases he : j = I
    · subst he
      rw [if_pos (nI_le (Nat.le_refl _) (by omega))]
      exact ⟨r, rfl, KF.rfl, hd, fun _ _ _ z => z⟩
    · have hjI : j < I := by omega
      obtain ⟨b1, b2⟩ := h5 j hjI
      obtain ⟨r1, c1, c2, c3, c4⟩ := r_evx h ho hjI ha
      rw [if_neg (nI_ge hjI (by omega)), (ho.1 26 (by decide)).1, rd_nI (show j < 8 by omega) (by decide), Option.bind_some, b2, rd_nI (show row < 2000 by omega) (by decide), Option.bind_some, e32, c1, Option.bind_some, rd_nI (show itn r0 j < 200 by omega) (by decide), Option.bind_some, c3.1, lit8_nI, nI_add]
      have hk4 := vOk_k c4.1
      obtain ⟨r2, d1, d2, d3, d4⟩ := k185 (B := f_X10_run_122 K fu) (r := r1) (i := itn r0 j) (p := 8 * row + j) (j := j) (x := xv r0 cr g a j) (x2 := nI row) (by omega) (by omega) hk4 c3
      have key : (if (if vk (xv r0 cr g a j) = 0 then (1 : Int32) else 0) = 0 then (rd (qI r1 14) 200 (nI (itn r0 j))).bind fun y24 => f_X10_run_185 (f_X10_run_122 K fu) r1 (nI row) (nI j) (nI (itn r0 j)) (nI (8 * row + j)) (nI (8 * row + j)) y24 else f_X10_run_185 (f_X10_run_122 K fu) r1 (nI row) (nI j) (nI (itn r0 j)) (nI (8 * row + j)) (nI (8 * row + j)) 0) = f_X10_run_122 K fu r2 (nI row) (nI (j + 1)) := by
        by_cases hz : vk (xv r0 cr g a j) = 0
        · rw [if_pos hz, if_neg i1, ← d1, hz]
          rfl
        · rw [if_neg hz, if_pos rfl, rd_nI (show itn r0 j < 200 by omega) (by decide), Option.bind_some, (c2.1 14 (by decide)).1, (ho.1 14 (by decide)).1, (hN.2.2.2 _ b1).2.2.2.2.1, ← d1]
          rcases c4.2 with z | z
          · exact absurd z hz
          · rw [z]
      rw [key]
      obtain ⟨r', f1, f2, f3, f4⟩ := ih r2 (j + 1) (d2.e (c2.kf.e ho)) (by rw [(d2.1 32 (by decide)).1, (c2.1 32 (by decide)).1]; exact e32) (by omega) (by omega) (fun j' hj' => by
        by_cases e : j' = j
        · subst e; exact d3
        · exact d4 _ _ (by omega) ((hd j' (by omega)).evr c2))
      exact ⟨r', f1, (c2.kf.trans d2).trans f2, f3, fun p z hp hz => f4 p z hp (d4 p z (by omega) (hz.evr c2))⟩
theorem kout_loop {q0 r0 : QS} {S T N I C R Kn m : Nat} {cr : Nat → Nat → Nat} {g : Nat → List Nat} {fi : Nat → Int32} {s : Nat → Nat} (h : Rx q0 r0 S T N I C R cr g fi) (hK : Kn ≤ 64) (hs : ∀ p, p < Kn → s p < R) (fu : Nat) : ∀ (r : QS) (row : Nat), OnE r0 r → qF r 11 = nI Kn → qF r 10 = nI m → (∀ p, p < Kn → qI r 32 p = fi (s p)) → row ≤ Kn → Kn - row < fu → (∀ p j, p < row → j < I → KR r (8 * p + j) (xv r0 cr g (s p) j)) → ∃ r', f_X10_run_112 fu r (nI row) = some (nI m, r') ∧ KF r r' ∧ ∀ p j, p < Kn → j < I → KR r' (8 * p + j) (xv r0 cr g (s p) j) := by
  have hI := h.2.1
  induction fu with
  | zero => intro r row _ _ _ _ _ h; omega
  | succ fu ih =>
    intro r row ho h11 h10 h32 hr hf hd
    rw [f_X10_run_112, f_X10_run_112_b, h11]
    by_cases he : row = Kn
    · subst he
      rw [if_pos (nI_le (Nat.le_refl _) (by omega)), h10]
      exact ⟨r, rfl, KF.rfl, hd⟩
    · have hrK : row < Kn := by omega
      rw [if_neg (nI_ge hrK (by omega))]
      obtain ⟨r1, a1, a2, a3, a4⟩ := kin_loop (K := f_X10_run_260 (f_X10_run_112 fu)) h (show row < 64 by omega) (hs row hrK) FU r 0 ho (h32 row hrK) (Nat.zero_le _) (by show I - 0 < 100000; omega) (fun j' h => by omega)
      have a1' : f_X10_run_122 (f_X10_run_260 (f_X10_run_112 fu)) FU r (nI row) 0 = f_X10_run_260 (f_X10_run_112 fu) r1 (nI row) := a1
      rw [a1']
      unfold f_X10_run_260
      rw [nI_1]
      obtain ⟨r', d1, d2, d3⟩ := ih r1 (row + 1) (a2.e ho) (by rw [a2.2]; exact h11) (by rw [a2.2]; exact h10) (fun p hp => by rw [(a2.1 32 (by decide)).1]; exact h32 p hp) (by omega) (by omega) (fun p j hp hj => by
        by_cases e : p = row
        · subst e; exact a3 j hj
        · exact a4 _ _ (by omega) (hd p j (by omega) hj))
      exact ⟨r', d1, a2.trans d2, d3⟩
