/-! which rows differ: the reference, and both in lockstep -/
def OnSr (r r' : QS) : Prop := (∀ k, (k ≤ 16 ∨ (26 ≤ k ∧ k ≤ 31) ∨ 38 ≤ k) → qI r' k = qI r k ∧ qL r' k = qL r k) ∧ (∀ k, k ≠ 10 → qF r' k = qF r k) ∧ qC r' = qC r
theorem OnSr.rfl {r : QS} : OnSr r r := ⟨fun _ _ => ⟨Eq.refl _, Eq.refl _⟩, fun _ _ => Eq.refl _, Eq.refl _⟩
theorem OnSr.trans {r r1 r2 : QS} (h : OnSr r r1) (g : OnSr r1 r2) : OnSr r r2 := ⟨fun k a => ⟨((g.1 k a).1).trans (h.1 k a).1, ((g.1 k a).2).trans (h.1 k a).2⟩, fun k a => (g.2.1 k a).trans (h.2.1 k a), g.2.2.trans h.2.2⟩
theorem EvC.sr {r r' : QS} (h : EvC r r') : OnSr r r' := ⟨fun k a => h.1 k (by omega), fun k _ => by rw [h.2.1], h.2.2⟩
theorem OnSr.fr {r r' : QS} (h : OnSr r r') : FR r r' := ⟨fun k a => h.1 k (by omega), fun k _ a => h.2.1 k a⟩
theorem OnSr.i {r : QS} {k j : Nat} {x : Int32} (h : k = 32 ∨ k = 33) : OnSr r (uI r k j x) := ⟨fun z hz => ⟨by rw [qI_uI, if_neg (by omega)], Eq.refl _⟩, fun _ _ => Eq.refl _, Eq.refl _⟩
theorem OnSr.f {r : QS} {x : Int32} : OnSr r (uF r 10 x) := ⟨fun _ _ => ⟨Eq.refl _, Eq.refl _⟩, fun k hk => by rw [qF_uF, if_neg hk], Eq.refl _⟩
theorem Cx.sr {q r r' : QS} {S T N C : Nat} {cr : Nat → Nat → Nat} (h : OnSr r r') (hc : Cx q r S T N C cr) : Cx q r' S T N C cr := by
  obtain ⟨h1, h2, h3, h4⟩ := hc
  refine ⟨h.fr.S h1, h.fr.T h1 h2, h.fr.N h1 h3, h4.1, fun c hc t ht => ?_, fun c hc t ht => ?_⟩
  · rw [(h.1 30 (by decide)).1]; exact h4.2.1 c hc t ht
  · rw [h.fr.same.fs.2.2.2.2.2.1]; exact h4.2.2 c hc t ht
/-- the reference's rows, each with its first combination -/
def Rx (q0 r0 : QS) (S T N I C R : Nat) (cr : Nat → Nat → Nat) (g : Nat → List Nat) (fi : Nat → Int32) : Prop := Cx q0 r0 S T N C cr ∧ I ≤ 8 ∧ R ≤ 2000 ∧ qF r0 4 = nI I ∧ (∀ j, j < I → itn r0 j < N ∧ qI r0 26 j = nI (itn r0 j)) ∧ ∀ ρ, ρ < R → Lk r0 C (fi ρ) (g ρ) ∧ (∀ j, j < I → Emp r0 N (itn r0 j) (g ρ)) ∧ vp_nar .short (fi ρ) = fi ρ
def xv (r0 : QS) (cr : Nat → Nat → Nat) (g : Nat → List Nat) (ρ j : Nat) : Vl := val r0 cr (g ρ) (itn r0 j)
theorem r_cmpx {q0 r0 r : QS} {S T N I C R j a b : Nat} {cr : Nat → Nat → Nat} {g : Nat → List Nat} {fi : Nat → Int32} (h : Rx q0 r0 S T N I C R cr g fi) (ho : OnSr r0 r) (hj : j < I) (ha : a < R) (hb : b < R) : ∃ r', f_X10_compare r (nI (itn r0 j)) (fi a) (fi b) = some (ocmp (xv r0 cr g a j) (xv r0 cr g b j), r') ∧ EvC r r' := by
  obtain ⟨h1, h2, h3, h4, h5, h6⟩ := h
  obtain ⟨a1, a2, -⟩ := h6 a ha
  obtain ⟨b1, b2, -⟩ := h6 b hb
  have lk : ∀ {x : Int32} {l : List Nat}, Lk r0 C x l → Lk r C x l := fun {x l} z => by
    unfold Lk at z ⊢
    rw [(ho.1 31 (by decide)).1]; exact z
  obtain ⟨r', c1, c2, -⟩ := r_compare (h1.sr ho) (h5 j hj).1 (lk a1) (lk b1) ((a2 j hj).same ho.fr.same) ((b2 j hj).same ho.fr.same)
  rw [ho.fr.same.eVal] at c1
  exact ⟨r', c1, c2⟩
theorem md_in {q0 r0 : QS} {S T N I C R x1 a b ρ p : Nat} {cr : Nat → Nat → Nat} {g : Nat → List Nat} {fi : Nat → Int32} {ty : Nat → Nat} {K : QS → Int32 → Int32 → Int32 → Int32 → Option QS} (h : Rx q0 r0 S T N I C R cr g fi) (hty : ∀ ρ j, ρ < R → j < I → Ty (ty j) (xv r0 cr g ρ j)) (ha : a < R) (hb : b < R) (hp : p < 2000) (hρ : ρ < 2000) (fu : Nat) : ∀ (r : QS) (j : Nat) (x5 : Int32), OnSr r0 r → qI r 32 p = fi a → qI r 32 ρ = fi b → j ≤ I → I - j + 1 < fu → (x5 = 0 ∨ x5 = 1) → (x5 = 1 → ∀ j', j' < j → xv r0 cr g a j' = xv r0 cr g b j') → (x5 = 0 → ¬ LikeR I (xv r0 cr g) a b) → ∃ r' z, f_X10_makeDistinct_33 K fu r (nI x1) (nI ρ) (nI p) x5 (nI j) = K r' (nI x1) (nI ρ) (nI p) z ∧ EvC r r' ∧ (LikeR I (xv r0 cr g) a b → z = 1) ∧ (¬ LikeR I (xv r0 cr g) a b → z = 0) := by
  have hI := h.2.1
  have h5 := h.2.2.2.2.1
  have hN200 := h.1.2.2.1.1
  induction fu with
  | zero => intro r j x5 _ _ _ _ h; omega
  | succ fu ih =>
    intro r j x5 ho e1 e2 hj hf hx hx1 hx0
    rw [f_X10_makeDistinct_33, f_X10_makeDistinct_33_b, ho.2.1 4 (by decide), h.2.2.2.1]
    rcases hx with rfl | rfl
    · refine ⟨r, 0, ?_, EvC.rfl, fun z => absurd z (hx0 rfl), fun _ => rfl⟩
      rw [if_pos rfl]
      split <;> rfl
    · by_cases he : j = I
      · subst he
        rw [if_pos (nI_le (Nat.le_refl _) (by omega))]
        exact ⟨r, 1, rfl, EvC.rfl, fun _ => rfl, fun z => absurd (hx1 rfl) z⟩
      · have hjI : j < I := by omega
        obtain ⟨b1, b2⟩ := h5 j hjI
        rw [if_neg (nI_ge hjI (by omega)), if_neg i1, (ho.1 26 (by decide)).1, rd_nI (show j < 8 by omega) (by decide), Option.bind_some, b2, rd_nI hp (by decide), Option.bind_some, rd_nI hρ (by decide), Option.bind_some, e1, e2]
        obtain ⟨r1, c1, c2⟩ := r_cmpx h ho hjI ha hb
        rw [c1, Option.bind_some]
        unfold f_X10_makeDistinct_79
        rw [nI_1]
        have o0 := ocmp0 (hty a j ha hjI) (hty b j hb hjI)
        have e1' : qI r1 32 p = fi a := by rw [(c2.1 32 (by decide)).1]; exact e1
        have e2' : qI r1 32 ρ = fi b := by rw [(c2.1 32 (by decide)).1]; exact e2
        by_cases hz : ocmp (xv r0 cr g a j) (xv r0 cr g b j) = 0
        · rw [if_pos (show (ocmp (xv r0 cr g a j) (xv r0 cr g b j), r1).1 = 0 from hz)]
          obtain ⟨r', z, d1, d2, d3⟩ := ih r1 (j + 1) 1 (ho.trans c2.sr) e1' e2' (by omega) (by omega) (Or.inr rfl) (fun _ j' hj' => by
            by_cases e : j' = j
            · rw [e]; exact o0.mp hz
            · exact hx1 rfl j' (by omega)) (fun z => absurd z (by decide))
          exact ⟨r', z, d1, c2.trans d2, d3⟩
        · rw [if_neg (show ¬ (ocmp (xv r0 cr g a j) (xv r0 cr g b j), r1).1 = 0 from hz)]
          obtain ⟨r', z, d1, d2, d3⟩ := ih r1 (j + 1) 0 (ho.trans c2.sr) e1' e2' (by omega) (by omega) (Or.inl rfl) (fun z => absurd z (by decide)) (fun _ z => hz (o0.mpr (z j hjI)))
          exact ⟨r', z, d1, c2.trans d2, d3⟩
theorem md_mid {q0 r0 : QS} {S T N I C R L ρ : Nat} {cr : Nat → Nat → Nat} {g : Nat → List Nat} {fi : Nat → Int32} {ty : Nat → Nat} {s : Nat → Nat} {K : QS → Int32 → Int32 → Int32 → Option QS} (h : Rx q0 r0 S T N I C R cr g fi) (hty : ∀ ρ j, ρ < R → j < I → Ty (ty j) (xv r0 cr g ρ j)) (hρ : ρ < R) (hL : L ≤ ρ) (hs : ∀ p, p < L → s p < R) (fu : Nat) : ∀ (r : QS) (p : Nat) (x3 : Int32), OnSr r0 r → (∀ p, p < L → qI r 32 p = fi (s p)) → qI r 32 ρ = fi ρ → p ≤ L → L - p + 1 < fu → (x3 = 0 ∨ x3 = 1) → (x3 = 1 → ∀ p', p' < p → ¬ LikeR I (xv r0 cr g) (s p') ρ) → (x3 = 0 → ∃ p', p' < L ∧ LikeR I (xv r0 cr g) (s p') ρ) → ∃ r' z, f_X10_makeDistinct_17 K fu r (nI L) (nI ρ) x3 (nI p) = K r' (nI L) (nI ρ) z ∧ EvC r r' ∧ ((∃ p', p' < L ∧ LikeR I (xv r0 cr g) (s p') ρ) → z = 0) ∧ (¬ (∃ p', p' < L ∧ LikeR I (xv r0 cr g) (s p') ρ) → z = 1) := by
  have hR := h.2.2.1
  have hI := h.2.1
  induction fu with
  | zero => intro r p x3 _ _ _ _ h; omega
  | succ fu ih =>
    intro r p x3 ho e1 e2 hp hf hx hx1 hx0
    rw [f_X10_makeDistinct_17, f_X10_makeDistinct_17_b]
    rcases hx with rfl | rfl
    · refine ⟨r, 0, ?_, EvC.rfl, fun _ => rfl, fun z => absurd (hx0 rfl) z⟩
      rw [if_pos rfl]
      split <;> rfl
    · by_cases he : p = L
      · subst he
        rw [if_pos (nI_le (Nat.le_refl _) (by omega))]
        exact ⟨r, 1, rfl, EvC.rfl, fun ⟨p', z1, z2⟩ => absurd z2 (hx1 rfl p' z1), fun _ => rfl⟩
      · have hpL : p < L := by omega
        rw [if_neg (nI_ge hpL (by omega)), if_neg i1]
        obtain ⟨r1, z, c1, c2, c3, c4⟩ := md_in (x1 := L) (K := f_X10_makeDistinct_87 (f_X10_makeDistinct_17 K fu)) h hty (hs p hpL) hρ (show p < 2000 by omega) (show ρ < 2000 by omega) FU r 0 1 ho (e1 p hpL) e2 (Nat.zero_le _) (by show I - 0 + 1 < 100000; omega) (Or.inr rfl) (fun _ j' z => by omega) (fun z => absurd z (by decide))
        have c1' : f_X10_makeDistinct_33 (f_X10_makeDistinct_87 (f_X10_makeDistinct_17 K fu)) FU r (nI L) (nI ρ) (nI p) 1 0 = f_X10_makeDistinct_87 (f_X10_makeDistinct_17 K fu) r1 (nI L) (nI ρ) (nI p) z := c1
        rw [c1']
        unfold f_X10_makeDistinct_87 f_X10_makeDistinct_97
        rw [nI_1]
        have e1' : ∀ p, p < L → qI r1 32 p = fi (s p) := fun p' z => by rw [(c2.1 32 (by decide)).1]; exact e1 p' z
        have e2' : qI r1 32 ρ = fi ρ := by rw [(c2.1 32 (by decide)).1]; exact e2
        by_cases hl : LikeR I (xv r0 cr g) (s p) ρ
        · rw [c3 hl, if_neg i1]
          obtain ⟨r', z, d1, d2, d3⟩ := ih r1 (p + 1) 0 (ho.trans c2.sr) e1' e2' (by omega) (by omega) (Or.inl rfl) (fun z => absurd z (by decide)) (fun _ => ⟨p, hpL, hl⟩)
          exact ⟨r', z, d1, c2.trans d2, d3⟩
        · rw [c4 hl, if_pos rfl]
          obtain ⟨r', z, d1, d2, d3⟩ := ih r1 (p + 1) 1 (ho.trans c2.sr) e1' e2' (by omega) (by omega) (Or.inr rfl) (fun _ p' hp' => by
            by_cases e : p' = p
            · rw [e]; exact hl
            · exact hx1 rfl p' (by omega)) (fun z => absurd z (by decide))
          exact ⟨r', z, d1, c2.trans d2, d3⟩
/-- place p of both sides holds row s p -/
def Rk (A B : Nat → Int32) (fi : Nat → Int32) (R n : Nat) (s : Nat → Nat) : Prop := ∀ p, p < n → A p = nI (s p) ∧ B p = fi (s p) ∧ s p < R
theorem LikeR.sym {I : Nat} {x : Nat → Nat → Vl} {a b : Nat} (h : LikeR I x a b) : LikeR I x b a := fun j hj => (h j hj).symm
theorem ds_loop {q0 r0 : QS} {S T N I C R cap : Nat} {cr : Nat → Nat → Nat} {g : Nat → List Nat} {fi : Nat → Int32} {ty : Nat → Nat} (h : Rx q0 r0 S T N I C R cr g fi) (h0 : 0 < cap) (fu : Nat) : ∀ (q r : QS) (L ρ : Nat) (s : Nat → Nat), HV q R I cap ty (xv r0 cr g) → ¬ qF q 11 = 0 → OnSr r0 r → qF r 10 = nI R → BI q cap ρ (fun ρ' => bkN cap (hro (xv r0 cr g) ρ' I)) (fun ρ' => ∃ p, p < L ∧ s p = ρ') → L ≤ ρ → ρ ≤ R → R - ρ < fu → Rk (qI q 54) (qI r 32) fi R L s → (∀ p, p < L → s p < ρ) → (∀ p, ρ ≤ p → p < R → qI r 32 p = fi p) → ∃ q' r' n s', f_X6_rankRows_21 fu q (nI R) (nI L) (nI ρ) = some (nI n, q') ∧ f_X10_makeDistinct_4 fu r (nI L) (nI ρ) = some r' ∧ OnRk q q' ∧ OnSr r0 r' ∧ qF r' 10 = nI n ∧ n ≤ R ∧ Rk (qI q' 54) (qI r' 32) fi R n s' := by
  have hR2 := h.2.2.1
  induction fu with
  | zero => intro q r L ρ s _ _ _ _ _ _ _ h; omega
  | succ fu ih =>
    intro q r L ρ s hv h11 ho h10 hB hL hρ hf hk hs hrest
    obtain ⟨v1, v2, v3, v4, v5, v6, v7⟩ := id hv
    rw [f_X6_rankRows_21, f_X6_rankRows_21_b, f_X10_makeDistinct_4, f_X10_makeDistinct_4_b, h10]
    by_cases he : ρ = R
    · subst he
      rw [if_pos (nI_le (Nat.le_refl _) (by omega)), if_pos (nI_le (Nat.le_refl _) (by omega))]
      exact ⟨q, uF r 10 (nI L), L, s, rfl, rfl, OnRk.rfl, ho.trans OnSr.f, rfl, hL, hk⟩
    · have hρR : ρ < R := by omega
      have hf1 : R - (ρ + 1) < fu := by omega
      rw [if_neg (nI_ge hρR (by omega)), if_neg (nI_ge hρR (by omega)), if_neg h11]
      obtain ⟨n1, n2⟩ := c_new hv hρR h0 hB
      obtain ⟨r1, z, c1, c2, c3, c4⟩ := md_mid (K := f_X10_makeDistinct_104 (f_X10_makeDistinct_4 fu)) (L := L) (s := s) h (fun ρ j a b => (v7 ρ j a b).2) hρR hL (fun p hp => (hk p hp).2.2) FU r 0 1 ho (fun p hp => (hk p hp).2.1) (hrest ρ (Nat.le_refl _) hρR) (Nat.zero_le _) (by show L - 0 + 1 < 100000; omega) (Or.inr rfl) (fun _ p' z => by omega) (fun z => absurd z (by decide))
      have c1' : f_X10_makeDistinct_17 (f_X10_makeDistinct_104 (f_X10_makeDistinct_4 fu)) FU r (nI L) (nI ρ) 1 0 = f_X10_makeDistinct_104 (f_X10_makeDistinct_4 fu) r1 (nI L) (nI ρ) z := c1
      rw [c1']
      have e32 : qI r1 32 = qI r 32 := (c2.1 32 (by decide)).1
      have hiff : (∃ ρ', ρ' < ρ ∧ (∃ p, p < L ∧ s p = ρ') ∧ LikeR I (xv r0 cr g) ρ ρ') ↔ ∃ p', p' < L ∧ LikeR I (xv r0 cr g) (s p') ρ := by
        constructor
        · intro ⟨ρ', x1, ⟨p, x2, x3⟩, x4⟩
          exact ⟨p, x2, by rw [x3]; exact x4.sym⟩
        · intro ⟨p, x1, x2⟩
          exact ⟨s p, hs p x1, ⟨p, x1, rfl⟩, x2.sym⟩
      unfold f_X10_makeDistinct_104 f_X10_makeDistinct_123 f_X6_rankRows_57
      by_cases hl : ∃ p', p' < L ∧ LikeR I (xv r0 cr g) (s p') ρ
      · rw [n1 (hiff.mpr hl), Option.bind_some, if_pos (show ((0 : Int32), q).1 = 0 from rfl), c3 hl, if_pos rfl, nI_1]
        have hB' : BI q cap (ρ + 1) (fun ρ' => bkN cap (hro (xv r0 cr g) ρ' I)) (fun ρ' => ∃ p, p < L ∧ s p = ρ') := fun b hb => by
          obtain ⟨l, l1, l2, l3⟩ := hB b hb
          refine ⟨l, l1, by omega, fun ρ' => (l3 ρ').trans ⟨fun ⟨y1, y2, y3⟩ => ⟨by omega, y2, y3⟩, fun ⟨y1, y2, y3⟩ => ⟨?_, y2, y3⟩⟩⟩
          obtain ⟨p, p1, p2⟩ := y2
          rw [← p2]; exact hs p p1
        obtain ⟨q', r', n, s', d1, d2, d3, d4, d5⟩ := ih q r1 L (ρ + 1) s hv h11 (ho.trans c2.sr) (by rw [c2.2.1]; exact h10) hB' (by omega) (by omega) hf1 (by rw [e32]; exact hk) (fun p hp => by have := hs p hp; omega) (fun p y1 y2 => by rw [e32]; exact hrest p (by omega) y2)
        exact ⟨q', r', n, s', d1, d2, d3, d4, d5⟩
      · obtain ⟨q1, a1, a2, a3, a4⟩ := n2 (fun z => hl (hiff.mp z))
        rw [a1, Option.bind_some, if_neg (show ¬ ((1 : Int32), q1).1 = 0 from i1), c4 hl, if_neg i1]
        unfold f_X6_rankRows_44 f_X6_rankRows_57
        rw [show qC (((1 : Int32), q1).2) = cap from by show qC q1 = cap; rw [a2.2.2.2]; exact v1, wI_nI (show L < cap by omega) (by omega), Option.bind_some, rd_nI (show ρ < 2000 by omega) (by decide), Option.bind_some, e32, hrest ρ (Nat.le_refl _) hρR, (h.2.2.2.2.2 ρ hρR).2.2, wI_nI (show L < 2000 by omega) (by decide), Option.bind_some, nI_1, nI_1]
        have ok : OnRk q (uI q1 54 L (nI ρ)) := a2.trans (OnRk.i (by decide) (by decide))
        have os : OnSr r0 (uI r1 32 L (fi ρ)) := (ho.trans c2.sr).trans (OnSr.i (Or.inl rfl))
        have hB' : BI (uI q1 54 L (nI ρ)) cap (ρ + 1) (fun ρ' => bkN cap (hro (xv r0 cr g) ρ' I)) (fun ρ' => ∃ p, p < L + 1 ∧ (fun p => if p = L then ρ else s p) p = ρ') := by
          refine a4 _ (fun ρ' hρ' => ⟨fun ⟨p, y1, y2⟩ => ?_, fun ⟨p, y1, y2⟩ => ⟨p, by omega, ?_⟩⟩) ⟨L, by omega, if_pos rfl⟩
          · have y2' : (if p = L then ρ else s p) = ρ' := y2
            by_cases e : p = L
            · rw [if_pos e] at y2'; omega
            · rw [if_neg e] at y2'
              exact ⟨p, by omega, y2'⟩
          · show (if p = L then ρ else s p) = ρ'
            rw [if_neg (by omega)]; exact y2
        obtain ⟨q', r', n, s', d1, d2, d3, d4, d5⟩ := ih (uI q1 54 L (nI ρ)) (uI r1 32 L (fi ρ)) (L + 1) (ρ + 1) (fun p => if p = L then ρ else s p) (hv.rk ok) (by rw [ok.2.2.1]; exact h11) os (by rw [qF_uI, c2.2.1]; exact h10) hB' (by omega) (by omega) hf1 (fun p hp => by
            rw [qI_uI, if_pos rfl, qI_uI, if_pos rfl, upd_at, upd_at, a3, e32]
            by_cases e : p = L
            · rw [if_pos e, if_pos e]
              show nI ρ = nI (if p = L then ρ else s p) ∧ fi ρ = fi (if p = L then ρ else s p) ∧ (if p = L then ρ else s p) < R
              rw [if_pos e]; exact ⟨rfl, rfl, hρR⟩
            · rw [if_neg e, if_neg e]
              show qI q 54 p = nI (if p = L then ρ else s p) ∧ qI r 32 p = fi (if p = L then ρ else s p) ∧ (if p = L then ρ else s p) < R
              rw [if_neg e]; exact hk p (by omega)) (fun p hp => by
            show (if p = L then ρ else s p) < ρ + 1
            by_cases e : p = L
            · rw [if_pos e]; omega
            · rw [if_neg e]; have := hs p (by omega); omega) (fun p y1 y2 => by
            rw [qI_uI, if_pos rfl, upd_at, e32]
            by_cases e : p = L
            · omega
            · rw [if_neg e]; exact hrest p (by omega) y2)
        exact ⟨q', r', n, s', d1, d2, ok.trans d3, d4, d5⟩
/-- no question of likeness: every row stays -/
theorem al_loop {R cap : Nat} (hR : R ≤ cap) (hc : cap ≤ 2000) (fu : Nat) : ∀ (q : QS) (ρ : Nat), qC q = cap → qF q 11 = 0 → ρ ≤ R → R - ρ < fu → (∀ p, p < ρ → qI q 54 p = nI p) → ∃ q', f_X6_rankRows_21 fu q (nI R) (nI ρ) (nI ρ) = some (nI R, q') ∧ OnRk q q' ∧ ∀ p, p < R → qI q' 54 p = nI p := by
  induction fu with
  | zero => intro q ρ _ _ _ h; omega
  | succ fu ih =>
    intro q ρ h1 h11 hρ hf hk
    rw [f_X6_rankRows_21, f_X6_rankRows_21_b]
    by_cases he : ρ = R
    · subst he
      rw [if_pos (nI_le (Nat.le_refl _) (by omega))]
      exact ⟨q, rfl, OnRk.rfl, hk⟩
    · rw [if_neg (nI_ge (show ρ < R by omega) (by omega)), if_pos h11]
      unfold f_X6_rankRows_44 f_X6_rankRows_57
      rw [h1, wI_nI (show ρ < cap by omega) (by omega), Option.bind_some, nI_1]
      obtain ⟨q', a1, a2, a3⟩ := ih (uI q 54 ρ (nI ρ)) (ρ + 1) h1 h11 (by omega) (by omega) (fun p hp => by
        rw [qI_uI, if_pos rfl, upd_at]
        by_cases e : p = ρ
        · rw [if_pos e, e]
        · rw [if_neg e]; exact hk p (by omega))
      exact ⟨q', a1, (OnRk.i (by decide) (by decide)).trans a2, a3⟩
