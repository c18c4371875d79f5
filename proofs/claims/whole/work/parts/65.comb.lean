/-! the combinations that count, on both sides -/
def ρ3 (a b c t : Nat) : Nat := if t = 0 then a else if t = 1 then b else c
def nch (r : QS) (T t : Nat) : Nat := if t < T then tR r t else 1
def OnGq (q q' : QS) : Prop := (∀ k, k ≠ 7 → k ≠ 46 → k ≠ 50 → qI q' k = qI q k) ∧ (∀ k, k ≠ 8 → qL q' k = qL q k) ∧ qF q' = qF q ∧ qC q' = qC q
theorem OnGq.rfl {q : QS} : OnGq q q := ⟨fun _ _ _ _ => Eq.refl _, fun _ _ => Eq.refl _, Eq.refl _, Eq.refl _⟩
theorem OnGq.trans {q q1 q2 : QS} (h : OnGq q q1) (g : OnGq q1 q2) : OnGq q q2 := ⟨fun k a b c => (g.1 k a b c).trans (h.1 k a b c), fun k a => (g.2.1 k a).trans (h.2.1 k a), g.2.2.1.trans h.2.2.1, g.2.2.2.trans h.2.2.2⟩
theorem OnVR.gq {q q' : QS} (h : OnVR q q') : OnGq q q' := ⟨fun k a b _ => h.1 k a b, h.2.1, h.2.2.1, h.2.2.2⟩
theorem OnGq.run {q q' : QS} (h : OnGq q q') : RunC q q' := ⟨fun k a _ _ b _ c => h.1 k a b (by omega), fun k a _ => h.2.1 k a, fun k _ _ _ => by rw [h.2.2.1]⟩
def OnGr (r r' : QS) : Prop := (∀ k, k ≠ 17 → k ≠ 19 → k ≠ 23 → k ≠ 30 → qI r' k = qI r k) ∧ (∀ k, k ≠ 18 → k ≠ 20 → k ≠ 21 → k ≠ 22 → k ≠ 24 → qL r' k = qL r k) ∧ qF r' = qF r ∧ qC r' = qC r
theorem OnGr.rfl {r : QS} : OnGr r r := ⟨fun _ _ _ _ _ => Eq.refl _, fun _ _ _ _ _ _ => Eq.refl _, Eq.refl _, Eq.refl _⟩
theorem OnGr.trans {r r1 r2 : QS} (h : OnGr r r1) (g : OnGr r1 r2) : OnGr r r2 := ⟨fun k a b c d => (g.1 k a b c d).trans (h.1 k a b c d), fun k a b c d e => (g.2.1 k a b c d e).trans (h.2.1 k a b c d e), g.2.2.1.trans h.2.2.1, g.2.2.2.trans h.2.2.2⟩
theorem EvN.gr {r r' : QS} (h : EvN r r') : OnGr r r' := ⟨fun k a b c _ => h.1 k a b c, h.2.1, h.2.2.1, h.2.2.2⟩
theorem litx64 (a : Nat) : (64 : Int32) * nI a = nI (64 * a) := pk_mul 64 a
theorem r_rowOf {a b c : Nat} (ha : a < 40) (hb : b < 40) (hc : c < 40) : ∀ t, t < 3 → f_X10_rowOf (nI (64 * (64 * a + b) + c)) (nI t) = some (nI (ρ3 a b c t)) := by
  intro t ht
  unfold f_X10_rowOf f_X10_rowOf_0
  rcases (show t = 0 ∨ t = 1 ∨ t = 2 by omega) with e | e | e <;> subst e
  · rw [pk_shrN (by omega) (((12 : Int32) - (6 : Int32) * nI 0) &&& 31) 12 (by decide), pk_andN (by omega) 6 (by decide), show (64 * (64 * a + b) + c) / 2 ^ 12 % 2 ^ 6 = a by omega]; rfl
  · rw [pk_shrN (by omega) (((12 : Int32) - (6 : Int32) * nI 1) &&& 31) 6 (by decide), pk_andN (by omega) 6 (by decide), show (64 * (64 * a + b) + c) / 2 ^ 6 % 2 ^ 6 = b by omega]; rfl
  · rw [pk_shrN (by omega) (((12 : Int32) - (6 : Int32) * nI 2) &&& 31) 0 (by decide), pk_andN (by omega) 6 (by decide), show (64 * (64 * a + b) + c) / 2 ^ 0 % 2 ^ 6 = c by omega]; rfl
/-- what stands of the combinations -/
def GX (r0 : QS) (T : Nat) (q r : QS) (n : Nat) (cr : Nat → Nat → Nat) : Prop := ∀ c, c < n → qI q 50 c = nI ((cr c 0 * 40 + cr c 1) * 40 + cr c 2) ∧ qI r 30 c = nI (64 * (64 * cr c 0 + cr c 1) + cr c 2) ∧ ∀ t, t < 3 → cr c t < nch r0 T t
theorem pos_lt {a b c n0 n1 n2 : Nat} (ha : a < n0) (hb : b < n1) (hc : c < n2) : (a * n1 + b) * n2 + c < n0 * n1 * n2 := by
  have h1 : a * n1 + b + 1 ≤ n0 * n1 := by
    have : (a + 1) * n1 ≤ n0 * n1 := Nat.mul_le_mul_right _ ha
    rw [Nat.add_mul] at this
    omega
  have h2 : (a * n1 + b + 1) * n2 ≤ n0 * n1 * n2 := Nat.mul_le_mul_right _ h1
  rw [Nat.add_mul (a * n1 + b) 1 n2] at h2
  omega
theorem nch40 {q r : QS} {S T : Nat} (hT : SimT q r S T) (t : Nat) : nch r T t ≤ 40 := by
  unfold nch
  by_cases h : t < T
  · rw [if_pos h]; exact (hT.2.2.2 t h).2.2.1
  · rw [if_neg h]; decide
theorem c_choices {q r : QS} {S T t : Nat} (hT : SimT q r S T) (ht : t < 3) : f_X7_choicesIn q (nI t) = some (nI (nch r T t)) := by
  have h3 := hT.1
  unfold f_X7_choicesIn f_X7_choicesIn_0 f_X7_has f_X7_has_0 nch
  rw [if_neg (nI_pos (by omega)), hT.2.1]
  by_cases h : t < T
  · rw [if_neg (nI_ge h (by omega)), Option.bind_some, if_neg i1, rd_nI ht (by decide), Option.bind_some, if_pos h, (hT.2.2.2 t h).2.2.2.2.2.2.1]
  · rw [if_pos (nI_le (by omega) (by omega)), Option.bind_some, if_pos rfl, if_neg h]; rfl
theorem ρ3_lt {r : QS} {T a b c : Nat} (ha : a < nch r T 0) (hb : b < nch r T 1) (hc : c < nch r T 2) : ∀ t, t < 3 → ρ3 a b c t < nch r T t := by
  intro t ht
  rcases (show t = 0 ∨ t = 1 ∨ t = 2 by omega) with e | e | e <;> subst e <;> assumption
theorem nch_tR {r : QS} {T t x : Nat} (ht : t < T) (h : x < nch r T t) : x < tR r t := by
  unfold nch at h
  rw [if_pos ht] at h; exact h
theorem g2_loop {S T N I G O cap : Nat} {q1 r0 r1 : QS} {P0 : Nat → Prop} {w : Option Nat} (hS : SOk r0 S) (hT : SimT q1 r0 S T) (hN : SimN q1 r0 S T N) (hQ : SimQ q1 r0 N I G O) (hw : Wn r0 N w) (hp : PlanOk q1 0 P0 N) (hrc : Rch r0 (fun k => qF q1 9 = nI k ∧ k < N) P0 N) (hm : Wm r0 r1 w) (hb : SameB r0 r1) (hF3 : qF r1 3 = qF r0 3) (h12 : qF q1 12 = nI cap) (hqC : qC q1 = cap) (hc2 : cap ≤ 2000) (hcap : cap = 2000 ∨ nch r0 T 0 * nch r0 T 1 * nch r0 T 2 ≤ cap) {a b : Nat} {Kc : QS → Int32 → Int32 → Int32 → Option (Int32 × QS)} {Kr : QS → Int32 → Int32 → Int32 → Int32 → Int32 → Option (Int32 × QS)} (ha : a < nch r0 T 0) (hbb : b < nch r0 T 1) (fu : Nat) : ∀ (q r : QS) (c n : Nat) (cr : Nat → Nat → Nat), OnGq q1 q → KC r0 N q1 q → OnGr r1 r → GX r0 T q r n cr → n ≤ cap → c ≤ nch r0 T 2 → nch r0 T 2 - c < fu → n ≤ (a * nch r0 T 1 + b) * nch r0 T 2 + c →
    (∃ q' r' n' cr', f_X6_gather_50 Kc fu q (nI n) (nI a) (nI b) (nI c) = Kc q' (nI n') (nI a) (nI b) ∧ f_X10_gatherAll_81 Kr fu r (nI (nch r0 T 1)) (nI (nch r0 T 2)) (nI n) (nI a) (nI b) (nI c) = Kr r' (nI (nch r0 T 1)) (nI (nch r0 T 2)) (nI n') (nI a) (nI b) ∧ OnGq q1 q' ∧ KC r0 N q1 q' ∧ OnGr r1 r' ∧ GX r0 T q' r' n' cr' ∧ n' ≤ cap ∧ n' ≤ (a * nch r0 T 1 + b) * nch r0 T 2 + nch r0 T 2) ∨
    (∃ q' r', f_X6_gather_50 Kc fu q (nI n) (nI a) (nI b) (nI c) = some (2001, q') ∧ f_X10_gatherAll_81 Kr fu r (nI (nch r0 T 1)) (nI (nch r0 T 2)) (nI n) (nI a) (nI b) (nI c) = some (0, r') ∧ OnGq q1 q' ∧ KC r0 N q1 q' ∧ OnGr r1 r') := by
  have n40 := nch40 hT
  have hT3 := hT.1
  induction fu with
  | zero => intro q r c n cr _ _ _ _ _ _ h; omega
  | succ fu ih =>
    intro q r c n cr oq kq or hg hn hc hf hpos
    have hTq := oq.run.T hS hT
    rw [f_X6_gather_50, f_X6_gather_50_b, f_X10_gatherAll_81, f_X10_gatherAll_81_b, show (2 : Int32) = nI 2 from rfl, c_choices hTq (by decide), Option.bind_some]
    by_cases he : c = nch r0 T 2
    · subst he
      rw [if_pos (nI_le (Nat.le_refl _) (by have := n40 2; omega)), if_pos (nI_le (Nat.le_refl _) (by have := n40 2; omega))]
      exact Or.inl ⟨q, r, n, cr, rfl, rfl, oq, kq, or, hg, hn, hpos⟩
    · have hcl : c < nch r0 T 2 := by omega
      have a40 := n40 0
      have b40 := n40 1
      have c40 := n40 2
      have hρ := ρ3_lt ha hbb hcl
      unfold f_X5_combine f_X5_combine_0 f_X6_gather_113 f_X10_gatherAll_132
      rw [if_neg (nI_ge hcl (by omega)), if_neg (nI_ge hcl (by omega)), nI_lit40, nI_add, nI_lit40, nI_add, Option.bind_some, litx64, nI_add, litx64, nI_add, nI_1]
      have hrv : ∀ t, t < T → ρ3 a b c t < tR r0 t := fun t ht => nch_tR ht (hρ t (by omega))
      obtain ⟨q2, z, a1, a2, a3, a4, a5⟩ := c_meets (ρ := ρ3 a b c) hS hTq (oq.run.N hS kq hN) (oq.run.Q hQ) hw (hp.keep (oq.1 _ (by decide) (by decide) (by decide)) (by rw [oq.2.2.1])) (by rw [oq.2.2.1]; exact hrc) (fun t ht => by have := hρ t ht; have := n40 t; omega) hrv
      have a1' : f_X6_meetsCondition q (nI ((a * 40 + b) * 40 + c)) = some (z, q2) := a1
      have hbr : SameB r0 r := fun k hk => by rw [or.1 k (by omega) (by omega) (by omega) (by omega), or.2.1 k (by omega) (by omega) (by omega) (by omega) (by omega)]; exact hb k hk
      have hmr : Wm r0 r w := by
        unfold Wm at hm ⊢
        cases w with
        | none => trivial
        | some i => obtain ⟨M, m1', m2'⟩ := hm; exact ⟨M, m1', fun k hk => by rw [or.1 25 (by decide) (by decide) (by decide) (by decide)]; exact m2' k hk⟩
      obtain ⟨r2, z', b1, b2, b3, b4⟩ := r_counts (ρ := ρ3 a b c) (cb := nI (64 * (64 * a + b) + c)) hS hT hN hw hmr hbr (by rw [or.2.2.1]; exact hF3) (r_rowOf (by omega) (by omega) (by omega)) hrv
      rw [a1', b1]
      simp only [Option.bind_some]
      have oq2 := oq.trans a2.gq
      have kq2 := kq.trans a3
      have or2 := or.trans b2.gr
      have hg2 : GX r0 T q2 r2 n cr := fun k hk => by
        rw [a2.1 50 (by decide) (by decide), b2.1 30 (by decide) (by decide) (by decide)]; exact hg k hk
      by_cases hcn : Cnd r0 (ρ3 a b c) w
      · rw [a4 hcn, b3 hcn, if_neg i1, if_neg i1, a2.2.2.1, oq.2.2.1, h12, a2.2.2.2, oq.2.2.2, hqC]
        have hlt := pos_lt ha hbb hcl
        by_cases hov : n = 2000
        · have : n = cap := by omega
          rw [if_neg (show ¬ nI n < nI cap from fun z => by rw [i32_lt, nI_toInt (by omega), nI_toInt (by omega)] at z; omega), if_pos (show nI n = (2000 : Int32) by rw [hov]; rfl)]
          exact Or.inr ⟨q2, r2, rfl, rfl, oq2, kq2, or2⟩
        · have hncap : n < cap := by
            rcases hcap with h | h <;> omega
          rw [if_pos (nI_lt hncap (by omega)), if_neg (show ¬ nI n = (2000 : Int32) from cNe (c := 2000) hov (by omega) (by decide)), wI_nI hncap (by omega), Option.bind_some, wI_nI (by omega) (by decide), Option.bind_some, nI_1]
          refine ih (uI q2 50 n (nI ((a * 40 + b) * 40 + c))) (uI r2 30 n (nI (64 * (64 * a + b) + c))) (c + 1) (n + 1) (fun k => if k = n then ρ3 a b c else cr k) (oq2.trans ⟨fun k _ _ h => by rw [qI_uI, if_neg h], fun _ _ => rfl, rfl, rfl⟩) (kq2.trans (KC.of rfl rfl)) (or2.trans ⟨fun k _ _ _ h => by rw [qI_uI, if_neg h], fun _ _ _ _ _ _ => rfl, rfl, rfl⟩) (fun k hk => ?_) (by omega) (by omega) (by omega) (by omega)
          rw [qI_uI, if_pos rfl, upd_at, qI_uI, if_pos rfl, upd_at]
          by_cases e : k = n
          · simp only [if_pos e]; exact ⟨rfl, rfl, hρ⟩
          · simp only [if_neg e]; exact hg2 k (by omega)
      · rw [a5 hcn, b4 hcn, if_pos rfl, if_pos rfl]
        exact ih q2 r2 (c + 1) n cr oq2 kq2 or2 hg2 hn (by omega) (by omega) (by omega)
theorem g1_loop {S T N I G O cap : Nat} {q1 r0 r1 : QS} {P0 : Nat → Prop} {w : Option Nat} (hS : SOk r0 S) (hT : SimT q1 r0 S T) (hN : SimN q1 r0 S T N) (hQ : SimQ q1 r0 N I G O) (hw : Wn r0 N w) (hp : PlanOk q1 0 P0 N) (hrc : Rch r0 (fun k => qF q1 9 = nI k ∧ k < N) P0 N) (hm : Wm r0 r1 w) (hb : SameB r0 r1) (hF3 : qF r1 3 = qF r0 3) (h12 : qF q1 12 = nI cap) (hqC : qC q1 = cap) (hc2 : cap ≤ 2000) (hcap : cap = 2000 ∨ nch r0 T 0 * nch r0 T 1 * nch r0 T 2 ≤ cap) {a : Nat} {Kc : QS → Int32 → Int32 → Option (Int32 × QS)} {Kr : QS → Int32 → Int32 → Int32 → Int32 → Option (Int32 × QS)} (ha : a < nch r0 T 0) (fu : Nat) : ∀ (q r : QS) (b n : Nat) (cr : Nat → Nat → Nat), OnGq q1 q → KC r0 N q1 q → OnGr r1 r → GX r0 T q r n cr → n ≤ cap → b ≤ nch r0 T 1 → nch r0 T 1 - b < fu → n ≤ (a * nch r0 T 1 + b) * nch r0 T 2 →
    (∃ q' r' n' cr', f_X6_gather_35 Kc fu q (nI n) (nI a) (nI b) = Kc q' (nI n') (nI a) ∧ f_X10_gatherAll_72 Kr fu r (nI (nch r0 T 1)) (nI (nch r0 T 2)) (nI n) (nI a) (nI b) = Kr r' (nI (nch r0 T 1)) (nI (nch r0 T 2)) (nI n') (nI a) ∧ OnGq q1 q' ∧ KC r0 N q1 q' ∧ OnGr r1 r' ∧ GX r0 T q' r' n' cr' ∧ n' ≤ cap ∧ n' ≤ (a * nch r0 T 1 + nch r0 T 1) * nch r0 T 2) ∨
    (∃ q' r', f_X6_gather_35 Kc fu q (nI n) (nI a) (nI b) = some (2001, q') ∧ f_X10_gatherAll_72 Kr fu r (nI (nch r0 T 1)) (nI (nch r0 T 2)) (nI n) (nI a) (nI b) = some (0, r') ∧ OnGq q1 q' ∧ KC r0 N q1 q' ∧ OnGr r1 r') := by
  have n40 := nch40 hT
  induction fu with
  | zero => intro q r c n cr _ _ _ _ _ _ h; omega
  | succ fu ih =>
    intro q r b n cr oq kq or hg hn hbn hf hpos
    have hTq := oq.run.T hS hT
    rw [f_X6_gather_35, f_X6_gather_35_b, f_X10_gatherAll_72, f_X10_gatherAll_72_b, show (1 : Int32) = nI 1 from rfl, c_choices hTq (by decide), Option.bind_some]
    by_cases he : b = nch r0 T 1
    · subst he
      rw [if_pos (nI_le (Nat.le_refl _) (by have := n40 1; omega)), if_pos (nI_le (Nat.le_refl _) (by have := n40 1; omega))]
      exact Or.inl ⟨q, r, n, cr, rfl, rfl, oq, kq, or, hg, hn, hpos⟩
    · have hbl : b < nch r0 T 1 := by omega
      rw [if_neg (nI_ge hbl (by have := n40 1; omega)), if_neg (nI_ge hbl (by have := n40 1; omega))]
      rcases g2_loop hS hT hN hQ hw hp hrc hm hb hF3 h12 hqC hc2 hcap (Kc := f_X6_gather_119 (f_X6_gather_35 Kc fu)) (Kr := f_X10_gatherAll_138 (f_X10_gatherAll_72 Kr fu)) ha hbl FU q r 0 n cr oq kq or hg hn (Nat.zero_le _) (by show nch r0 T 2 - 0 < 100000; have := n40 2; omega) (by omega) with ⟨q', r', n', cr', h1, h2, h3, h4, h5, h6, h7, h8⟩ | ⟨q', r', h1, h2, h3⟩
      · have h1' : f_X6_gather_50 (f_X6_gather_119 (f_X6_gather_35 Kc fu)) FU q (nI n) (nI a) (nI b) 0 = f_X6_gather_119 (f_X6_gather_35 Kc fu) q' (nI n') (nI a) (nI b) := h1
        have h2' : f_X10_gatherAll_81 (f_X10_gatherAll_138 (f_X10_gatherAll_72 Kr fu)) FU r (nI (nch r0 T 1)) (nI (nch r0 T 2)) (nI n) (nI a) (nI b) 0 = f_X10_gatherAll_138 (f_X10_gatherAll_72 Kr fu) r' (nI (nch r0 T 1)) (nI (nch r0 T 2)) (nI n') (nI a) (nI b) := h2
        rw [h1', h2']
        unfold f_X6_gather_119 f_X10_gatherAll_138
        rw [nI_1]
        have hx : (a * nch r0 T 1 + b) * nch r0 T 2 + nch r0 T 2 = (a * nch r0 T 1 + (b + 1)) * nch r0 T 2 := by
          rw [show a * nch r0 T 1 + (b + 1) = (a * nch r0 T 1 + b) + 1 by omega, Nat.add_mul (a * nch r0 T 1 + b) 1 _, Nat.one_mul]
        exact ih q' r' (b + 1) n' cr' h3 h4 h5 h6 h7 (by omega) (by omega) (by rw [← hx]; exact h8)
      · exact Or.inr ⟨q', r', h1, h2, h3⟩
theorem g0_loop {S T N I G O cap : Nat} {q1 r0 r1 : QS} {P0 : Nat → Prop} {w : Option Nat} (hS : SOk r0 S) (hT : SimT q1 r0 S T) (hN : SimN q1 r0 S T N) (hQ : SimQ q1 r0 N I G O) (hw : Wn r0 N w) (hp : PlanOk q1 0 P0 N) (hrc : Rch r0 (fun k => qF q1 9 = nI k ∧ k < N) P0 N) (hm : Wm r0 r1 w) (hb : SameB r0 r1) (hF3 : qF r1 3 = qF r0 3) (h12 : qF q1 12 = nI cap) (hqC : qC q1 = cap) (hc2 : cap ≤ 2000) (hcap : cap = 2000 ∨ nch r0 T 0 * nch r0 T 1 * nch r0 T 2 ≤ cap) (hT1 : 1 ≤ T) (fu : Nat) : ∀ (q r : QS) (a n : Nat) (cr : Nat → Nat → Nat), OnGq q1 q → KC r0 N q1 q → OnGr r1 r → GX r0 T q r n cr → n ≤ cap → a ≤ nch r0 T 0 → nch r0 T 0 - a < fu → n ≤ a * nch r0 T 1 * nch r0 T 2 →
    (∃ q' r' n' cr', f_X6_gather_21 fu q (nI n) (nI a) = some (nI n', q') ∧ f_X10_gatherAll_58 fu r (nI (nch r0 T 1)) (nI (nch r0 T 2)) (nI n) (nI a) = some (1, uF r' 9 (nI n')) ∧ OnGq q1 q' ∧ KC r0 N q1 q' ∧ OnGr r1 r' ∧ GX r0 T q' r' n' cr' ∧ n' ≤ cap) ∨
    (∃ q' r', f_X6_gather_21 fu q (nI n) (nI a) = some (2001, q') ∧ f_X10_gatherAll_58 fu r (nI (nch r0 T 1)) (nI (nch r0 T 2)) (nI n) (nI a) = some (0, r') ∧ OnGq q1 q' ∧ KC r0 N q1 q' ∧ OnGr r1 r') := by
  have n40 := nch40 hT
  induction fu with
  | zero => intro q r c n cr _ _ _ _ _ _ h; omega
  | succ fu ih =>
    intro q r a n cr oq kq or hg hn han hf hpos
    have hTq := oq.run.T hS hT
    have h9 : qI r 9 0 = nI (nch r0 T 0) := by
      rw [or.1 9 (by decide) (by decide) (by decide) (by decide), (hb 9 (by decide)).1, (hT.2.2.2 0 (by omega)).2.2.2.2.2.1]
      unfold nch
      rw [if_pos (by omega)]
    have d9 : rd (qI r 9) 3 (0 : Int32) = some (nI (nch r0 T 0)) := by rw [show (0 : Int32) = nI 0 from rfl, rd_nI (by decide) (by decide), h9]
    have d0 : f_X7_choicesIn q (0 : Int32) = some (nI (nch r0 T 0)) := c_choices (t := 0) hTq (by decide)
    rw [f_X6_gather_21, f_X6_gather_21_b, f_X10_gatherAll_58, f_X10_gatherAll_58_b, d0, d9]
    simp only [Option.bind_some]
    by_cases he : a = nch r0 T 0
    · subst he
      rw [if_pos (nI_le (Nat.le_refl _) (by have := n40 0; omega)), if_pos (nI_le (Nat.le_refl _) (by have := n40 0; omega))]
      exact Or.inl ⟨q, r, n, cr, rfl, rfl, oq, kq, or, hg, hn⟩
    · have hal : a < nch r0 T 0 := by omega
      rw [if_neg (nI_ge hal (by have := n40 0; omega)), if_neg (nI_ge hal (by have := n40 0; omega))]
      rcases g1_loop hS hT hN hQ hw hp hrc hm hb hF3 h12 hqC hc2 hcap (Kc := f_X6_gather_125 (f_X6_gather_21 fu)) (Kr := f_X10_gatherAll_144 (f_X10_gatherAll_58 fu)) hal FU q r 0 n cr oq kq or hg hn (Nat.zero_le _) (by show nch r0 T 1 - 0 < 100000; have := n40 1; omega) (by rw [Nat.add_zero]; exact hpos) with ⟨q', r', n', cr', h1, h2, h3, h4, h5, h6, h7, h8⟩ | ⟨q', r', h1, h2, h3⟩
      · have h1' : f_X6_gather_35 (f_X6_gather_125 (f_X6_gather_21 fu)) FU q (nI n) (nI a) 0 = f_X6_gather_125 (f_X6_gather_21 fu) q' (nI n') (nI a) := h1
        have h2' : f_X10_gatherAll_72 (f_X10_gatherAll_144 (f_X10_gatherAll_58 fu)) FU r (nI (nch r0 T 1)) (nI (nch r0 T 2)) (nI n) (nI a) 0 = f_X10_gatherAll_144 (f_X10_gatherAll_58 fu) r' (nI (nch r0 T 1)) (nI (nch r0 T 2)) (nI n') (nI a) := h2
        rw [h1', h2']
        unfold f_X6_gather_125 f_X10_gatherAll_144
        rw [nI_1]
        have hx : a * nch r0 T 1 + nch r0 T 1 = (a + 1) * nch r0 T 1 := by rw [Nat.add_mul, Nat.one_mul]
        rw [hx] at h8
        exact ih q' r' (a + 1) n' cr' h3 h4 h5 h6 h7 (by omega) (by omega) h8
      · exact Or.inr ⟨q', r', h1, h2, h3⟩
