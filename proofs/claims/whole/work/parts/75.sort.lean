/-! orders: comparing and sorting, in lockstep -/
theorem neg0 {c : Int32} (h : -c = 0) : c = 0 := by
  have h2 : - -c = -0 := by rw [h]
  rw [Int32.neg_neg] at h2
  exact h2
def Ord (q r0 : QS) (I O : Nat) : Prop := O ≤ 4 ∧ qF q 8 = nI O ∧ qF r0 6 = nI O ∧ ∀ o, o < O → ∃ i, i < I ∧ qI r0 28 o = nI i ∧ qI q 42 o = nI i ∧ qI q 43 o = qI r0 29 o
theorem Ord.of {q r : QS} {N I G O : Nat} (hQ : SimQ q r N I G O) : Ord q r I O := by
  obtain ⟨-, -, -, -, -, -, -, -, h1, h2, h3, h4, -⟩ := hQ
  refine ⟨h1, h2, h3, fun o ho => ?_⟩
  obtain ⟨a, b, c, d, e⟩ := h4 o ho
  exact ⟨_, a, b, c.trans b, e⟩
theorem Ord.rk {q q' r : QS} {I O : Nat} (o : OnRk q q') (h : Ord q r I O) : Ord q' r I O := ⟨h.1, by rw [o.2.2.1]; exact h.2.1, h.2.2.1, fun p hp => by rw [o.1 42 (by decide), o.1 43 (by decide)]; exact h.2.2.2 p hp⟩
theorem bh_end {r : QS} {x1 x2 x3 y : Int32} {fu : Nat} (hx : ¬ x3 = 0) : f_X10_isBehind_5 (fu + 1) r x1 x2 x3 y = some (if x3 ≤ 0 then 0 else 1, r) := by
  rw [f_X10_isBehind_5, f_X10_isBehind_5_b, if_neg hx]
  by_cases h : x3 ≤ 0
  · rw [if_pos h, if_pos h]
    split <;> rfl
  · rw [if_neg h, if_neg h]
    split <;> rfl
theorem ty_k {t : Nat} {x y : Vl} (hx : Ty t x) (hy : Ty t y) : vk x = 0 ∨ vk y = 0 ∨ vk x = vk y := by
  rcases hx.2 with h | h
  · exact Or.inl h
  · rcases hy.2 with h' | h'
    · exact Or.inr (Or.inl h')
    · exact Or.inr (Or.inr (h.trans h'.symm))
theorem cb_loop {q q0 r0 : QS} {S T N I C R O cap a b : Nat} {cr : Nat → Nat → Nat} {g : Nat → List Nat} {fi : Nat → Int32} {ty : Nat → Nat} (h : Rx q0 r0 S T N I C R cr g fi) (hv : HV q R I cap ty (xv r0 cr g)) (hO : Ord q r0 I O) (ha : a < R) (hb : b < R) (fu : Nat) : ∀ (r : QS) (o : Nat), OnSr r0 r → o ≤ O → O - o + 1 < fu → ∃ z r', f_X6_compareRows_2 q fu (nI a) (nI b) (nI o) = some z ∧ f_X10_isBehind_5 fu r (fi a) (fi b) 0 (nI o) = some (if z ≤ 0 then 0 else 1, r') ∧ EvC r r' := by
  have v4 := hv.v4
  obtain ⟨v1, v2, v3, v4', v5, v6, v7⟩ := id hv
  obtain ⟨o1, o2, o3, o4⟩ := hO
  induction fu with
  | zero => intro r o _ _ h; omega
  | succ fu ih =>
    intro r o ho hle hf
    rw [f_X6_compareRows_2, f_X6_compareRows_2_b, f_X10_isBehind_5, f_X10_isBehind_5_b, o2, ho.2.1 6 (by decide), o3]
    by_cases he : o = O
    · subst he
      rw [if_pos (nI_le (Nat.le_refl _) (by omega)), if_pos (nI_le (Nat.le_refl _) (by omega)), if_pos (by decide)]
      exact ⟨0, r, rfl, by rw [if_pos (by decide)], EvC.rfl⟩
    · have hoO : o < O := by omega
      obtain ⟨i, i1', i2, i3, i4⟩ := o4 o hoO
      obtain ⟨b1, b2⟩ := h.2.2.2.2.1 i i1'
      have hI := h.2.1
      obtain ⟨xa1, xa2⟩ := v7 a i ha i1'
      obtain ⟨xb1, xb2⟩ := v7 b i hb i1'
      obtain ⟨r1, c1, c2⟩ := r_cmpx h ho i1' ha hb
      rw [if_neg (nI_ge hoO (by omega)), if_neg (nI_ge hoO (by omega)), if_pos rfl, rd_nI (show o < 4 by omega) (by decide), Option.bind_some, i3, plc, Option.bind_some, plc, Option.bind_some, f_cnl xa1 xb1 xa2.1 xb2.1 (ty_k xa2 xb2) (by rw [v4]; omega) (by rw [v4]; omega) (by rw [v4]; omega), Option.bind_some]
      rw [(ho.1 28 (by decide)).1, rd_nI (f := qI r0 28) (show o < 4 by omega) (by decide), Option.bind_some, i2, (ho.1 26 (by decide)).1, rd_nI (show i < 8 by omega) (by decide), Option.bind_some, b2, c1, Option.bind_some, (c2.1 29 (by decide)).1, (ho.1 29 (by decide)).1, rd_nI (f := qI r0 29) (show o < 4 by omega) (by decide), Option.bind_some]
      unfold f_X10_isBehind_56
      rw [nI_1]
      by_cases hz : ocmp (xv r0 cr g a i) (xv r0 cr g b i) = 0
      · rw [if_pos hz]
        obtain ⟨z, r', d1, d2, d3⟩ := ih r1 (o + 1) (ho.trans c2.sr) (by omega) (by omega)
        refine ⟨z, r', d1, ?_, c2.trans d3⟩
        simp only [hz]
        split
        · exact d2
        · exact d2
      · rw [if_neg hz, rd_nI (show o < 4 by omega) (by decide), Option.bind_some, i4]
        obtain ⟨fu, rfl⟩ : ∃ k, fu = k + 1 := ⟨fu - 1, by omega⟩
        by_cases hfl : qI r0 29 o = 0
        · rw [if_pos hfl, if_pos hfl]
          exact ⟨_, r1, rfl, bh_end hz, c2⟩
        · rw [if_neg hfl, if_neg hfl]
          exact ⟨_, r1, rfl, bh_end (fun z => hz (neg0 z)), c2⟩
/-! one step of merging -/
theorem r_tk1 {B : QS → Int32 → Int32 → Int32 → Int32 → Int32 → Int32 → Option QS} {r : QS} {x1 x2 x4 x5 y : Int32} {a to : Nat} (ha : a < 2000) (ht : to < 2000) (h1 : qI r 32 a = y) (h2 : vp_nar .short y = y) : f_X10_sort_109 B r x1 x2 (nI a) x4 x5 (nI to) = B (uI r 33 to y) x1 x2 (nI (a + 1)) x4 x5 (nI (to + 1)) := by
  unfold f_X10_sort_109 f_X10_sort_110 f_X10_sort_139 f_X10_sort_152 f_X10_sort_167
  rw [if_pos rfl, rd_nI ha (by decide), Option.bind_some, h1, h2, wI_nI ht (by decide), Option.bind_some, if_pos rfl, if_pos rfl, nI_1, nI_1]
theorem r_tk2 {B : QS → Int32 → Int32 → Int32 → Int32 → Int32 → Int32 → Option QS} {r : QS} {x1 x2 x3 x5 y : Int32} {b to : Nat} (hb : b < 2000) (ht : to < 2000) (h1 : qI r 32 b = y) (h2 : vp_nar .short y = y) : f_X10_sort_105 B r x1 x2 x3 (nI b) x5 (nI to) = B (uI r 33 to y) x1 x2 x3 (nI (b + 1)) x5 (nI (to + 1)) := by
  unfold f_X10_sort_105 f_X10_sort_110 f_X10_sort_139 f_X10_sort_152 f_X10_sort_167
  rw [if_neg i1, rd_nI hb (by decide), Option.bind_some, h1, h2, wI_nI ht (by decide), Option.bind_some, if_neg i1, if_neg i1, nI_1, nI_1]
theorem c_tk1 {B : QS → Int32 → Int32 → Int32 → Int32 → Int32 → Option QS} {q : QS} {x2 x3 x6 : Int32} {a to cap : Nat} (hqC : qC q = cap) (hc : cap ≤ 2000) (ha : a < cap) (ht : to < cap) : f_X6_merge_53 B q x2 x3 (nI a) x6 (nI to) = B (uI q 55 to (qI q 54 a)) x2 x3 (nI (a + 1)) x6 (nI (to + 1)) := by
  unfold f_X6_merge_53 f_X6_merge_58 f_X6_merge_104
  rw [if_neg i1, hqC, rd_nI ha (by omega), Option.bind_some, wI_nI ht (by omega), Option.bind_some, nI_1, nI_1]
theorem c_tk2 {B : QS → Int32 → Int32 → Int32 → Int32 → Int32 → Option QS} {q : QS} {x2 x3 x5 : Int32} {b to cap : Nat} (hqC : qC q = cap) (hc : cap ≤ 2000) (hb : b < cap) (ht : to < cap) : f_X6_merge_57 B q x2 x3 x5 (nI b) (nI to) = B (uI q 55 to (qI q 54 b)) x2 x3 x5 (nI (b + 1)) (nI (to + 1)) := by
  unfold f_X6_merge_57 f_X6_merge_58 f_X6_merge_104
  rw [if_pos rfl, hqC, rd_nI hb (by omega), Option.bind_some, wI_nI ht (by omega), Option.bind_some, nI_1, nI_1]
theorem Rk.up {A B A' B' fi : Nat → Int32} {R n to p : Nat} {s s' : Nat → Nat} (hs : Rk A B fi R n s) (hp : p < n) (h : Rk A' B' fi R to s') : Rk (upd A' to (A p)) (upd B' to (fi (s p))) fi R (to + 1) (fun z => if z = to then s p else s' z) := fun z hz => by
  show upd A' to (A p) z = nI (if z = to then s p else s' z) ∧ upd B' to (fi (s p)) z = fi (if z = to then s p else s' z) ∧ (if z = to then s p else s' z) < R
  rw [upd_at, upd_at]
  by_cases e : z = to
  · rw [if_pos e, if_pos e, if_pos e]
    exact ⟨(hs p hp).1, rfl, (hs p hp).2.2⟩
  · rw [if_neg e, if_neg e, if_neg e]
    exact h z (by omega)
set_option maxHeartbeats 1000000 in
theorem mg_loop {q0 r0 : QS} {S T N I C R O cap n f w m e : Nat} {cr : Nat → Nat → Nat} {g : Nat → List Nat} {fi : Nat → Int32} {ty : Nat → Nat} {s : Nat → Nat} {K : QS → Int32 → Int32 → Option QS} (h : Rx q0 r0 S T N I C R cr g fi) (hn : n ≤ R) (hm1 : m = f + w ∨ (m = n ∧ n ≤ f + w)) (hm2 : m ≤ n) (hme : m ≤ e) (hen : e ≤ n) (hfw : f + w ≤ 10000) (fu : Nat) : ∀ (q r : QS) (a b b' to : Nat) (s' : Nat → Nat), HV q R I cap ty (xv r0 cr g) → Ord q r0 I O → OnSr r0 r → qF r 10 = nI n → Rk (qI q 54) (qI r 32) fi R n s → Rk (qI q 55) (qI r 33) fi R to s' → a ≤ m → m ≤ b → b ≤ e → a + b = to + m → (b' = b ∨ (b = e ∧ e ≤ b')) → b' ≤ 10000 → to ≤ e → e - to < fu → ∃ q' r' s'', f_X6_merge_18 fu q (nI m) (nI e) (nI a) (nI b) (nI to) = some q' ∧ f_X10_sort_56 K fu r (nI w) (nI f) (nI a) (nI b') (nI e) (nI to) = K r' (nI w) (nI f) ∧ OnRk q q' ∧ OnSr r0 r' ∧ qI q' 54 = qI q 54 ∧ qI r' 32 = qI r 32 ∧ qF r' 10 = nI n ∧ Rk (qI q' 55) (qI r' 33) fi R e s'' := by
  have hR2 := h.2.2.1
  induction fu with
  | zero => intro q r a b b' to s' _ _ _ _ _ _ _ _ _ _ _ _ _ h; omega
  | succ fu ih =>
    intro q r a b b' to s' hv hO ho h10 hs hs' h1 h2 h3 h4 h5 h6 h7 h8
    obtain ⟨v1, v2, v3, v4, v5, v6, v7⟩ := id hv
    rw [f_X6_merge_18, f_X6_merge_18_b, f_X10_sort_56, f_X10_sort_56_b, h10]
    by_cases he : to = e
    · subst he
      rw [if_pos (nI_le (Nat.le_refl _) (by omega)), if_pos (nI_le (Nat.le_refl _) (by omega))]
      exact ⟨q, r, s', rfl, rfl, OnRk.rfl, ho, rfl, rfl, h10, hs'⟩
    · have hte : to < e := by omega
      rw [if_neg (nI_ge hte (by omega)), if_neg (nI_ge hte (by omega)), show nI f + nI w = nI (f + w) from nI_add f w]
      have first : ∀ (r1 : QS), OnSr r0 r1 → qF r1 10 = nI n → qI r1 32 = qI r 32 → qI r1 33 = qI r 33 → a < m → ∃ q' r' s'', f_X6_merge_53 (f_X6_merge_18 fu) q (nI m) (nI e) (nI a) (nI b) (nI to) = some q' ∧ f_X10_sort_109 (f_X10_sort_56 K fu) r1 (nI w) (nI f) (nI a) (nI b') (nI e) (nI to) = K r' (nI w) (nI f) ∧ OnRk q q' ∧ OnSr r0 r' ∧ qI q' 54 = qI q 54 ∧ qI r' 32 = qI r 32 ∧ qF r' 10 = nI n ∧ Rk (qI q' 55) (qI r' 33) fi R e s'' := by
        intro r1 p1 p2 p3 p4 ham
        obtain ⟨k1, k2, k3⟩ := hs a (by omega)
        rw [c_tk1 v1 v5 (show a < cap by omega) (show to < cap by omega), r_tk1 (y := fi (s a)) (show a < 2000 by omega) (show to < 2000 by omega) (by rw [p3]; exact k2) (h.2.2.2.2.2 _ k3).2.2]
        have ok : OnRk q (uI q 55 to (qI q 54 a)) := OnRk.i (by decide) (by decide)
        obtain ⟨q', r', s'', d1, d2, d3, d4, d5, d6, d7, d8⟩ := ih (uI q 55 to (qI q 54 a)) (uI r1 33 to (fi (s a))) (a + 1) b b' (to + 1) (fun z => if z = to then s a else s' z) (hv.rk ok) (hO.rk ok) (p1.trans (OnSr.i (Or.inr rfl))) p2 (by rw [qI_uI, if_neg (by decide), qI_uI, if_neg (by decide), p3]; exact hs) (by rw [qI_uI, if_pos rfl, qI_uI, if_pos rfl, p4]; exact hs.up (by omega) hs') (by omega) h2 h3 (by omega) h5 h6 (by omega) (by omega)
        exact ⟨q', r', s'', d1, d2, ok.trans d3, d4, d5, by rw [d6]; exact p3, d7, d8⟩
      have second : ∀ (r1 : QS), OnSr r0 r1 → qF r1 10 = nI n → qI r1 32 = qI r 32 → qI r1 33 = qI r 33 → b < e → ∃ q' r' s'', f_X6_merge_57 (f_X6_merge_18 fu) q (nI m) (nI e) (nI a) (nI b) (nI to) = some q' ∧ f_X10_sort_105 (f_X10_sort_56 K fu) r1 (nI w) (nI f) (nI a) (nI b') (nI e) (nI to) = K r' (nI w) (nI f) ∧ OnRk q q' ∧ OnSr r0 r' ∧ qI q' 54 = qI q 54 ∧ qI r' 32 = qI r 32 ∧ qF r' 10 = nI n ∧ Rk (qI q' 55) (qI r' 33) fi R e s'' := by
        intro r1 p1 p2 p3 p4 hbe
        have eb : b' = b := by rcases h5 with z | z <;> omega
        subst eb
        obtain ⟨k1, k2, k3⟩ := hs b' (by omega)
        rw [c_tk2 v1 v5 (show b' < cap by omega) (show to < cap by omega), r_tk2 (y := fi (s b')) (show b' < 2000 by omega) (show to < 2000 by omega) (by rw [p3]; exact k2) (h.2.2.2.2.2 _ k3).2.2]
        have ok : OnRk q (uI q 55 to (qI q 54 b')) := OnRk.i (by decide) (by decide)
        obtain ⟨q', r', s'', d1, d2, d3, d4, d5, d6, d7, d8⟩ := ih (uI q 55 to (qI q 54 b')) (uI r1 33 to (fi (s b'))) a (b' + 1) (b' + 1) (to + 1) (fun z => if z = to then s b' else s' z) (hv.rk ok) (hO.rk ok) (p1.trans (OnSr.i (Or.inr rfl))) p2 (by rw [qI_uI, if_neg (by decide), qI_uI, if_neg (by decide), p3]; exact hs) (by rw [qI_uI, if_pos rfl, qI_uI, if_pos rfl, p4]; exact hs.up (by omega) hs') h1 (by omega) (by omega) (by omega) (Or.inl rfl) (by omega) (by omega) (by omega)
        exact ⟨q', r', s'', d1, d2, ok.trans d3, d4, d5, by rw [d6]; exact p3, d7, d8⟩
      by_cases hb : b = e
      · have ham : a < m := by omega
        rw [if_pos (show nI e ≤ nI b from nI_le (by omega) (by omega)), if_neg (show ¬ nI (f + w) ≤ nI a from nI_ge (by omega) (by omega)), if_neg (show ¬ nI n ≤ nI a from nI_ge (by omega) (by omega)), if_pos (show nI e ≤ nI b' from nI_le (by rcases h5 with z | z <;> omega) (by omega))]
        exact first r ho h10 rfl rfl ham
      · have hbe : b < e := by omega
        have eb : b' = b := by rcases h5 with z | z <;> omega
        rw [if_neg (show ¬ nI e ≤ nI b from nI_ge hbe (by omega))]
        by_cases ham : a = m
        · rw [if_pos (show nI m ≤ nI a from nI_le (by omega) (by omega))]
          rcases hm1 with z | z
          · rw [if_pos (show nI (f + w) ≤ nI a from nI_le (by omega) (by omega))]
            exact second r ho h10 rfl rfl hbe
          · omega
        · have ham' : a < m := by omega
          obtain ⟨k1, k2, k3⟩ := hs a (by omega)
          obtain ⟨l1, l2, l3⟩ := hs b (by omega)
          rw [if_neg (show ¬ nI m ≤ nI a from nI_ge ham' (by omega)), if_neg (show ¬ nI (f + w) ≤ nI a from nI_ge (by omega) (by omega)), if_neg (show ¬ nI n ≤ nI a from nI_ge (by omega) (by omega)), if_neg (show ¬ nI e ≤ nI b' from nI_ge (by omega) (by omega)), v1, rd_nI (show a < cap by omega) (by omega), Option.bind_some, rd_nI (show b < cap by omega) (by omega), Option.bind_some, k1, l1, rd_nI (show a < 2000 by omega) (by decide), Option.bind_some, rd_nI (show b' < 2000 by omega) (by decide), Option.bind_some, k2, eb, l2]
          obtain ⟨z, r1, z1, z2, z3⟩ := cb_loop h hv hO k3 l3 FU r 0 ho (Nat.zero_le _) (by have := hO.1; show O - 0 + 1 < 100000; omega)
          rw [show f_X6_compareRows q (nI (s a)) (nI (s b)) = some z from z1, show f_X10_isBehind r (fi (s a)) (fi (s b)) = some (if z ≤ 0 then 0 else 1, r1) from z2, Option.bind_some, Option.bind_some]
          rw [eb] at first second
          by_cases hz : z ≤ 0
          · rw [if_neg (show ¬ 0 < z from fun y => by rw [i32_le] at hz; rw [i32_lt] at y; omega), if_pos (show ((if z ≤ 0 then (0 : Int32) else 1), r1).1 = 0 from if_pos hz)]
            exact first r1 (ho.trans z3.sr) (by rw [z3.2.1]; exact h10) (z3.1 32 (by decide)).1 (z3.1 33 (by decide)).1 ham'
          · rw [if_pos (i32_not_le'.mp hz), if_neg (show ¬ ((if z ≤ 0 then (0 : Int32) else 1), r1).1 = 0 from by show ¬ (if z ≤ 0 then (0 : Int32) else 1) = 0; rw [if_neg hz]; exact i1)]
            exact second r1 (ho.trans z3.sr) (by rw [z3.2.1]; exact h10) (z3.1 32 (by decide)).1 (z3.1 33 (by decide)).1 hbe
theorem two_nI (a : Nat) : (2 : Int32) * nI a = nI (2 * a) := pk_mul 2 a
theorem nI_two (a : Nat) : nI a * (2 : Int32) = nI (2 * a) := by rw [Nat.mul_comm]; exact pk_mul a 2
theorem ft_loop {q0 r0 : QS} {S T N I C R O cap n w : Nat} {cr : Nat → Nat → Nat} {g : Nat → List Nat} {fi : Nat → Int32} {ty : Nat → Nat} {s : Nat → Nat} {Kc : QS → Int32 → Int32 → Option QS} {Kr : QS → Int32 → Option QS} (h : Rx q0 r0 S T N I C R cr g fi) (hn : n ≤ R) (hw : 0 < w) (hwn : w < n) (fu : Nat) : ∀ (q r : QS) (f : Nat) (s' : Nat → Nat), HV q R I cap ty (xv r0 cr g) → Ord q r0 I O → OnSr r0 r → qF r 10 = nI n → Rk (qI q 54) (qI r 32) fi R n s → Rk (qI q 55) (qI r 33) fi R (min f n) s' → f ≤ 6000 → n - f < fu → ∃ q' r' s'', f_X6_sortRanks_20 Kc fu q (nI n) (nI w) (nI f) = Kc q' (nI n) (nI w) ∧ f_X10_sort_12 Kr fu r (nI w) (nI f) = Kr r' (nI w) ∧ OnRk q q' ∧ OnSr r0 r' ∧ qI q' 54 = qI q 54 ∧ qI r' 32 = qI r 32 ∧ qF r' 10 = nI n ∧ Rk (qI q' 55) (qI r' 33) fi R n s'' := by
  have hR2 := h.2.2.1
  induction fu with
  | zero => intro q r f s' _ _ _ _ _ _ _ h; omega
  | succ fu ih =>
    intro q r f s' hv hO ho h10 hs hs' hf6 hf
    rw [f_X6_sortRanks_20, f_X6_sortRanks_20_b, f_X10_sort_12, f_X10_sort_12_b, h10, two_nI, show nI f + nI w = nI (f + w) from nI_add f w, show nI f + nI (2 * w) = nI (f + 2 * w) from nI_add f _]
    by_cases he : n ≤ f
    · rw [if_pos (nI_le he (by omega)), if_pos (nI_le he (by omega))]
      rw [Nat.min_eq_right he] at hs'
      exact ⟨q, r, s', rfl, rfl, OnRk.rfl, ho, rfl, rfl, h10, hs'⟩
    · have hfn : f < n := by omega
      rw [if_neg (nI_ge hfn (by omega)), if_neg (nI_ge hfn (by omega)), min_ok (by omega) (by omega), Option.bind_some, min_ok (by omega) (by omega), Option.bind_some]
      rw [Nat.min_eq_left (by omega)] at hs'
      have er : (if nI n ≤ nI (f + 2 * w) then f_X10_sort_51 (f_X10_sort_12 Kr fu) r (nI w) (nI f) (nI f) (nI (f + w)) (nI n) else f_X10_sort_51 (f_X10_sort_12 Kr fu) r (nI w) (nI f) (nI f) (nI (f + w)) (nI (f + 2 * w))) = f_X10_sort_56 (f_X10_sort_175 (f_X10_sort_12 Kr fu)) FU r (nI w) (nI f) (nI f) (nI (f + w)) (nI (min (f + 2 * w) n)) (nI f) := by
        by_cases hc : n ≤ f + 2 * w
        · rw [if_pos (nI_le hc (by omega)), Nat.min_eq_right hc]
          rfl
        · rw [if_neg (nI_ge (by omega) (by omega)), Nat.min_eq_left (by omega)]
          rfl
      rw [er]
      obtain ⟨q1, r1, s1, a1, a2, a3, a4, a5, a6, a7, a8⟩ := mg_loop (K := f_X10_sort_175 (f_X10_sort_12 Kr fu)) (f := f) (w := w) (m := min (f + w) n) (e := min (f + 2 * w) n) h hn (by omega) (by omega) (by omega) (by omega) (by omega) FU q r f (min (f + w) n) (f + w) f s' hv hO ho h10 hs hs' (by omega) (Nat.le_refl _) (by omega) rfl (by omega) (by omega) (by omega) (by show min (f + 2 * w) n - f < 100000; omega)
      rw [show f_X6_merge q (nI f) (nI (min (f + w) n)) (nI (min (f + 2 * w) n)) = some q1 from a1, Option.bind_some, a2]
      unfold f_X10_sort_175
      rw [two_nI, show nI f + nI (2 * w) = nI (f + 2 * w) from nI_add f _]
      obtain ⟨q', r', s'', d1, d2, d3, d4, d5, d6, d7, d8⟩ := ih q1 r1 (f + 2 * w) s1 (hv.rk a3) (hO.rk a3) a4 a7 (by rw [a5, a6]; exact hs) a8 (by omega) (by omega)
      exact ⟨q', r', s'', d1, d2, a3.trans d3, d4, by rw [d5]; exact a5, by rw [d6]; exact a6, d7, d8⟩
theorem sc_loop {n : Nat} {Bf : Nat → Int32} {K : QS → Int32 → Option QS} {x1 : Int32} (hn : n ≤ 2000) (hB : ∀ p, p < n → vp_nar .short (Bf p) = Bf p) (fu : Nat) : ∀ (r : QS) (p : Nat), qF r 10 = nI n → qI r 33 = Bf → p ≤ n → n - p < fu → (∀ p', p' < p → qI r 32 p' = Bf p') → ∃ r', f_X10_sort_186 K fu r x1 (nI p) = K r' x1 ∧ OnSr r r' ∧ qF r' 10 = nI n ∧ ∀ p', p' < n → qI r' 32 p' = Bf p' := by
  induction fu with
  | zero => intro r p _ _ _ h; omega
  | succ fu ih =>
    intro r p h10 h33 hp hf hd
    rw [f_X10_sort_186, f_X10_sort_186_b, h10]
    by_cases he : p = n
    · subst he
      rw [if_pos (nI_le (Nat.le_refl _) (by omega))]
      exact ⟨r, rfl, OnSr.rfl, h10, hd⟩
    · rw [if_neg (nI_ge (show p < n by omega) (by omega)), h33, rd_nI (show p < 2000 by omega) (by decide), Option.bind_some, hB p (by omega), wI_nI (show p < 2000 by omega) (by decide), Option.bind_some, nI_1]
      obtain ⟨r', a1, a2, a3, a4⟩ := ih (uI r 32 p (Bf p)) (p + 1) h10 (by rw [qI_uI, if_neg (by decide)]; exact h33) (by omega) (by omega) (fun p' hp' => by
        rw [qI_uI, if_pos rfl, upd_at]
        by_cases e : p' = p
        · rw [if_pos e, e]
        · rw [if_neg e]; exact hd p' (by omega))
      exact ⟨r', a1, (OnSr.i (Or.inl rfl)).trans a2, a3, a4⟩
theorem so_loop {q0 r0 : QS} {S T N I C R O cap n : Nat} {cr : Nat → Nat → Nat} {g : Nat → List Nat} {fi : Nat → Int32} {ty : Nat → Nat} (h : Rx q0 r0 S T N I C R cr g fi) (hn : n ≤ R) (fu : Nat) : ∀ (q r : QS) (w : Nat) (s : Nat → Nat), HV q R I cap ty (xv r0 cr g) → Ord q r0 I O → OnSr r0 r → qF r 10 = nI n → Rk (qI q 54) (qI r 32) fi R n s → 0 < w → w ≤ 4000 → 4000 - w < fu → ∃ q' r' s', f_X6_sortRanks_13 fu q (nI n) (nI w) = some q' ∧ f_X10_sort_2 fu r (nI w) = some r' ∧ OnRk q q' ∧ OnSr r0 r' ∧ qF r' 10 = nI n ∧ Rk (qI q' 54) (qI r' 32) fi R n s' := by
  have hR2 := h.2.2.1
  induction fu with
  | zero => intro q r w s _ _ _ _ _ _ _ h; omega
  | succ fu ih =>
    intro q r w s hv hO ho h10 hs hw0 hw4 hf
    obtain ⟨v1, v2, v3, v4, v5, v6, v7⟩ := id hv
    rw [f_X6_sortRanks_13, f_X6_sortRanks_13_b, f_X10_sort_2, f_X10_sort_2_b, h10]
    by_cases he : n ≤ w
    · rw [if_pos (nI_le he (by omega)), if_pos (nI_le he (by omega))]
      exact ⟨q, r, s, rfl, rfl, OnRk.rfl, ho, h10, hs⟩
    · rw [if_neg (nI_ge (show w < n by omega) (by omega)), if_neg (nI_ge (show w < n by omega) (by omega))]
      obtain ⟨q1, r1, s1, a1, a2, a3, a4, a5, a6, a7, a8⟩ := ft_loop (Kc := f_X6_sortRanks_55 (f_X6_sortRanks_13 fu)) (Kr := f_X10_sort_184 (f_X10_sort_2 fu)) h hn hw0 (show w < n by omega) FU q r 0 s hv hO ho h10 hs (fun p hp => by rw [Nat.zero_min] at hp; omega) (by omega) (by show n - 0 < 100000; omega)
      have a1' : f_X6_sortRanks_20 (f_X6_sortRanks_55 (f_X6_sortRanks_13 fu)) FU q (nI n) (nI w) 0 = f_X6_sortRanks_55 (f_X6_sortRanks_13 fu) q1 (nI n) (nI w) := a1
      have a2' : f_X10_sort_12 (f_X10_sort_184 (f_X10_sort_2 fu)) FU r (nI w) 0 = f_X10_sort_184 (f_X10_sort_2 fu) r1 (nI w) := a2
      rw [a1', a2']
      unfold f_X6_sortRanks_55 f_X10_sort_184
      have hq1 : qC q1 = cap := by rw [a3.2.2.2]; exact v1
      rw [nI_clamp (by omega), show ((0 : Int32)).toNatClampNeg = 0 from rfl, if_pos ⟨by decide, by decide, nI_pos (by omega), by omega, by omega⟩, nI_two]
      obtain ⟨r2, b1, b2, b3, b4⟩ := sc_loop (K := f_X10_sort_212 (f_X10_sort_2 fu)) (x1 := nI w) (n := n) (Bf := qI r1 33) (by omega) (fun p hp => by rw [(a8 p hp).2.1]; exact (h.2.2.2.2.2 _ (a8 p hp).2.2).2.2) FU r1 0 a7 rfl (Nat.zero_le _) (by show n - 0 < 100000; omega) (fun p' hp' => by omega)
      have b1' : f_X10_sort_186 (f_X10_sort_212 (f_X10_sort_2 fu)) FU r1 (nI w) 0 = f_X10_sort_212 (f_X10_sort_2 fu) r2 (nI w) := b1
      rw [b1']
      unfold f_X10_sort_212
      rw [two_nI]
      have ok : OnRk q1 (uA q1 54 (va_cpy (qI q1 55) (qI q1 54) 0 0 n)) := ⟨fun k hk => by rw [qI_uA, if_neg (by omega)], rfl, rfl, rfl⟩
      have hs2 : Rk (qI (uA q1 54 (va_cpy (qI q1 55) (qI q1 54) 0 0 n)) 54) (qI r2 32) fi R n s1 := fun p hp => by
        rw [qI_uA, if_pos rfl, b4 p hp]
        have e : va_cpy (qI q1 55) (qI q1 54) 0 0 n p = qI q1 55 p := by
          show (if 0 ≤ p ∧ p < 0 + n then qI q1 55 (0 + (p - 0)) else qI q1 54 p) = _
          rw [if_pos ⟨Nat.zero_le _, by omega⟩, Nat.sub_zero, Nat.zero_add]
        rw [e]
        exact a8 p hp
      obtain ⟨q', r', s', d1, d2, d3, d4, d5, d6⟩ := ih (uA q1 54 (va_cpy (qI q1 55) (qI q1 54) 0 0 n)) r2 (2 * w) s1 (hv.rk (a3.trans ok)) (hO.rk (a3.trans ok)) (a4.trans b2) b3 hs2 (by omega) (by omega) (by omega)
      exact ⟨q', r', s', d1, d2, (a3.trans ok).trans d3, d4, d5, d6⟩
