/-! the reference's steps: stepKind 1, given 2, stepBytes 3, before 4, lengths 5 -/
def sL (r : QS) (s : Nat) : Nat := (qI r 5 s).toNatClampNeg
def sB (r : QS) (s : Nat) : Nat := (qI r 3 s).toNatClampNeg
def sP (r : QS) (s : Nat) : Nat := (qI r 4 s).toNatClampNeg
def sK (r : QS) (s : Nat) : Nat := (qI r 1 s).toNatClampNeg
/-- the steps up to n are well made -/
def SOk (r : QS) (n : Nat) : Prop := n < 520 ∧ (∀ s, s ≤ n → qI r 5 s = nI (sL r s) ∧ qI r 3 s = nI (sB r s) ∧ qI r 4 s = nI (sP r s) ∧ qI r 1 s = nI (sK r s) ∧ sL r s ≤ 31 ∧ sB r s ≤ 8 ∧ sK r s < 4 ∧ sP r s ≤ s) ∧ sL r 0 = 0 ∧ sB r 0 = 0 ∧ sK r 0 = 0 ∧ qL r 2 0 = 0 ∧
  (∀ s, 0 < s → s ≤ n → sP r s < s ∧ 1 ≤ sK r s ∧ sL r s = sL r (sP r s) + sB r s ∧ (sK r s ≠ 2 → sL r s = 0) ∧ (sK r s = 3 → qL r 2 s = 0 ∨ qL r 2 s = 1))
/-- byte k of a step's text -/
def sbt (r : QS) : Nat → Nat → Nat → Nat
  | 0, _, _ => 0
  | f + 1, s, k => if sL r s - sB r s ≤ k then b8 (qL r 2 s) (sL r s - 1 - k) else sbt r f (sP r s) k
/-- a step's words -/
def mkw (g : Nat → Nat) (n : Nat) : Nat → Nat → Int64
  | 0 => fun _ => 0
  | t + 1 => if t < n then pb (mkw g n t) t (g t) else mkw g n t
theorem gb_mkw {g : Nat → Nat} (hg : ∀ k, g k < 256) {n : Nat} : ∀ t k, gb (mkw g n t) k = if k < t ∧ k < n then g k else 0 := by
  intro t
  induction t with
  | zero => intro k; rw [mkw, gb_zero, if_neg (by omega)]
  | succ t ih =>
    intro k
    rw [mkw]
    by_cases h : t < n
    · rw [if_pos h, gb_pb (hg t)]
      by_cases e : k = t
      · subst e; rw [if_pos rfl, if_pos (by omega)]
      · rw [if_neg e, ih k]
        by_cases c : k < t ∧ k < n
        · rw [if_pos c, if_pos (by omega)]
        · rw [if_neg c, if_neg (by omega)]
    · rw [if_neg h, ih k]
      by_cases c : k < t ∧ k < n
      · rw [if_pos c, if_pos (by omega)]
      · rw [if_neg c, if_neg (by omega)]
theorem mkw_high {g : Nat → Nat} {n : Nat} : ∀ t, t ≤ 32 → ∀ j, 4 ≤ j → mkw g n t j = 0 := by
  intro t
  induction t with
  | zero => intro _ j _; rfl
  | succ t ih =>
    intro ht j hj
    rw [mkw]
    by_cases h : t < n
    · rw [if_pos h]
      unfold pb
      rw [if_neg (by omega)]
      exact ih (by omega) j hj
    · rw [if_neg h]; exact ih (by omega) j hj
/-- words out of bytes -/
def wob (g : Nat → Nat) (n : Nat) : Nat → Int64 := mkw (fun k => g k % 256) n 32
theorem gb_wob {g : Nat → Nat} {n k : Nat} (hk : k < 32) : gb (wob g n) k = if k < n then g k % 256 else 0 := by
  unfold wob
  rw [gb_mkw (fun k => Nat.mod_lt _ (by decide))]
  by_cases c : k < n
  · rw [if_pos ⟨hk, c⟩, if_pos c]
  · rw [if_neg (fun z => c z.2), if_neg c]
theorem tOk_wob {g : Nat → Nat} {n : Nat} (hn : n ≤ 31) : tOk (wob g n) n := ⟨hn, fun k h1 h2 => by rw [gb_wob h2, if_neg (by omega)], fun j hj => mkw_high 32 (Nat.le_refl _) j hj⟩
theorem gb_lt (W : Nat → Int64) (k : Nat) : gb W k < 256 := b8_lt _ _
/-- a text is its bytes -/
theorem wob_eq {g : Nat → Nat} {n : Nat} {W : Nat → Int64} (hW : tOk W n) (h : ∀ k, k < n → gb W k = g k) : W = wob g n := by
  refine gb_ext (fun k hk => ?_) (fun j hj => ?_)
  · rw [gb_wob hk]
    by_cases c : k < n
    · rw [if_pos c, ← h k c, Nat.mod_eq_of_lt (gb_lt _ _)]
    · rw [if_neg c, hW.2.1 k (by omega) hk]
  · rw [hW.2.2 j hj]
    exact (mkw_high 32 (Nat.le_refl _) j hj).symm
/-- what a step is -/
def sv (r : QS) (s : Nat) : Vl := if sK r s = 0 then vNull else if sK r s = 2 then vTxt (wob (sbt r (s + 1) s) (sL r s)) (sL r s) else if sK r s = 1 then vInt (qL r 2 s) else vBool (qL r 2 s)
theorem sv_ok {r : QS} {n s : Nat} (h : SOk r n) (hs : s ≤ n) : vOk (sv r s) ∧ vk (sv r s) = sK r s := by
  have h1 := (h.2.1 s hs)
  unfold sv
  by_cases k0 : sK r s = 0
  · rw [if_pos k0]; exact ⟨Or.inl rfl, k0.symm⟩
  · rw [if_neg k0]
    by_cases k2 : sK r s = 2
    · rw [if_pos k2]; exact ⟨Or.inr (Or.inr (Or.inr ⟨_, _, tOk_wob h1.2.2.2.2.1, rfl⟩)), k2.symm⟩
    · rw [if_neg k2]
      by_cases k1 : sK r s = 1
      · rw [if_pos k1]; exact ⟨Or.inr (Or.inl ⟨_, rfl⟩), k1.symm⟩
      · rw [if_neg k1]
        have k3 : sK r s = 3 := by have := h1.2.2.2.2.2.2.1; omega
        have h0 : 0 < s := by
          rcases Nat.eq_zero_or_pos s with z | z
          · subst z; exact absurd h.2.2.2.2.1 (by omega)
          · exact z
        refine ⟨Or.inr (Or.inr (Or.inl ⟨_, (h.2.2.2.2.2.2 s h0 hs).2.2.2.2 k3, rfl⟩)), k3.symm⟩
/-- the parts of a state that steps are made of -/
def SameS (r r' : QS) : Prop := qI r' 1 = qI r 1 ∧ qI r' 3 = qI r 3 ∧ qI r' 4 = qI r 4 ∧ qI r' 5 = qI r 5 ∧ qL r' 2 = qL r 2
theorem same_sL {r r' : QS} (h : SameS r r') : sL r' = sL r := by funext s; unfold sL; rw [h.2.2.2.1]
theorem same_sB {r r' : QS} (h : SameS r r') : sB r' = sB r := by funext s; unfold sB; rw [h.2.1]
theorem same_sP {r r' : QS} (h : SameS r r') : sP r' = sP r := by funext s; unfold sP; rw [h.2.2.1]
theorem same_sK {r r' : QS} (h : SameS r r') : sK r' = sK r := by funext s; unfold sK; rw [h.1]
theorem same_sbt {r r' : QS} (h : SameS r r') : ∀ f s k, sbt r' f s k = sbt r f s k := by
  intro f
  induction f with
  | zero => intro s k; rfl
  | succ f ih => intro s k; rw [sbt, sbt, same_sL h, same_sB h, same_sP h, h.2.2.2.2, ih]
theorem same_sv {r r' : QS} (h : SameS r r') (s : Nat) : sv r' s = sv r s := by
  have e : sbt r' (s + 1) s = sbt r (s + 1) s := by funext k; exact same_sbt h _ _ _
  unfold sv
  rw [same_sK h, same_sL h, e, h.2.2.2.2]
theorem same_SOk {r r' : QS} (h : SameS r r') {n : Nat} (g : SOk r n) : SOk r' n := by
  unfold SOk at g ⊢
  rw [same_sL h, same_sB h, same_sP h, same_sK h, h.1, h.2.1, h.2.2.1, h.2.2.2.1, h.2.2.2.2]
  exact g
theorem On.steps {i : Nat} {r r' : QS} (h : On i r r') : SameS r r' := ⟨h.1 1 (by decide) (by decide), h.1 3 (by decide) (by decide), h.1 4 (by decide) (by decide), h.1 5 (by decide) (by decide), h.2.2.1 2 (by decide) (by decide)⟩
theorem sbt_lt (r : QS) : ∀ f s k, sbt r f s k < 256 := by
  intro f
  induction f with
  | zero => intro s k; exact (by decide : 0 < 256)
  | succ f ih =>
    intro s k
    rw [sbt]
    by_cases h : sL r s - sB r s ≤ k
    · rw [if_pos h]; exact b8_lt _ _
    · rw [if_neg h]; exact ih _ _
/-- more fuel changes nothing -/
theorem sbt_fuel {r : QS} {n : Nat} (h : SOk r n) : ∀ f f' s k, s ≤ n → s < f → s < f' → k < sL r s → sbt r f s k = sbt r f' s k := by
  intro f
  induction f with
  | zero => intro f' s k _ hf; omega
  | succ f ih =>
    intro f' s k hs hf hf' hk
    obtain ⟨g, rfl⟩ : ∃ g, f' = g + 1 := ⟨f' - 1, by omega⟩
    rw [sbt, sbt]
    by_cases c : sL r s - sB r s ≤ k
    · rw [if_pos c, if_pos c]
    · rw [if_neg c, if_neg c]
      have h0 : 0 < s := by
        rcases Nat.eq_zero_or_pos s with z | z
        · subst z; rw [h.2.2.1] at hk; omega
        · exact z
      obtain ⟨a1, a2, a3, a4, a5⟩ := h.2.2.2.2.2.2 s h0 hs
      exact ih g (sP r s) k (by omega) (by omega) (by omega) (by omega)
/-- byte k of a step's text, its fuel in it -/
def sby (r : QS) (s k : Nat) : Nat := sbt r (s + 1) s k
theorem sby_lt (r : QS) (s k : Nat) : sby r s k < 256 := sbt_lt _ _ _ _
theorem sby_here {r : QS} {s k : Nat} (h : sL r s - sB r s ≤ k) : sby r s k = b8 (qL r 2 s) (sL r s - 1 - k) := if_pos h
theorem sby_up {r : QS} {n s k : Nat} (h : SOk r n) (hs : s ≤ n) (hk : k < sL r s - sB r s) : sP r s < s ∧ k < sL r (sP r s) ∧ sby r s k = sby r (sP r s) k := by
  have h0 : 0 < s := by
    rcases Nat.eq_zero_or_pos s with z | z
    · subst z; rw [h.2.2.1] at hk; omega
    · exact z
  obtain ⟨a1, a2, a3, a4, a5⟩ := h.2.2.2.2.2.2 s h0 hs
  refine ⟨a1, by omega, ?_⟩
  unfold sby
  rw [sbt, if_neg (by omega)]
  exact sbt_fuel h s (sP r s + 1) (sP r s) k (by omega) a1 (by omega) (by omega)
theorem m1_sub (m : Nat) : nI m + (-1) = nI m - 1 := (Int32.sub_eq_add_neg _ _).symm
theorem walk_loop {r : QS} {n i k : Nat} {K : QS → Int32 → Int32 → Int32 → Option QS} (h : SOk r n) (hk : k < 32) (fu : Nat) : ∀ s, s ≤ n → k < sL r s → s < fu → ∃ s', s' ≤ n ∧ sL r s' - sB r s' ≤ k ∧ k < sL r s' ∧ (∀ t, t ≤ k → sby r s' t = sby r s t) ∧ f_X10_setStep_94 K fu r (nI i) (nI s) (nI k) = K r (nI i) (nI s') (nI k) := by
  have hn := h.1
  induction fu with
  | zero => intro s _ _ hf; omega
  | succ fu ih =>
    intro s hs hks hf
    obtain ⟨e5, e3, e4, e1, l5, l3, l1, l4⟩ := h.2.1 s hs
    rw [f_X10_setStep_94, f_X10_setStep_94_b, rd_nI (by omega) (by decide), Option.bind_some, rd_nI (by omega) (by decide), Option.bind_some, e5, e3]
    have hB : sB r s ≤ sL r s := by
      rcases Nat.eq_zero_or_pos s with z | z
      · subst z; rw [h.2.2.1] at hks; omega
      · have := (h.2.2.2.2.2.2 s z hs).2.2.1; omega
    rw [pk_sub hB]
    by_cases c : sL r s - sB r s ≤ k
    · rw [if_pos (nI_le c (by omega))]
      exact ⟨s, hs, c, hks, fun _ _ => rfl, rfl⟩
    · rw [if_neg (nI_ge (by omega) (by omega)), rd_nI (by omega) (by decide), Option.bind_some, e4]
      obtain ⟨a1, a2, -⟩ := sby_up h hs (k := k) (by omega)
      obtain ⟨s', b1, b2, b3, b4, b5⟩ := ih (sP r s) (by omega) a2 (by omega)
      refine ⟨s', b1, b2, b3, fun t ht => ?_, b5⟩
      rw [b4 t ht]
      exact (sby_up h hs (k := t) (by omega)).2.2.symm
theorem bytes_loop {i n s0 len : Nat} (hi : i < 200) (hlen : len ≤ 31) (fu : Nat) : ∀ (r : QS) (s m : Nat) (W : Nat → Int64), SOk r n → s ≤ n → m ≤ sL r s → m ≤ len → m < fu → (∀ j, j < 4 → qL r 20 (4 * i + j) = W j) → (∀ t, t < m → sby r s t = sby r s0 t) → (∀ k, k < 32 → gb W k = if m ≤ k ∧ k < len then sby r s0 k else 0) → ∃ r' W', f_X10_setStep_89 fu r (nI i) (nI s) (nI m - 1) = some r' ∧ On i r r' ∧ qI r' = qI r ∧ qL r' 18 = qL r 18 ∧ (∀ j, j < 4 → qL r' 20 (4 * i + j) = W' j) ∧ ∀ k, k < 32 → gb W' k = if k < len then sby r s0 k else 0 := by
  induction fu with
  | zero => intro r s m W _ _ _ _ hf; omega
  | succ fu ih =>
    intro r s m W h hs hm hml hf hW hsame hg
    rw [f_X10_setStep_89, f_X10_setStep_89_b]
    rcases m with _ | k
    · rw [if_pos (by decide)]
      refine ⟨r, W, rfl, On.rfl, rfl, rfl, hW, fun k hk => ?_⟩
      rw [hg k hk]
      by_cases c : k < len
      · rw [if_pos ⟨Nat.zero_le _, c⟩, if_pos c]
      · rw [if_neg (fun z => c z.2), if_neg c]
    · have hn := h.1
      rw [nI_pred, if_neg (nI_pos (by omega))]
      obtain ⟨s', b1, b2, b3, b4, b5⟩ := walk_loop (i := i) (K := f_X10_setStep_122 (f_X10_setStep_89 fu)) h (k := k) (by omega) FU s hs (by omega) (by show s < 100000; omega)
      rw [b5]
      unfold f_X10_setStep_122
      obtain ⟨e5, e3, e4, e1, l5, l3, l1, l4⟩ := h.2.1 s' b1
      obtain ⟨d, hd⟩ : ∃ d, sL r s' = d + 1 := ⟨sL r s' - 1, by omega⟩
      rw [rd_nI (by omega) (by decide), Option.bind_some, rd_nI (by omega) (by decide), Option.bind_some, e5, hd, nI_pred, pk_sub (by omega : k ≤ d), lit8_nI, byte_sshr _ (by omega), lit4_nI]
      have hby : b8 (qL r 2 s') (d - k) = sby r s0 k := by
        rw [← hsame k (by omega), ← b4 k (Nat.le_refl _), sby_here b2, hd]
        rfl
      rw [hby]
      obtain ⟨r1, a1, a2, a3, a4, a5⟩ := r_put_b (r := r) (i := i) (k := k) (b := sby r s0 k) (W := W) hi (by omega) (sbt_lt _ _ _ _) hW
      rw [a1, Option.bind_some, m1_sub]
      have hss := a2.steps
      have hsb : ∀ s t, sby r1 s t = sby r s t := fun s t => same_sbt hss _ _ _
      obtain ⟨r', W', c1, c2, c3, c4, c5, c6⟩ := ih r1 s' k (pb W k (sby r s0 k)) (same_SOk hss h) b1 (by rw [same_sL hss]; omega) (by omega) (by omega) a5 (fun t ht => by rw [hsb, hsb, b4 t (by omega), hsame t (by omega)]) (fun t ht => by
        rw [gb_pb (sby_lt _ _ _), hsb]
        by_cases e : t = k
        · subst e; rw [if_pos rfl, if_pos (by omega)]
        · rw [if_neg e, hg t ht]
          by_cases c : k + 1 ≤ t ∧ t < len
          · rw [if_pos c, if_pos (by omega)]
          · rw [if_neg c, if_neg (by omega)])
      refine ⟨r', W', c1, a2.trans c2, c3.trans a3, c4.trans a4, c5, fun t ht => ?_⟩
      rw [c6 t ht, hsb]
theorem z2_loop {i : Nat} {K : QS → Int32 → Int32 → Option QS} {x2 : Int32} (hi : i < 200) (fu : Nat) : ∀ (r : QS) (t : Nat), t ≤ 4 → 4 - t < fu → (∀ s, s < t → qL r 20 (4 * i + s) = 0) → ∃ r', f_X10_setStep_55 K fu r (nI i) x2 (nI t) = K r' (nI i) x2 ∧ On i r r' ∧ qI r' = qI r ∧ qL r' 18 = qL r 18 ∧ ∀ s, s < 4 → qL r' 20 (4 * i + s) = 0 := by
  induction fu with
  | zero => intro q t _ h; omega
  | succ fu ih =>
    intro r t ht hf hT
    rw [f_X10_setStep_55, f_X10_setStep_55_b]
    by_cases he : t = 4
    · subst he
      rw [if_pos (show (4 : Int32) ≤ nI 4 from nI_le (a := 4) (Nat.le_refl _) (by decide))]
      exact ⟨r, rfl, On.rfl, rfl, rfl, hT⟩
    · rw [if_neg (show ¬ (4 : Int32) ≤ nI t from nI_ge (b := 4) (by omega) (by decide)), lit4_nI, nI_add, wL_nI (by omega) (by decide), Option.bind_some, nI_1]
      obtain ⟨r', h1, h2, h3, h4, h5⟩ := ih (uL r 20 (4 * i + t) 0) (t + 1) (by omega) (by omega) (fun s hs => by
          rw [qL_uL, if_pos rfl, updL_at]
          by_cases e3 : s = t
          · rw [if_pos (by omega)]
          · rw [if_neg (by omega)]; exact hT s (by omega))
      exact ⟨r', h1, (On.w (by omega)).trans h2, h3, h4, h5⟩
theorem r_step {r : QS} {n i s : Nat} (h : SOk r n) (hi : i < 200) (hs : s ≤ n) : ∃ r', f_X10_setStep r (nI i) (nI s) = some r' ∧ On i r r' ∧ VR r' i (sv r s) := by
  have hn := h.1
  obtain ⟨e5, e3, e4, e1, l5, l3, l1, l4⟩ := h.2.1 s hs
  have z0 : s = 0 ↔ sK r s = 0 := by
    constructor
    · intro e; rw [e]; exact h.2.2.2.2.1
    · intro e
      rcases Nat.eq_zero_or_pos s with z | z
      · exact z
      · have := (h.2.2.2.2.2.2 s z hs).2.1; omega
  -- behind the first two writes
  have key : ∀ (b : Int32) (m : Int64), (b = if sK r s = 0 then 1 else 0) → (m = vn (sv r s)) → ∃ r', f_X10_setStep_40 (uI r 17 i b) (nI i) (nI s) (nI i) m = some r' ∧ On i r r' ∧ VR r' i (sv r s) := fun b m hb hm => by
    unfold f_X10_setStep_40
    rw [wL_nI hi (by decide), Option.bind_some]
    have ea : qI (uL (uI r 17 i b) 18 i m) 5 = qI r 5 := rfl
    rw [ea, rd_nI (by omega) (by decide), Option.bind_some, e5, wI_nI hi (by decide), Option.bind_some]
    obtain ⟨r1, a1, a2, a3, a4, a5⟩ := z2_loop (K := f_X10_setStep_77) (x2 := nI s) hi FU (uI (uL (uI r 17 i b) 18 i m) 19 i (nI (sL r s))) 0 (Nat.zero_le _) (by show 4 - 0 < 100000; omega) (fun s hs => by omega)
    have on1 : On i r r1 := ((On.n.trans On.v).trans On.l).trans a2
    have ss := on1.steps
    have h1 := same_SOk ss h
    have eq1 : f_X10_setStep_55 f_X10_setStep_77 FU (uI (uL (uI r 17 i b) 18 i m) 19 i (nI (sL r s))) (nI i) (nI s) 0 = f_X10_setStep_77 r1 (nI i) (nI s) := a1
    rw [eq1]
    unfold f_X10_setStep_77
    rw [rd_nI (by omega) (by decide), Option.bind_some, ss.2.2.2.1, e5]
    obtain ⟨r', W', c1, c2, c3, c4, c5, c6⟩ := bytes_loop (i := i) (n := n) (s0 := s) (len := sL r s) hi l5 FU r1 s (sL r s) (fun _ => 0) h1 hs (by rw [same_sL ss]; omega) (Nat.le_refl _) (by show sL r s < 100000; omega) a5 (fun _ _ => rfl) (fun k hk => by rw [gb_zero, if_neg (by omega)])
    refine ⟨r', c1, on1.trans c2, ?_⟩
    have hkv := (sv_ok h hs).2
    have hlen : vl (sv r s) = sL r s := by
      unfold sv
      by_cases k0 : sK r s = 0
      · rw [if_pos k0]
        have : s = 0 := z0.mpr k0
        rw [this, h.2.2.1]; rfl
      · rw [if_neg k0]
        by_cases k2 : sK r s = 2
        · rw [if_pos k2]; rfl
        · rw [if_neg k2]
          have hz : sL r s = 0 := (h.2.2.2.2.2.2 s (by omega) hs).2.2.2.1 k2
          by_cases k1 : sK r s = 1
          · rw [if_pos k1, hz]; rfl
          · rw [if_neg k1, hz]; rfl
    have hwords : vw (sv r s) = wob (sby r s) (sL r s) := by
      unfold sv
      by_cases k0 : sK r s = 0
      · rw [if_pos k0]
        have : s = 0 := z0.mpr k0
        rw [this, h.2.2.1]
        exact wob_eq tOk_zero (fun k hk => by omega)
      · rw [if_neg k0]
        by_cases k2 : sK r s = 2
        · rw [if_pos k2]; rfl
        · rw [if_neg k2]
          have hz : sL r s = 0 := (h.2.2.2.2.2.2 s (by omega) hs).2.2.2.1 k2
          by_cases k1 : sK r s = 1
          · rw [if_pos k1, hz]; exact wob_eq tOk_zero (fun k hk => by omega)
          · rw [if_neg k1, hz]; exact wob_eq tOk_zero (fun k hk => by omega)
    refine ⟨?_, ?_, ?_, fun j hj => ?_⟩
    · rw [c3, a3, qI_uI, if_neg (by decide), qI_uL, qI_uI, if_pos rfl, upd_at, if_pos rfl, hkv]; exact hb
    · rw [c4, a4, qL_uI, qL_uL, if_pos rfl, updL_at, if_pos rfl]; exact hm
    · rw [c3, a3, qI_uI, if_pos rfl, upd_at, if_pos rfl, hlen]
    · have hsb : ∀ k, sby r1 s k = sby r s k := fun k => same_sbt ss _ _ _
      have e : (fun j => if j < 4 then W' j else 0) = wob (sby r s) (sL r s) := by
        refine gb_ext (fun k hk => ?_) (fun j hj => ?_)
        · have : gb (fun j => if j < 4 then W' j else 0) k = gb W' k := by
            unfold gb
            dsimp only
            rw [if_pos (by omega)]
          rw [this, c6 k hk, gb_wob hk, hsb, Nat.mod_eq_of_lt (sby_lt _ _ _)]
        · rw [if_neg (by omega)]
          exact (mkw_high 32 (Nat.le_refl _) j hj).symm
      rw [hwords, ← e, c5 j hj]
      dsimp only
      rw [if_pos hj]
  unfold f_X10_setStep f_X10_setStep_0 f_X10_setStep_14
  have hb0 : nI s = 0 ↔ sK r s = 0 := by
    rw [← z0]
    exact ⟨fun e => nI_inj (by omega) (by decide) (show nI s = nI 0 from e), fun e => by rw [e]; rfl⟩
  have step : ∀ b : Int32, (b = if sK r s = 0 then 1 else 0) → ∃ r', ((wI r 17 200 (nI i) (vp_nar .boolean b)).bind fun q2 => (rd (qI q2 1) 520 (nI s)).bind fun y4 => if y4 = 2 then f_X10_setStep_40 q2 (nI i) (nI s) (nI i) 0 else (rd (qL q2 2) 520 (nI s)).bind fun y7 => f_X10_setStep_40 q2 (nI i) (nI s) (nI i) y7) = some r' ∧ On i r r' ∧ VR r' i (sv r s) := fun b hb => by
    have hnb : vp_nar .boolean b = b := by
      rw [hb]
      by_cases k0 : sK r s = 0
      · rw [if_pos k0]; rfl
      · rw [if_neg k0]; rfl
    have ea : qI (uI r 17 i b) 1 = qI r 1 := rfl
    have eb : qL (uI r 17 i b) 2 = qL r 2 := rfl
    rw [wI_nI hi (by decide), Option.bind_some, hnb, ea, rd_nI (by omega) (by decide), Option.bind_some, e1]
    by_cases k2 : sK r s = 2
    · rw [k2, if_pos (show nI 2 = 2 from rfl)]
      exact key b 0 hb (by unfold sv; rw [if_neg (by omega), if_pos k2]; rfl)
    · rw [if_neg (show ¬ nI (sK r s) = (2 : Int32) from fun e => k2 (nI_inj (by omega) (by decide) (show nI (sK r s) = nI 2 from e))), eb, rd_nI (by omega) (by decide), Option.bind_some]
      refine key b (qL r 2 s) hb ?_
      unfold sv
      by_cases k0 : sK r s = 0
      · rw [if_pos k0, z0.mpr k0, h.2.2.2.2.2.1]; rfl
      · rw [if_neg k0, if_neg k2]
        by_cases k1 : sK r s = 1
        · rw [if_pos k1]; rfl
        · rw [if_neg k1]; rfl
  by_cases k0 : sK r s = 0
  · rw [if_pos (hb0.mpr k0)]
    exact step 1 (if_pos k0).symm
  · rw [if_neg (fun z => k0 (hb0.mp z))]
    exact step 0 (if_neg k0).symm
