/-! buckets of the class -/
theorem i64_rem (x y : Int64) : (x - x / y * y).toInt = x.toInt.tmod y.toInt := by
  have h : x - x / y * y = x % y := by
    apply Int64.toInt_inj.mp
    rw [Int64.toInt_sub, Int64.toInt_mul, Int64.toInt_div, Int.bmod_mul_bmod, Int.sub_bmod_bmod, Int.mul_comm (x.toInt.tdiv y.toInt), ← Int.tmod_def, ← Int64.toInt_mod]
    exact Int64.toInt_bmod _
  rw [h, Int64.toInt_mod]
theorem xor_neg (x : Int64) {m : Nat} (hm : m < 2 ^ 31) : (x ^^^ lN m).toInt < 0 ↔ x.toInt < 0 := by
  have h1 : (x ^^^ lN m).toBitVec.msb = x.toBitVec.msb := by
    rw [Int64.toBitVec_xor, BitVec.msb_xor]
    have : (lN m).toBitVec.msb = false := by
      rw [BitVec.msb_eq_toInt]
      have : (lN m).toBitVec.toInt = (m : Int) := pk_lT (by omega)
      rw [this]
      exact decide_eq_false (by omega)
    rw [this, Bool.xor_false]
  rw [BitVec.msb_eq_toInt, BitVec.msb_eq_toInt] at h1
  have h2 : decide ((x ^^^ lN m).toInt < 0) = decide (x.toInt < 0) := h1
  constructor
  · intro h
    rw [decide_eq_true h] at h2
    exact of_decide_eq_true h2.symm
  · intro h
    rw [decide_eq_true h] at h2
    exact of_decide_eq_true h2
theorem lN_of {y : Int64} {m : Nat} (h0 : 0 ≤ y.toInt) (h1 : y.toInt < m) (hm : m < 2 ^ 31) : ∃ b, b < m ∧ y = lN b := by
  refine ⟨y.toInt.toNat, by omega, ?_⟩
  apply Int64.toInt_inj.mp
  rw [pk_lT (by omega)]
  omega
theorem cmp_ge (x : Int64) : 0 ≤ lg_cmp x 0 ↔ ¬ x.toInt < 0 := by
  rcases Int.lt_trichotomy x.toInt 0 with h | h | h
  · have h2 : x.toInt < 0 := h
    have e : lg_cmp x 0 = -1 := by
      unfold lg_cmp
      rw [if_neg (fun z => by have := Int64.lt_iff_toInt_lt.mp z; have e0 : (0 : Int64).toInt = 0 := rfl; omega), if_neg (fun z => by rw [z] at h2; exact absurd h2 (by decide))]
    rw [e]
    exact ⟨fun z => absurd z (by decide), fun z => absurd h2 z⟩
  · have h : x = 0 := Int64.toInt_inj.mp h
    subst h
    exact ⟨fun _ => by decide, fun _ => by decide⟩
  · have h2 : 0 < x.toInt := h
    have h : 0 < x := Int64.lt_iff_toInt_lt.mpr h
    have e : lg_cmp x 0 = 1 := by
      unfold lg_cmp
      rw [if_pos h]
    rw [e]
    exact ⟨fun _ z => by omega, fun _ => by decide⟩
theorem fm_ok (x : Int64) {m : Nat} (h0 : 0 < m) (hm : m ≤ 2000) : ∃ b, b < m ∧ f_J9_floorMod_f86c9 x (lN m) = some (lN b) := by
  have hmi : (lN m).toInt = (m : Int) := pk_lT (by omega)
  have hr := i64_rem x (lN m)
  rw [hmi] at hr
  have hlt : x.toInt.tmod m < m := Int.tmod_lt_of_pos _ (by omega)
  have hgt : -(m : Int) < x.toInt.tmod m := Int.lt_tmod_of_pos x.toInt (show (0 : Int) < m by omega)
  unfold f_J9_floorMod_f86c9 f_J9_floorMod_f86c9_0
  rw [if_neg (fun z => by have := (lN0 (m := m) (by omega)).mp z; omega)]
  by_cases hx : x.toInt < 0
  · rw [if_neg (fun z => (cmp_ge _).mp z ((xor_neg x (by omega)).mpr hx))]
    by_cases hz : x - x / lN m * lN m = 0
    · rw [if_pos ((lg_eq0 _ _).mpr hz), hz]
      exact ⟨0, h0, rfl⟩
    · rw [if_neg (fun z => hz ((lg_eq0 _ _).mp z))]
      have hne : x.toInt.tmod m ≠ 0 := fun z => hz (by
        apply Int64.toInt_inj.mp
        rw [hr, z]; rfl)
      have hle : x.toInt.tmod m ≤ 0 := by
        have h2 := Int.tmod_nonneg (a := -x.toInt) (m : Int) (by omega)
        rw [Int.neg_tmod] at h2; omega
      have hs : (x - x / lN m * lN m + lN m).toInt = x.toInt.tmod m + m := by
        rw [Int64.toInt_add, hr, hmi]
        exact Int.bmod_eq_of_le_mul_two (by omega) (by omega)
      obtain ⟨b, b1, b2⟩ := lN_of (y := x - x / lN m * lN m + lN m) (m := m) (by rw [hs]; omega) (by rw [hs]; omega) (by omega)
      exact ⟨b, b1, by rw [b2]⟩
  · rw [if_pos ((cmp_ge _).mpr (fun z => hx ((xor_neg x (by omega)).mp z)))]
    have hge : 0 ≤ x.toInt.tmod m := Int.tmod_nonneg _ (by omega)
    obtain ⟨b, b1, b2⟩ := lN_of (y := x - x / lN m * lN m) (m := m) (by rw [hr]; exact hge) (by rw [hr]; exact hlt) (by omega)
    exact ⟨b, b1, by rw [b2]⟩
def bkN (cap : Nat) (h : Int64) : Nat := match f_J9_floorMod_f86c9 h (lN cap) with
  | some y => un y
  | none => 0
theorem bk_ok {q : QS} {cap : Nat} (h : Int64) (h0 : 0 < cap) (hm : cap ≤ 2000) (h12 : qF q 12 = nI cap) : bkN cap h < cap ∧ f_X5_bucketOf q h = some (nI (bkN cap h)) := by
  obtain ⟨b, b1, b2⟩ := fm_ok h h0 hm
  have e : bkN cap h = b := by
    unfold bkN
    rw [b2]
    exact un_lN (by omega)
  unfold f_X5_bucketOf f_X5_bucketOf_0
  rw [h12, nI_l64 (by omega), b2, Option.bind_some, e, lN_i]
  exact ⟨b1, rfl⟩
/-! groups of the class -/
theorem c_rowIn' {ρ : Nat → Nat} (h : ∀ t, t < 3 → ρ t < 40) : ∀ t, t < 3 → f_X5_rowIn (nI ((ρ 0 * 40 + ρ 1) * 40 + ρ 2)) (nI t) = some (nI (ρ t)) := by
  intro t ht
  obtain ⟨e0, e1, e2⟩ := c_rowIn (h 0 (by decide)) (h 1 (by decide)) (h 2 (by decide))
  rcases (show t = 0 ∨ t = 1 ∨ t = 2 by omega) with e | e | e <;> subst e
  · exact e0
  · exact e1
  · exact e2
/-- where a group's value stands -/
def gpl (r : QS) (cr : Nat → Nat → Nat) (c g : Nat) : Nat := (nA r (gn r g) * 40 + cr c (nA r (gn r g))) * 8 + nB r (gn r g)
theorem c_place {S T N I G O C cap c g : Nat} {q r : QS} {cr : Nat → Nat → Nat} {P1 P2 : Nat → Prop} (hR : Rc q r S T N I C cap cr P1 P2) (hQ : SimQ q r N I G O) (hc : c < C) (hg : g < G) : f_X6_groupPlace q (nI c) (nI g) = some (nI (gpl r cr c g)) ∧ gpl r cr c g < 960 ∧ VC q 1 (gpl r cr c g) (Kv r cr c g) ∧ Ty (nT r (gn r g)) (Kv r cr c g) := by
  obtain ⟨hS, hT, hN, hPl, hCC, hrv, hCc, hc2, h12, hqC⟩ := hR
  obtain ⟨cc1, cc2⟩ := hCC c hc
  have hG4 := hQ.2.2.2.2.1
  obtain ⟨g1, g2, g3, g4, g5⟩ := hQ.2.2.2.2.2.2.2.1 g hg
  obtain ⟨e1, e2, e3, e4, e5, e6, e7, e8, -⟩ := (hN.2.2.2 _ g1).2.2.2.2.2.2.2.2.2.2.2.1 g3
  have hT3 := hT.1
  have htab := hT.2.2.2 _ e2
  have hrr := hrv c hc _ e2
  obtain ⟨s1, s2, s3, s4⟩ := htab.cell hS hrr e3
  have hw8 := htab.2.1
  have hr40 := htab.2.2.1
  refine ⟨?_, ?_, s3, ?_⟩
  · unfold f_X6_groupPlace f_X6_groupPlace_0 f_X7_placeOf f_X7_placeOf_0
    rw [rd_nI (by omega) (by decide), Option.bind_some, hqC, rd_nI (show c < cap by omega) (by omega), Option.bind_some, cc1, g4, e4, c_rowIn' cc2 _ (by omega), Option.bind_some, rd_nI (by omega) (by decide), Option.bind_some, g5, e5, nI_lit40, nI_add, nI_lit8, nI_add, Option.bind_some]
    rfl
  · unfold gpl gn
    omega
  · unfold gn
    rw [e8]; exact s4
theorem og_loop {S T N I G O C cap c c' : Nat} {q r : QS} {cr : Nat → Nat → Nat} {P1 P2 : Nat → Prop} (hR : Rc q r S T N I C cap cr P1 P2) (hQ : SimQ q r N I G O) (hc : c < C) (hc' : c' < C) (fu : Nat) : ∀ g, g ≤ G → G - g < fu → (∀ g', g' < g → Kv r cr c g' = Kv r cr c' g') → (Like r cr G c c' → f_X6_areOfOneGroup_2 q fu (nI c) (nI c') (nI g) = some 1) ∧ (¬ Like r cr G c c' → f_X6_areOfOneGroup_2 q fu (nI c) (nI c') (nI g) = some 0) := by
  have hG4 := hQ.2.2.2.2.1
  induction fu with
  | zero => intro g _ h; omega
  | succ fu ih =>
    intro g hg hf hd
    rw [f_X6_areOfOneGroup_2, f_X6_areOfOneGroup_2_b, hQ.2.2.2.2.2.1]
    by_cases he : g = G
    · subst he
      rw [if_pos (nI_le (Nat.le_refl _) (by omega))]
      exact ⟨fun _ => rfl, fun h => absurd hd h⟩
    · obtain ⟨a1, a2, a3, a4⟩ := c_place hR hQ hc (show g < G by omega)
      obtain ⟨b1, b2, b3, b4⟩ := c_place hR hQ hc' (show g < G by omega)
      rw [if_neg (nI_ge (by omega) (by omega)), a1, Option.bind_some, b1, Option.bind_some, nI_1]
      obtain ⟨l1, l2⟩ := f_areLike a3 b3 a4.1 b4.1 (show _ < 960 from a2) (show _ < 960 from b2) (by show 960 < 20000; decide)
      by_cases hq : Kv r cr c g = Kv r cr c' g
      · rw [l1 hq, Option.bind_some, if_neg i1]
        exact ih (g + 1) (by omega) (by omega) (fun g' hg' => by
          by_cases e : g' = g
          · rw [e]; exact hq
          · exact hd g' (by omega))
      · rw [l2 hq, Option.bind_some, if_pos rfl]
        exact ⟨fun h => absurd (h g (by omega)) hq, fun _ => rfl⟩
theorem c_one {S T N I G O C cap c c' : Nat} {q r : QS} {cr : Nat → Nat → Nat} {P1 P2 : Nat → Prop} (hR : Rc q r S T N I C cap cr P1 P2) (hQ : SimQ q r N I G O) (hc : c < C) (hc' : c' < C) : (Like r cr G c c' → f_X6_areOfOneGroup q (nI c) (nI c') = some 1) ∧ (¬ Like r cr G c c' → f_X6_areOfOneGroup q (nI c) (nI c') = some 0) := by
  have hG4 := hQ.2.2.2.2.1
  unfold f_X6_areOfOneGroup f_X6_areOfOneGroup_0
  exact og_loop hR hQ hc hc' FU 0 (Nat.zero_le _) (by show G - 0 < 100000; omega) (fun g' h => by omega)
/-- a group's hash -/
def hgr (r : QS) (cr : Nat → Nat → Nat) (c : Nat) : Nat → Int64
  | 0 => 0
  | g + 1 => hsh (hgr r cr c g) (Kv r cr c g)
theorem hgr_like {r : QS} {cr : Nat → Nat → Nat} {G c c' : Nat} (h : Like r cr G c c') : ∀ g, g ≤ G → hgr r cr c g = hgr r cr c' g := by
  intro g
  induction g with
  | zero => intro _; rfl
  | succ g ih => intro hg; rw [hgr, hgr, ih (by omega), h g (by omega)]
theorem hg_loop {S T N I G O C cap c : Nat} {q r : QS} {cr : Nat → Nat → Nat} {P1 P2 : Nat → Prop} (hR : Rc q r S T N I C cap cr P1 P2) (hQ : SimQ q r N I G O) (hc : c < C) (fu : Nat) : ∀ g, g ≤ G → G - g < fu → f_X6_hashOfGroup_5 q fu (nI c) (hgr r cr c g) (nI g) = some (hgr r cr c G) := by
  have hG4 := hQ.2.2.2.2.1
  induction fu with
  | zero => intro g _ h; omega
  | succ fu ih =>
    intro g hg hf
    rw [f_X6_hashOfGroup_5, f_X6_hashOfGroup_5_b, hQ.2.2.2.2.2.1]
    by_cases he : g = G
    · subst he
      rw [if_pos (nI_le (Nat.le_refl _) (by omega))]
    · obtain ⟨a1, a2, a3, a4⟩ := c_place hR hQ hc (show g < G by omega)
      rw [if_neg (nI_ge (by omega) (by omega)), a1, Option.bind_some, f_hash a3 a4.1 _ (show _ < 960 from a2) (by show 960 < 20000; decide), Option.bind_some, nI_1]
      exact ih (g + 1) (by omega) (by omega)
theorem c_hashG {S T N I G O C cap c : Nat} {q r : QS} {cr : Nat → Nat → Nat} {P1 P2 : Nat → Prop} (hR : Rc q r S T N I C cap cr P1 P2) (hQ : SimQ q r N I G O) (hc : c < C) : f_X6_hashOfGroup q (nI c) = some (hgr r cr c G) := by
  have hG4 := hQ.2.2.2.2.1
  unfold f_X6_hashOfGroup f_X6_hashOfGroup_0
  exact hg_loop hR hQ hc FU 0 (Nat.zero_le _) (by show G - 0 < 100000; omega)
/-- the rows of P stand in their buckets -/
def BI (q : QS) (cap R : Nat) (bk : Nat → Nat) (P : Nat → Prop) : Prop := ∀ b, b < cap → ∃ l, Chain (qI q 57) (qI q 56 b) l ∧ l.length ≤ R ∧ ∀ ρ, ρ ∈ l ↔ (ρ < R ∧ P ρ ∧ bk ρ = b)
theorem c_empty {q : QS} {cap : Nat} (hqC : qC q = cap) (hc : cap ≤ 2000) : ∃ q', f_X5_emptyBuckets q = some q' ∧ (∀ k, k ≠ 56 → qI q' k = qI q k) ∧ qL q' = qL q ∧ qF q' = qF q ∧ qC q' = qC q ∧ ∀ bk P, BI q' cap 0 bk P := by
  obtain ⟨q', h1, h2, h3, h4, h5, h6⟩ := fill_val (k := 56) (nf := fun z => qC z) (fun q j x => rfl) q (-1) (by show qC q < 100000; omega)
  unfold f_X5_emptyBuckets f_X5_emptyBuckets_0
  rw [h1, Option.bind_some]
  refine ⟨q', rfl, h2, h4, h5, h6, fun bk P b hb => ⟨[], ?_, Nat.le_refl _, fun ρ => ⟨(fun h => by cases h), (fun h => by omega)⟩⟩⟩
  show qI q' 56 b = -1
  rw [h3 b, if_pos (show b < qC q by omega)]
theorem c_putB {q : QS} {cap R b : Nat} {bk : Nat → Nat} {P : Nat → Prop} (hqC : qC q = cap) (hc : cap ≤ 2000) (hR : R < cap) (hb : b < cap) (h : BI q cap R bk P) : ∃ q', f_X5_putInBucket q (nI R) (nI b) = some q' ∧ (∀ k, k ≠ 56 → k ≠ 57 → qI q' k = qI q k) ∧ qL q' = qL q ∧ qF q' = qF q ∧ qC q' = qC q ∧ ∀ bk' P', (∀ ρ, ρ < R → bk' ρ = bk ρ) → bk' R = b → (∀ ρ, ρ < R → (P' ρ ↔ P ρ)) → P' R → BI q' cap (R + 1) bk' P' := by
  unfold f_X5_putInBucket f_X5_putInBucket_0
  rw [hqC, rd_nI hb (by omega), Option.bind_some, wI_nI hR (by omega), Option.bind_some, show qC (uI q 57 R (qI q 56 b)) = cap from hqC, wI_nI hb (by omega), Option.bind_some]
  refine ⟨_, rfl, fun k h1 h2 => by rw [qI_uI, if_neg h1, qI_uI, if_neg h2], rfl, rfl, hqC, fun bk' P' e1 e2 e3 e4 b' hb' => ?_⟩
  obtain ⟨l, l1, l2, l3⟩ := h b' hb'
  have e57 : qI (uI (uI q 57 R (qI q 56 b)) 56 b (nI R)) 57 = upd (qI q 57) R (qI q 56 b) := rfl
  have e56 : qI (uI (uI q 57 R (qI q 56 b)) 56 b (nI R)) 56 = upd (qI q 56) b (nI R) := rfl
  have hcg : Chain (upd (qI q 57) R (qI q 56 b)) (qI q 56 b') l := l1.cg (fun x hx => by rw [upd_at, if_neg (by have := ((l3 x).mp hx).1; omega)])
  rw [e57, e56]
  by_cases e : b' = b
  · subst e
    refine ⟨R :: l, ⟨?_, ?_⟩, by simp only [List.length_cons]; omega, fun ρ => ?_⟩
    · rw [upd_at, if_pos rfl]
    · rw [upd_at, if_pos rfl]; exact hcg
    · rw [List.mem_cons, l3 ρ]
      constructor
      · intro z
        rcases z with z | ⟨z1, z2, z3⟩
        · rw [z]; exact ⟨by omega, e4, e2⟩
        · exact ⟨by omega, (e3 ρ z1).mpr z2, by rw [e1 ρ z1]; exact z3⟩
      · intro ⟨z1, z2, z3⟩
        by_cases e5 : ρ = R
        · exact Or.inl e5
        · have : ρ < R := by omega
          exact Or.inr ⟨this, (e3 ρ this).mp z2, by rw [← e1 ρ this]; exact z3⟩
  · refine ⟨l, by rw [upd_at, if_neg e]; exact hcg, by omega, fun ρ => ?_⟩
    rw [l3 ρ]
    constructor
    · intro ⟨z1, z2, z3⟩
      exact ⟨by omega, (e3 ρ z1).mpr z2, by rw [e1 ρ z1]; exact z3⟩
    · intro ⟨z1, z2, z3⟩
      by_cases e5 : ρ = R
      · rw [e5, e2] at z3; exact absurd z3.symm e
      · have : ρ < R := by omega
        exact ⟨this, (e3 ρ this).mp z2, by rw [← e1 ρ this]; exact z3⟩
