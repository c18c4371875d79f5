/-! the reference evaluates a node -/
def EvN (r r' : QS) : Prop := (∀ k, k ≠ 17 → k ≠ 19 → k ≠ 23 → qI r' k = qI r k) ∧ (∀ k, k ≠ 18 → k ≠ 20 → k ≠ 21 → k ≠ 22 → k ≠ 24 → qL r' k = qL r k) ∧ qF r' = qF r ∧ qC r' = qC r
theorem EvN.rfl {r : QS} : EvN r r := ⟨fun _ _ _ _ => Eq.refl _, fun _ _ _ _ _ _ => Eq.refl _, Eq.refl _, Eq.refl _⟩
theorem EvN.trans {r r1 r2 : QS} (h : EvN r r1) (g : EvN r1 r2) : EvN r r2 := ⟨fun k a b c => (g.1 k a b c).trans (h.1 k a b c), fun k a b c d e => (g.2.1 k a b c d e).trans (h.2.1 k a b c d e), g.2.2.1.trans h.2.2.1, g.2.2.2.trans h.2.2.2⟩
theorem On.evn {i : Nat} {r r' : QS} (h : On i r r') : EvN r r' := ⟨fun k a b _ => h.1 k a b, fun k a b _ _ _ => h.2.2.1 k a b, h.2.2.2.2.2.1, h.2.2.2.2.2.2⟩
theorem OnG.evn {i : Nat} {r r' : QS} (h : OnG i r r') : EvN r r' := ⟨fun k _ _ a => h.1 k a, fun k _ _ a b c => h.2.2.1 k a b c, h.2.2.2.2.2.1, h.2.2.2.2.2.2⟩
/-- what working values out may change in the reference -/
def EvR (r r' : QS) : Prop := (∀ k, (k ≤ 16 ∨ 26 ≤ k) → qI r' k = qI r k ∧ qL r' k = qL r k) ∧ qF r' = qF r ∧ qC r' = qC r
theorem EvR.rfl {r : QS} : EvR r r := ⟨fun _ _ => ⟨Eq.refl _, Eq.refl _⟩, Eq.refl _, Eq.refl _⟩
theorem EvR.trans {r r1 r2 : QS} (h : EvR r r1) (g : EvR r1 r2) : EvR r r2 := ⟨fun k a => ⟨((g.1 k a).1).trans (h.1 k a).1, ((g.1 k a).2).trans (h.1 k a).2⟩, g.2.1.trans h.2.1, g.2.2.trans h.2.2⟩
theorem EvN.evr {r r' : QS} (h : EvN r r') : EvR r r' := ⟨fun k a => ⟨h.1 k (by omega) (by omega) (by omega), h.2.1 k (by omega) (by omega) (by omega) (by omega) (by omega)⟩, h.2.2.1, h.2.2.2⟩
theorem On25.evr {r r' : QS} (h : On25 r r') : EvR r r' := ⟨fun k a => ⟨h.1 k (by omega), by rw [h.2.1]⟩, h.2.2.1, h.2.2.2⟩
def evi (r : QS) (ρ : Nat → Nat) (i : Nat) : Vl := ev r ρ (fun _ => vNull) i
def agv (r : QS) (cr : Nat → Nat → Nat) (l : List Nat) (k : Nat) : Vl := l.foldl (fun acc c => agf (nK r k) acc (evi r (cr c) (nA r k))) (ag0 (nK r k))
def hdr (cr : Nat → Nat → Nat) (l : List Nat) : Nat → Nat := match l with
  | [] => fun _ => 0
  | c :: _ => cr c
/-- an item's value in a row of combinations -/
def val (r : QS) (cr : Nat → Nat → Nat) (l : List Nat) (i : Nat) : Vl := ev r (hdr cr l) (agv r cr l) i
/-- a chain of combinations -/
def Chain (nx : Nat → Int32) : Int32 → List Nat → Prop
  | c, [] => c = -1
  | c, x :: l => c = nI x ∧ Chain nx (nx x) l
/-- the parts that values hang on -/
def SameB (r r' : QS) : Prop := ∀ k, k ≤ 16 → qI r' k = qI r k ∧ qL r' k = qL r k
theorem EvR.same {r r' : QS} (h : EvR r r') : SameB r r' := fun k hk => h.1 k (Or.inl hk)
theorem SameB.s {r r' : QS} (h : SameB r r') : SameS r r' := ⟨(h 1 (by decide)).1, (h 3 (by decide)).1, (h 4 (by decide)).1, (h 5 (by decide)).1, (h 2 (by decide)).2⟩
theorem SameB.fs {r r' : QS} (h : SameB r r') : nK r' = nK r ∧ nA r' = nA r ∧ nB r' = nB r ∧ nT r' = nT r ∧ tC r' = tC r ∧ tR r' = tR r ∧ sv r' = sv r := by
  refine ⟨?_, ?_, ?_, ?_, ?_, ?_, ?_⟩
  · funext t; unfold nK; rw [(h 11 (by decide)).1]
  · funext t; unfold nA; rw [(h 12 (by decide)).1]
  · funext t; unfold nB; rw [(h 13 (by decide)).1]
  · funext t; unfold nT; rw [(h 14 (by decide)).1]
  · funext t a b; unfold tC; rw [(h 10 (by decide)).1]
  · funext t; unfold tR; rw [(h 9 (by decide)).1]
  · funext t; exact same_sv h.s t
theorem SameB.eEv {r r' : QS} (h : SameB r r') : ev r' = ev r := by
  obtain ⟨a1, a2, a3, a4, a5, a6, a7⟩ := h.fs
  have hn : nodv r' = nodv r := by
    funext ρ α i e
    unfold nodv
    rw [a1, a2, a3, a5, a7]
  have ht : ∀ ρ α n, evT r' ρ α n = evT r ρ α n := fun ρ α n => by
    induction n with
    | zero => rfl
    | succ n ih => unfold evT; rw [hn, ih]
  funext ρ α i
  show evT r' ρ α (i + 1) i = evT r ρ α (i + 1) i
  rw [ht]
theorem SameB.eVal {r r' : QS} (h : SameB r r') : val r' = val r := by
  obtain ⟨a1, a2, a3, a4, a5, a6, a7⟩ := h.fs
  have hi : evi r' = evi r := by funext ρ i; unfold evi; rw [h.eEv]
  have hg : agv r' = agv r := by funext cr l k; unfold agv; rw [a1, a2, hi]
  funext cr l i
  show ev r' (hdr cr l) (agv r' cr l) i = ev r (hdr cr l) (agv r cr l) i
  rw [hg, h.eEv]
/-- one node of the reference -/
theorem r_node {q0 r0 r : QS} {S T i : Nat} {ρ : Nat → Nat} {α e : Nat → Vl} {cb : Int32} (hS : SOk r0 S) (hT : SimT q0 r0 S T) (hn : NodOk q0 r0 S T i) (hi : i < 200) (hb : SameB r0 r) (hcb : ∀ t, t < 3 → f_X10_rowOf cb (nI t) = some (nI (ρ t))) (hr : rowAt r0 ρ i) (hna : ¬ (5 ≤ nK r0 i ∧ nK r0 i ≤ 9)) (ha : 10 ≤ nK r0 i → VR r (nA r0 i) (e (nA r0 i)) ∧ vOk (e (nA r0 i))) (hb2 : two (nK r0 i) → VR r (nB r0 i) (e (nB r0 i)) ∧ vOk (e (nB r0 i))) : ∃ r', f_X10_compute r (nI i) cb = some r' ∧ On i r r' ∧ VR r' i (nodv r0 ρ α i e) := by
  have hSr : SOk r S := same_SOk hb.s hS
  have hK : qI r 11 i = nI (nK r0 i) := by rw [(hb 11 (by decide)).1]; exact hn.2.1
  obtain ⟨-, -, -, -, -, -, a7⟩ := hb.fs
  unfold nodv
  by_cases c4 : nK r0 i < 4
  · rw [if_pos c4]
    obtain ⟨s1, s2, -⟩ := hn.cons hS c4
    obtain ⟨r', b1, b2, b3⟩ := r_c0 (cb := cb) hSr hi s1 hK (by rw [(hb 12 (by decide)).1]; exact s2) c4
    rw [a7] at b3
    exact ⟨r', b1, b2, b3⟩
  rw [if_neg c4]
  by_cases d4 : nK r0 i = 4
  · rw [if_pos d4]
    obtain ⟨e1, e2, e3, e4, e5, e6, e7, e8, -⟩ := hn.2.2.2.2.2.2.2.2.2.2.2.1 d4
    have htab := hT.2.2.2 _ e2
    have hrr := hr d4
    obtain ⟨s1, s2, -⟩ := htab.cell hS hrr e3
    have hT3 := hT.1
    have hw8 := htab.2.1
    have hr40 := htab.2.2.1
    obtain ⟨r', b1, b2, b3⟩ := r_c4 (cb := cb) (t := nA r0 i) (c := nB r0 i) (row := ρ (nA r0 i)) hSr hi s1 (by rw [hK, d4]) (by rw [(hb 12 (by decide)).1]; exact e4) (by rw [(hb 13 (by decide)).1]; exact e5) (by omega) (by omega) (by omega) (hcb _ (by omega)) (by rw [(hb 10 (by decide)).1]; exact s2)
    rw [a7] at b3
    exact ⟨r', b1, b2, b3⟩
  rw [if_neg d4]
  by_cases c9 : nK r0 i ≤ 9
  · exact absurd ⟨by omega, c9⟩ hna
  rw [if_neg c9]
  obtain ⟨f1, f2, f3, f4⟩ := hn.rlr (by omega)
  obtain ⟨x1, x2⟩ := ha (by omega)
  by_cases h2 : two (nK r0 i)
  · obtain ⟨y1, y2⟩ := hb2 h2
    obtain ⟨z1, z2⟩ := f3 h2
    exact r_c2 (cb := cb) hi f2 z2 hK (by rw [(hb 12 (by decide)).1]; exact f1) (by rw [(hb 13 (by decide)).1]; exact z1) x1 y1 (vl31 x2) (vl31 y2) h2
  · refine r_c1 (cb := cb) hi f2 hK (by rw [(hb 12 (by decide)).1]; exact f1) x1 ?_
    have := hn.1
    unfold two at h2
    omega
theorem VR.evg {i k : Nat} {r r' : QS} {x : Vl} (h : OnG i r r') (hx : VR r k x) : VR r' k x := by
  unfold VR at hx ⊢
  rw [h.1 17 (by decide), h.1 19 (by decide), h.2.2.1 18 (by decide) (by decide) (by decide), h.2.2.1 20 (by decide) (by decide) (by decide)]
  exact hx
theorem GR.evo {i k kd m : Nat} {r r' : QS} {x : Vl} (h : On i r r') (hx : GR r k kd x m) : GR r' k kd x m := by
  unfold GR BF at hx ⊢
  rw [h.2.2.1 21 (by decide) (by decide), h.2.2.1 22 (by decide) (by decide), h.2.2.1 24 (by decide) (by decide), h.1 23 (by decide) (by decide)]
  exact hx
theorem GR.evg {i k kd m : Nat} {r r' : QS} {x : Vl} (h : OnG i r r') (hne : k ≠ i) (hx : GR r k kd x m) : GR r' k kd x m := by
  obtain ⟨g1, g2, g3, g4⟩ := hx
  refine ⟨by rw [(h.2.2.2.1 k hne).1]; exact g1, g2, fun z => ?_, fun z => ⟨(g4 z).1, fun m0 => ?_⟩⟩
  · rw [(h.2.2.2.1 k hne).2]; exact g3 z
  · obtain ⟨u1, u2, u3, u4, u5⟩ := (g4 z).2 m0
    exact ⟨u1, u2, by rw [(h.2.2.2.1 k hne).2]; exact u3, by rw [h.2.1 k hne]; exact u4, fun j hj => by rw [h.2.2.2.2.1 _ (by omega)]; exact u5 j hj⟩
/-- is an aggregate -/
def isA (r : QS) (k : Nat) : Prop := 5 ≤ nK r k ∧ nK r k ≤ 9
theorem Mk.clo2 {S T N i : Nat} {q0 r : QS} {M : Nat → Nat} (hN : SimN q0 r S T N) (hi : i < N) (h : Mk r i M) : Clo r (fun k => k ≤ i ∧ M k = 2) N := fun k hk hP h10 => by
  have hpp : ∀ x, prt r k x → x ≤ i ∧ M x = 2 := fun x hx => by
    have hlt := (hN.2.2.2 k hk).plt hx
    refine ⟨by omega, ?_⟩
    rw [h.2.2.1 k x hP.1 (by rw [hP.2]; decide) hx]
    unfold inn
    rw [if_neg (by omega)]; exact hP.2
  exact ⟨hpp _ ⟨by omega, Or.inl rfl⟩, fun h2 => hpp _ ⟨by omega, Or.inr ⟨h2, rfl⟩⟩⟩
theorem Mk.na2 {S T N i k : Nat} {q0 r : QS} {M : Nat → Nat} (hN : SimN q0 r S T N) (hi : i < N) (h : Mk r i M) (hk : k ≤ i) (h2 : M k = 2) : ¬ isA r k := fun z => by
  have h0 := h.two0 hN hi (i + 1) k (by omega) hk h2
  rw [agg1 (hN.2.2.2 k (by omega)) z.1 z.2] at h0
  exact absurd h0 (by decide)
theorem ai_loop {S T N i c n : Nat} {q0 r0 r1 : QS} {M : Nat → Nat} {ρ : Nat → Nat} {acc : Nat → Vl} {K : QS → Int32 → Int32 → Int32 → Option QS} {x2 : Int32} (hS : SOk r0 S) (hT : SimT q0 r0 S T) (hN : SimN q0 r0 S T N) (hi : i < N) (hM : Mk r0 i M) (hb : SameB r0 r1) (h25 : ∀ k, k ≤ i → qI r1 25 k = nI (M k)) (hc : c < 2000) (hcb : ∀ t, t < 3 → f_X10_rowOf (qI r1 30 c) (nI t) = some (nI (ρ t))) (hrv : ∀ t, t < T → ρ t < tR r0 t) (hn : n < 2 ^ 29) (fu : Nat) :
    ∀ (r : QS) (kk : Nat), EvN r1 r → kk ≤ i + 1 → i + 1 - kk < fu → (∀ k, k < kk → M k = 2 → VR r k (evi r0 ρ k)) → (∀ k, k ≤ i → M k = 1 → isA r0 k → ∃ m, m ≤ n + 1 ∧ (kk ≤ k → m ≤ n) ∧ GR r k (nK r0 k) (if k < kk then agf (nK r0 k) (acc k) (evi r0 ρ (nA r0 k)) else acc k) m) → ∃ r', f_X10_evaluate_50 K fu r (nI i) x2 (nI c) (nI kk) = K r' (nI i) x2 (nI c) ∧ EvN r r' ∧ ∀ k, k ≤ i → M k = 1 → isA r0 k → ∃ m, m ≤ n + 1 ∧ GR r' k (nK r0 k) (agf (nK r0 k) (acc k) (evi r0 ρ (nA r0 k))) m := by
  have h200 := hN.1
  have hrow : ∀ k, k < N → rowAt r0 ρ k := fun k hk h4 => hrv _ ((hN.2.2.2 k hk).2.2.2.2.2.2.2.2.2.2.2.1 h4).2.1
  have hty : ∀ k, k ≤ i → M k = 2 → Ty (nT r0 k) (evi r0 ρ k) := fun k hk h2 => ev_ty hS hT hN (hM.clo2 hN hi) (fun k hk _ => hrow k hk) (fun k hk hp h5 h9 => absurd ⟨h5, h9⟩ (hM.na2 hN hi hp.1 hp.2)) 200 k (by omega) (by omega) ⟨hk, h2⟩
  induction fu with
  | zero => intro r kk _ _ h; omega
  | succ fu ih =>
    intro r kk ho hkk hf hV hG
    rw [f_X10_evaluate_50, f_X10_evaluate_50_b]
    by_cases he : kk = i + 1
    · subst he
      rw [if_pos (nI_lt (by omega) (by omega))]
      refine ⟨r, rfl, EvN.rfl, fun k h1 h2 h3 => ?_⟩
      obtain ⟨m, m1', m2', m3'⟩ := hG k h1 h2 h3
      rw [if_pos (by omega)] at m3'
      exact ⟨m, m1', m3'⟩
    · have hki : kk ≤ i := by omega
      have hnod := hN.2.2.2 kk (by omega)
      have hbr : SameB r0 r := fun k hk => by
        rw [ho.1 k (by omega) (by omega) (by omega), ho.2.1 k (by omega) (by omega) (by omega) (by omega) (by omega)]; exact hb k hk
      rw [if_neg (show ¬ nI i < nI kk from fun z => by rw [i32_lt, nI_toInt (by omega), nI_toInt (by omega)] at z; omega), rd_nI (by omega) (by decide), Option.bind_some, ho.1 25 (by decide) (by decide) (by decide), h25 kk hki]
      have hle := hM.1 kk hki
      by_cases k2 : M kk = 2
      · rw [if_pos (show nI (M kk) = (2 : Int32) by rw [k2]; rfl), rd_nI hc (by decide), Option.bind_some, ho.1 30 (by decide) (by decide) (by decide)]
        have hpp : ∀ x, prt r0 kk x → 10 ≤ nK r0 kk → VR r x (evi r0 ρ x) ∧ vOk (evi r0 ρ x) := fun x hx h10 => by
          have hlt := hnod.plt hx
          have : M x = 2 := by
            rw [hM.2.2.1 kk x hki (by rw [k2]; decide) hx]
            unfold inn
            rw [if_neg (by omega)]; exact k2
          exact ⟨hV x hlt this, (hty x (by omega) this).1⟩
        obtain ⟨r2, a1, a2, a3⟩ := r_node (α := fun _ => vNull) (e := evi r0 ρ) hS hT hnod (by omega) hbr hcb (hrow kk (by omega)) (hM.na2 hN hi hki k2) (fun h10 => hpp _ ⟨by omega, Or.inl rfl⟩ h10) (fun h2 => hpp _ ⟨by unfold two at h2; omega, Or.inr ⟨h2, rfl⟩⟩ (by unfold two at h2; omega))
        have hev : nodv r0 ρ (fun _ => vNull) kk (evi r0 ρ) = evi r0 ρ kk := (ev_eq hnod.bef).symm
        rw [hev] at a3
        rw [a1, Option.bind_some]
        unfold f_X10_evaluate_79 f_X10_evaluate_112
        rw [rd_nI (by omega) (by decide), Option.bind_some, a2.1 25 (by decide) (by decide), ho.1 25 (by decide) (by decide) (by decide), h25 kk hki, if_neg (show ¬ nI (M kk) = (1 : Int32) by rw [k2]; decide), nI_1]
        obtain ⟨r', b1, b2, b3⟩ := ih r2 (kk + 1) (ho.trans a2.evn) (by omega) (by omega) (fun k hk h2 => by
            by_cases e : k = kk
            · subst e; exact a3
            · exact (hV k (by omega) h2).other a2 e) (fun k h1 h2 h3 => by
            obtain ⟨m, m1', m2', m3'⟩ := hG k h1 h2 h3
            have hne : k ≠ kk := fun e => by rw [e, k2] at h2; omega
            refine ⟨m, m1', fun z => m2' (by omega), ?_⟩
            have : (if k < kk + 1 then agf (nK r0 k) (acc k) (evi r0 ρ (nA r0 k)) else acc k) = (if k < kk then agf (nK r0 k) (acc k) (evi r0 ρ (nA r0 k)) else acc k) := by
              by_cases z : k < kk
              · rw [if_pos z, if_pos (by omega)]
              · rw [if_neg z, if_neg (by omega)]
            rw [this]; exact m3'.evo a2)
        exact ⟨r', b1, a2.evn.trans b2, b3⟩
      · rw [if_neg (show ¬ nI (M kk) = (2 : Int32) from cNe (c := 2) k2 (by omega) (by decide))]
        unfold f_X10_evaluate_79 f_X10_evaluate_112
        rw [rd_nI (by omega) (by decide), Option.bind_some, ho.1 25 (by decide) (by decide) (by decide), h25 kk hki, nI_1, rd_nI (by omega) (by decide), Option.bind_some, (hbr 11 (by decide)).1, hnod.2.1, in59 _ (by have := hnod.1; omega), Option.bind_some]
        have hskip : ¬ (M kk = 1 ∧ isA r0 kk) → ∃ r', f_X10_evaluate_50 K fu r (nI i) x2 (nI c) (nI (kk + 1)) = K r' (nI i) x2 (nI c) ∧ EvN r r' ∧ ∀ k, k ≤ i → M k = 1 → isA r0 k → ∃ m, m ≤ n + 1 ∧ GR r' k (nK r0 k) (agf (nK r0 k) (acc k) (evi r0 ρ (nA r0 k))) m := fun hno => by
          refine ih r (kk + 1) ho (by omega) (by omega) (fun k hk h2 => ?_) (fun k h1 h2 h3 => ?_)
          · by_cases e : k = kk
            · subst e; exact absurd h2 k2
            · exact hV k (by omega) h2
          · obtain ⟨m, m1', m2', m3'⟩ := hG k h1 h2 h3
            have hne : k ≠ kk := fun e => by subst e; exact hno ⟨h2, h3⟩
            refine ⟨m, m1', fun z => m2' (by omega), ?_⟩
            have : (if k < kk + 1 then agf (nK r0 k) (acc k) (evi r0 ρ (nA r0 k)) else acc k) = (if k < kk then agf (nK r0 k) (acc k) (evi r0 ρ (nA r0 k)) else acc k) := by
              by_cases z : k < kk
              · rw [if_pos z, if_pos (by omega)]
              · rw [if_neg z, if_neg (by omega)]
            rw [this]; exact m3'
        by_cases k1 : M kk = 1
        · rw [if_pos (show nI (M kk) = (1 : Int32) by rw [k1]; rfl)]
          by_cases ka : 5 ≤ nK r0 kk ∧ nK r0 kk ≤ 9
          · rw [if_pos ka, if_neg i1]
            obtain ⟨m, m1', m2', m3'⟩ := hG kk hki k1 ka
            rw [if_neg (Nat.lt_irrefl _)] at m3'
            have hpart : nK r0 kk ≠ 5 → VR r (nA r0 kk) (evi r0 ρ (nA r0 kk)) ∧ Ty (nT r0 (nA r0 kk)) (evi r0 ρ (nA r0 kk)) := fun h5 => by
              have hpr : prt r0 kk (nA r0 kk) := ⟨by omega, Or.inl rfl⟩
              have hlt := hnod.plt hpr
              have : M (nA r0 kk) = 2 := by
                rw [hM.2.2.1 kk _ hki (by rw [k1]; decide) hpr]
                unfold inn
                rw [if_pos ka.2]
              exact ⟨hV _ hlt this, hty _ (by omega) this⟩
            obtain ⟨r2, m', a1, a2, a3, a4⟩ := r_gather (r := r) (a := nA r0 kk) (x := evi r0 ρ (nA r0 kk)) (show kk < 200 by omega) ka.1 ka.2 (by rw [(hbr 11 (by decide)).1]; exact hnod.2.1) (fun h5 => by rw [(hbr 12 (by decide)).1]; exact (hnod.2.2.2.2.2.2.2.2.2.2.2.2.1 h5).2.1) (fun h5 => by
              have hr := hnod.rlr (by omega)
              exact ⟨by rw [(hbr 12 (by decide)).1]; exact hr.1, by have := hr.2.1; omega, (hpart h5).1, (hpart h5).2.1⟩) (fun h7 => by
              have h2 : ¬ two (nK r0 kk) := by unfold two; omega
              have := ((hnod.2.2.2.2.2.2.2.2.2.2.2.2.2 (by omega)).2.2.2.2.2.2.1 h2).2.2.1.1 (Or.inl h7)
              have := (hpart (by omega)).2.2
              omega) m3' (by have := m2' (Nat.le_refl _); omega)
            rw [a1, Option.bind_some]
            obtain ⟨r', b1, b2, b3⟩ := ih r2 (kk + 1) (ho.trans a2.evn) (by omega) (by omega) (fun k hk h2 => by
                by_cases e : k = kk
                · subst e; exact absurd h2 k2
                · exact (hV k (by omega) h2).evg a2) (fun k h1 h2 h3 => by
                by_cases e : k = kk
                · subst e
                  refine ⟨m', by have := m2' (Nat.le_refl _); omega, fun z => by omega, ?_⟩
                  rw [if_pos (by omega)]; exact a3
                · obtain ⟨mm, n1', n2', n3'⟩ := hG k h1 h2 h3
                  refine ⟨mm, n1', fun z => n2' (by omega), ?_⟩
                  have : (if k < kk + 1 then agf (nK r0 k) (acc k) (evi r0 ρ (nA r0 k)) else acc k) = (if k < kk then agf (nK r0 k) (acc k) (evi r0 ρ (nA r0 k)) else acc k) := by
                    by_cases z : k < kk
                    · rw [if_pos z, if_pos (by omega)]
                    · rw [if_neg z, if_neg (by omega)]
                  rw [this]; exact n3'.evg a2 e)
            exact ⟨r', b1, a2.evn.trans b2, b3⟩
          · rw [if_neg ka, if_pos rfl]
            exact hskip (fun z => ka z.2)
        · rw [if_neg (show ¬ nI (M kk) = (1 : Int32) from cNe (c := 1) k1 (by omega) (by decide))]
          exact hskip (fun z => k1 z.1)
