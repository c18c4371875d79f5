theorem nI_neg {n : Nat} (h : n < 2 ^ 31) : ¬ nI n = -1 := fun z => by
  have := congrArg Int32.toInt z
  rw [nI_toInt (by omega)] at this
  have e1 : (-1 : Int32).toInt = -1 := rfl
  omega
theorem Rch.all0 {S T N i : Nat} {q0 r : QS} {P : Nat → Prop} (hN : SimN q0 r S T N) (hi : i < N) (h : Rch r (fun k => k = i) P N) (h0 : qI r 15 i = 0) : ∀ n k, N - k < n → k < N → P k → qI r 15 k = 0 := by
  intro n
  induction n with
  | zero => intro k h; omega
  | succ n ih =>
    intro k hk hkN hP
    rcases h.2.2 k hP with e | ⟨p, p1, p2, p3, p4⟩
    · rw [e]; exact h0
    · have hp := ih p (by omega) p2 p3
      have hnod := hN.2.2.2 p p2
      have hk01 := (hN.2.2.2 k hkN).2.2.2.2.2.2.1
      obtain ⟨-, -, -, -, e5, e6, e7, -⟩ := hnod.2.2.2.2.2.2.2.2.2.2.2.2.2 (by have := p4.1; omega)
      refine hk01.resolve_right (fun h1 => ?_)
      by_cases c2 : two (nK r p)
      · have := (e6 c2).2.2.2.2.mpr (by
          rcases p4.2 with z | ⟨-, z⟩
          · rw [← z]; exact Or.inl h1
          · rw [← z]; exact Or.inr h1)
        rw [hp] at this; exact absurd this (by decide)
      · have := (e7 c2).2.2.2.mpr (by
          rcases p4.2 with z | ⟨z', z⟩
          · rw [← z]; exact Or.inr h1
          · exact absurd z' c2)
        rw [hp] at this; exact absurd this (by decide)
/-- combinations that are there -/
def CbOk (r : QS) (T C : Nat) (cr : Nat → Nat → Nat) : Prop := C ≤ 2000 ∧ (∀ c, c < C → ∀ t, t < 3 → f_X10_rowOf (qI r 30 c) (nI t) = some (nI (cr c t))) ∧ ∀ c, c < C → ∀ t, t < T → cr c t < tR r t
theorem ach_loop {S T N i C : Nat} {q0 r0 r1 : QS} {M : Nat → Nat} {cr : Nat → Nat → Nat} {K : QS → Int32 → Int32 → Option QS} {x2 : Int32} (hS : SOk r0 S) (hT : SimT q0 r0 S T) (hN : SimN q0 r0 S T N) (hi : i < N) (hM : Mk r0 i M) (hb : SameB r0 r1) (h25 : ∀ k, k ≤ i → qI r1 25 k = nI (M k)) (hC : CbOk r1 T C cr) : ∀ (l : List Nat) (fu : Nat) (r : QS) (c : Int32) (n : Nat) (acc : Nat → Vl), EvN r1 r → Chain (qI r1 31) c l → (∀ x, x ∈ l → x < C) → l.length < fu → n + l.length < 2 ^ 29 → (∀ k, k ≤ i → M k = 1 → isA r0 k → ∃ m, m ≤ n ∧ GR r k (nK r0 k) (acc k) m) → ∃ r', f_X10_evaluate_34 K fu r (nI i) x2 c = K r' (nI i) x2 ∧ EvN r r' ∧ ∀ k, k ≤ i → M k = 1 → isA r0 k → ∃ m, m < 2 ^ 29 ∧ GR r' k (nK r0 k) (l.foldl (fun acc c => agf (nK r0 k) acc (evi r0 (cr c) (nA r0 k))) (acc k)) m := by
  have h200 := hN.1
  intro l
  induction l with
  | nil =>
    intro fu r c n acc ho hch hl hf hn hG
    cases fu with
    | zero => simp at hf
    | succ fu =>
      rw [f_X10_evaluate_34, f_X10_evaluate_34_b, show c = -1 from hch, if_pos (by decide)]
      refine ⟨r, rfl, EvN.rfl, fun k h1 h2 h3 => ?_⟩
      obtain ⟨m, m1', m2'⟩ := hG k h1 h2 h3
      exact ⟨m, by omega, m2'⟩
  | cons x l ih =>
    intro fu r c n acc ho hch hl hf hn hG
    cases fu with
    | zero => simp at hf
    | succ fu =>
      obtain ⟨h1, h2⟩ := hch
      have hxC := hl x (List.mem_cons_self ..)
      have hC2 := hC.1
      have hnod := hN.2.2.2 i hi
      simp only [List.length_cons] at hf hn
      rw [f_X10_evaluate_34, f_X10_evaluate_34_b, h1, if_neg (nI_pos (by omega)), rd_nI (by omega) (by decide), Option.bind_some, ho.1 15 (by decide) (by decide) (by decide), (hb 15 (by decide)).1]
      by_cases hg : qI r0 15 i = 0
      · rw [if_pos hg]
        refine ⟨r, rfl, EvN.rfl, fun k a1 a2 a3 => ?_⟩
        exfalso
        have := (hM.rch hN hi).all0 hN hi hg (N + 1) k (by omega) (by omega) ⟨a1, a2⟩
        rw [agg1 (hN.2.2.2 k (by omega)) a3.1 a3.2] at this
        exact absurd this (by decide)
      · rw [if_neg hg]
        have htR : tR r1 = tR r0 := hb.fs.2.2.2.2.2.1
        obtain ⟨r2, a1, a2, a3⟩ := ai_loop (n := n) (acc := acc) (ρ := cr x) (K := f_X10_evaluate_118 (f_X10_evaluate_34 K fu)) (x2 := x2) hS hT hN hi hM hb h25 (show x < 2000 by omega) (hC.2.1 x hxC) (fun t ht => by rw [← htR]; exact hC.2.2 x hxC t ht) (by omega) FU r 0 ho (Nat.zero_le _) (by show i + 1 - 0 < 100000; omega) (fun k hk => by omega) (fun k k1 k2 k3 => by
          obtain ⟨m, m1', m2'⟩ := hG k k1 k2 k3
          exact ⟨m, by omega, fun _ => m1', by rw [if_neg (by omega)]; exact m2'⟩)
        have a1' : f_X10_evaluate_50 (f_X10_evaluate_118 (f_X10_evaluate_34 K fu)) FU r (nI i) x2 (nI x) 0 = f_X10_evaluate_118 (f_X10_evaluate_34 K fu) r2 (nI i) x2 (nI x) := a1
        rw [a1']
        unfold f_X10_evaluate_118
        rw [rd_nI (show x < 2000 by omega) (by decide), Option.bind_some, (ho.trans a2).1 31 (by decide) (by decide) (by decide)]
        obtain ⟨r', b1, b2, b3⟩ := ih fu r2 (qI r1 31 x) (n + 1) (fun k => agf (nK r0 k) (acc k) (evi r0 (cr x) (nA r0 k))) (ho.trans a2) h2 (fun y hy => hl y (List.mem_cons_of_mem _ hy)) (by omega) (by omega) a3
        exact ⟨r', b1, a2.trans b2, b3⟩
theorem az_loop {i : Nat} {K : QS → Int32 → Int32 → Option QS} {x2 : Int32} (hi : i < 200) (fu : Nat) : ∀ (r : QS) (k : Nat), k ≤ i + 1 → i + 1 - k < fu → (∀ j, j < k → qL r 21 j = 0 ∧ qL r 22 j = 0) → ∃ r', f_X10_evaluate_7 K fu r (nI i) x2 (nI k) = K r' (nI i) x2 ∧ EvN r r' ∧ ∀ j, j ≤ i → qL r' 21 j = 0 ∧ qL r' 22 j = 0 := by
  induction fu with
  | zero => intro r k _ h; omega
  | succ fu ih =>
    intro r k hk hf hz
    rw [f_X10_evaluate_7, f_X10_evaluate_7_b]
    by_cases he : k = i + 1
    · subst he
      rw [if_pos (nI_lt (by omega) (by omega))]
      exact ⟨r, rfl, EvN.rfl, fun j hj => hz j (by omega)⟩
    · rw [if_neg (show ¬ nI i < nI k from fun z => by rw [i32_lt, nI_toInt (by omega), nI_toInt (by omega)] at z; omega), wL_nI (by omega) (by decide), Option.bind_some, wL_nI (by omega) (by decide), Option.bind_some, nI_1]
      obtain ⟨r', h1, h2, h3⟩ := ih (uL (uL r 21 k 0) 22 k 0) (k + 1) (by omega) (by omega) (fun j hj => by
        show (if j = k then (0 : Int64) else qL r 21 j) = 0 ∧ (if j = k then (0 : Int64) else qL r 22 j) = 0
        by_cases e : j = k
        · rw [if_pos e, if_pos e]; exact ⟨rfl, rfl⟩
        · rw [if_neg e, if_neg e]; exact hz j (by omega))
      refine ⟨r', h1, EvN.trans (r1 := uL (uL r 21 k 0) 22 k 0) ⟨fun _ _ _ _ => rfl, fun z _ _ a b _ => ?_, rfl, rfl⟩ h2, h3⟩
      rw [qL_uL, if_neg b, qL_uL, if_neg a]
theorem af_loop {S T N i : Nat} {q0 r0 r1 : QS} {M : Nat → Nat} {ρ : Nat → Nat} {α : Nat → Vl} {x2 cb : Int32} (hS : SOk r0 S) (hT : SimT q0 r0 S T) (hN : SimN q0 r0 S T N) (hi : i < N) (hM : Mk r0 i M) (hb : SameB r0 r1) (h25 : ∀ k, k ≤ i → qI r1 25 k = nI (M k)) (hcb : ∀ t, t < 3 → f_X10_rowOf cb (nI t) = some (nI (ρ t))) (hrow : ∀ k, k ≤ i → M k = 1 → rowAt r0 ρ k) (hx2 : (¬ 0 ≤ x2 ∧ cb = 0) ∨ ∃ c, c < 2000 ∧ x2 = nI c ∧ qI r1 30 c = cb) (hα : ∀ k, k ≤ i → M k = 1 → isA r0 k → Ty (nT r0 k) (α k)) (fu : Nat) :
    ∀ (r : QS) (kk : Nat), EvN r1 r → kk ≤ i + 1 → i + 1 - kk < fu → (∀ k, k < kk → M k = 1 → VR r k (ev r0 ρ α k)) → (∀ k, kk ≤ k → k ≤ i → M k = 1 → isA r0 k → ∃ m, m < 2 ^ 29 ∧ GR r k (nK r0 k) (α k) m) → ∃ r', f_X10_evaluate_130 fu r (nI i) x2 (nI kk) = some r' ∧ EvN r r' ∧ VR r' i (ev r0 ρ α i) := by
  have h200 := hN.1
  have hrch := hM.rch hN hi
  have hty : ∀ k, k ≤ i → M k = 1 → Ty (nT r0 k) (ev r0 ρ α k) := fun k hk h1 => ev_ty hS hT hN hrch.clo (fun k _ hp => hrow k hp.1 hp.2) (fun k _ hp h5 h9 => hα k hp.1 hp.2 ⟨h5, h9⟩) 200 k (by omega) (by omega) ⟨hk, h1⟩
  induction fu with
  | zero => intro r kk _ _ h; omega
  | succ fu ih =>
    intro r kk ho hkk hf hV hG
    rw [f_X10_evaluate_130, f_X10_evaluate_130_b]
    by_cases he : kk = i + 1
    · subst he
      rw [if_pos (nI_lt (by omega) (by omega))]
      exact ⟨r, rfl, EvN.rfl, hV i (by omega) hM.2.1⟩
    · have hki : kk ≤ i := by omega
      have hnod := hN.2.2.2 kk (by omega)
      have hbr : SameB r0 r := fun k hk => by
        rw [ho.1 k (by omega) (by omega) (by omega), ho.2.1 k (by omega) (by omega) (by omega) (by omega) (by omega)]; exact hb k hk
      have hle := hM.1 kk hki
      unfold f_X10_evaluate_168 f_X10_evaluate_194 f_X10_evaluate_197
      rw [if_neg (show ¬ nI i < nI kk from fun z => by rw [i32_lt, nI_toInt (by omega), nI_toInt (by omega)] at z; omega), rd_nI (by omega) (by decide), Option.bind_some, Option.bind_some, ho.1 25 (by decide) (by decide) (by decide), h25 kk hki, nI_1, rd_nI (by omega) (by decide), Option.bind_some, (hbr 11 (by decide)).1, hnod.2.1, in59 _ (by have := hnod.1; omega), Option.bind_some]
      by_cases k1 : M kk = 1
      · rw [if_pos (show nI (M kk) = (1 : Int32) by rw [k1]; rfl)]
        have next : ∀ r2, On kk r r2 → VR r2 kk (ev r0 ρ α kk) → ∃ r', f_X10_evaluate_130 fu r2 (nI i) x2 (nI (kk + 1)) = some r' ∧ EvN r r' ∧ VR r' i (ev r0 ρ α i) := fun r2 a2 a3 => by
          obtain ⟨r', b1, b2, b3⟩ := ih r2 (kk + 1) (ho.trans a2.evn) (by omega) (by omega) (fun k hk h1 => by
            by_cases e : k = kk
            · subst e; exact a3
            · exact (hV k (by omega) h1).other a2 e) (fun k g1 g2 g3 g4 => by
            obtain ⟨m, m1', m2'⟩ := hG k (by omega) g2 g3 g4
            exact ⟨m, m1', m2'.evo a2⟩)
          exact ⟨r', b1, a2.evn.trans b2, b3⟩
        by_cases ka : 5 ≤ nK r0 kk ∧ nK r0 kk ≤ 9
        · rw [if_pos ka, if_neg i1]
          obtain ⟨m, m1', m2'⟩ := hG kk (Nat.le_refl _) hki k1 ka
          obtain ⟨r2, a1, a2, a3⟩ := r_setG (r := r) (show kk < 200 by omega) ka.1 ka.2 (by rw [(hbr 11 (by decide)).1]; exact hnod.2.1) m2' (by omega)
          rw [a1, Option.bind_some]
          refine next r2 a2 ?_
          have : ev r0 ρ α kk = α kk := by
            rw [ev_eq hnod.bef]
            unfold nodv
            rw [if_neg (by omega), if_neg (by omega), if_pos ka.2]
          rw [this]; exact a3
        · rw [if_neg ka, if_pos rfl, if_pos (show nI (M kk) = (1 : Int32) by rw [k1]; rfl)]
          have hpp : ∀ x, prt r0 kk x → VR r x (ev r0 ρ α x) ∧ vOk (ev r0 ρ α x) := fun x hx => by
            have hlt := hnod.plt hx
            have h6 := hx.1
            have : M x = 1 := by
              rw [hM.2.2.1 kk x hki (by rw [k1]; decide) hx]
              unfold inn
              rw [if_neg (by omega)]; exact k1
            exact ⟨hV x hlt this, (hty x (by omega) this).1⟩
          obtain ⟨r2, a1, a2, a3⟩ := r_node (α := α) (e := ev r0 ρ α) hS hT hnod (by omega) hbr hcb (hrow kk hki k1) ka (fun h10 => hpp _ ⟨by omega, Or.inl rfl⟩) (fun h2 => hpp _ ⟨by unfold two at h2; omega, Or.inr ⟨h2, rfl⟩⟩)
          rw [← ev_eq hnod.bef] at a3
          rcases hx2 with ⟨z, hz⟩ | ⟨c, hc, z1, z2⟩
          · rw [if_neg z, ← hz, a1, Option.bind_some]
            exact next r2 a2 a3
          · rw [z1, if_pos (show (0 : Int32) ≤ nI c from nI_le (a := 0) (Nat.zero_le _) (by omega)), rd_nI hc (by decide), Option.bind_some, ho.1 30 (by decide) (by decide) (by decide), z2, a1, Option.bind_some, ← z1]
            exact next r2 a2 a3
      · rw [if_neg (show ¬ nI (M kk) = (1 : Int32) from cNe (c := 1) k1 (by omega) (by decide)), if_neg (show ¬ nI (M kk) = (1 : Int32) from cNe (c := 1) k1 (by omega) (by decide))]
        refine ih r (kk + 1) ho (by omega) (by omega) (fun k hk h1 => ?_) (fun k g1 g2 g3 g4 => hG k (by omega) g2 g3 g4)
        by_cases e : k = kk
        · subst e; exact absurd h1 k1
        · exact hV k (by omega) h1
/-- an aggregate's type -/
theorem agg_ty {S T k : Nat} {q r : QS} (h : NodOk q r S T k) (ha : isA r k) : (nK r k ≤ 7 → nT r k = 1) ∧ (8 ≤ nK r k → nT r (nA r k) = nT r k) ∧ (nK r k = 7 → nT r (nA r k) ≤ 1) := by
  have h2 : ¬ two (nK r k) := by unfold two isA at *; omega
  refine ⟨fun h7 => ?_, fun h8 => ?_, fun h7 => ?_⟩
  · rcases Nat.eq_or_lt_of_le ha.1 with e | e
    · exact (h.2.2.2.2.2.2.2.2.2.2.2.2.1 e.symm).1
    · rw [(h.2.2.2.2.2.2.2.2.2.2.2.2.2 e).2.2.2.1]
      unfold tyOf
      rw [if_neg (by omega), if_pos (by omega)]
  · rw [(h.2.2.2.2.2.2.2.2.2.2.2.2.2 (by omega)).2.2.2.1]
    unfold tyOf
    rw [if_pos (by have := ha.2; omega)]
  · exact ((h.2.2.2.2.2.2.2.2.2.2.2.2.2 (by omega)).2.2.2.2.2.2.1 h2).2.2.1.1 (Or.inl h7)
/-- the inner value of an aggregate's part -/
theorem evi_ty {S T N : Nat} {q r : QS} {P : Nat → Prop} {ρ : Nat → Nat} (hS : SOk r S) (hT : SimT q r S T) (hN : SimN q r S T N) (hcl : Clo r P N) (hna : ∀ k, k < N → P k → ¬ isA r k) (hrv : ∀ t, t < T → ρ t < tR r t) (k : Nat) (hk : k < N) (hp : P k) : Ty (nT r k) (evi r ρ k) :=
  ev_ty hS hT hN hcl (fun k hk _ h4 => hrv _ ((hN.2.2.2 k hk).2.2.2.2.2.2.2.2.2.2.2.1 h4).2.1) (fun k hk hp h5 h9 => absurd ⟨h5, h9⟩ (hna k hk hp)) (k + 1) k (by omega) hk hp
theorem agv_ok {S T k : Nat} {q r : QS} {cr : Nat → Nat → Nat} {l : List Nat} (h : NodOk q r S T k) (ha : isA r k) (hx : ∀ c, c ∈ l → nK r k ≠ 5 → Ty (nT r (nA r k)) (evi r (cr c) (nA r k))) : AgOk (nK r k) (nT r k) (agv r cr l k) := by
  obtain ⟨t1, t2, t3⟩ := agg_ty h ha
  unfold agv
  have gen : ∀ (l : List Nat) (acc : Vl), (∀ c, c ∈ l → nK r k ≠ 5 → Ty (nT r (nA r k)) (evi r (cr c) (nA r k))) → AgOk (nK r k) (nT r k) acc → AgOk (nK r k) (nT r k) (l.foldl (fun acc c => agf (nK r k) acc (evi r (cr c) (nA r k))) acc) := by
    intro l
    induction l with
    | nil => intro acc _ h; exact h
    | cons x l ih =>
      intro acc hx h
      exact ih _ (fun c hc => hx c (List.mem_cons_of_mem _ hc)) (agf_ok ha.1 t1 t2 t3 h (hx x (List.mem_cons_self ..)))
  exact gen l _ hx (ag0_ok (fun h6 => t1 (by omega)))
theorem rowOf0 : ∀ t, t < 3 → f_X10_rowOf 0 (nI t) = some (nI 0) := by decide +kernel
theorem r_eval {S T N i C : Nat} {q0 r : QS} {cr : Nat → Nat → Nat} {l : List Nat} {x2 : Int32} (hS : SOk r S) (hT : SimT q0 r S T) (hN : SimN q0 r S T N) (hi : i < N) (hC : CbOk r T C cr) (hch : Chain (qI r 31) x2 l) (hl : ∀ x, x ∈ l → x < C) (hlen : l.length ≤ 2000) (hemp : l = [] → ∀ P, Rch r (fun k => k = i) P N → ∀ k, k < N → P k → nK r k ≠ 4) : ∃ r', f_X10_evaluate r (nI i) x2 = some r' ∧ EvR r r' ∧ VR r' i (val r cr l i) ∧ Ty (nT r i) (val r cr l i) := by
  have h200 := hN.1
  unfold f_X10_evaluate f_X10_evaluate_0
  obtain ⟨r1, M, a1, a2, a3, a4⟩ := r_mark hN hi
  rw [a1, Option.bind_some]
  obtain ⟨r2, b1, b2, b3⟩ := az_loop (K := f_X10_evaluate_32) (x2 := x2) (show i < 200 by omega) FU r1 0 (Nat.zero_le _) (by show i + 1 - 0 < 100000; omega) (fun j hj => by omega)
  have b1' : f_X10_evaluate_7 f_X10_evaluate_32 FU r1 (nI i) x2 0 = f_X10_evaluate_32 r2 (nI i) x2 := b1
  rw [b1']
  unfold f_X10_evaluate_32
  have hb2 : SameB r r2 := (a2.evr.trans b2.evr).same
  have h25 : ∀ k, k ≤ i → qI r2 25 k = nI (M k) := fun k hk => by rw [b2.1 25 (by decide) (by decide) (by decide)]; exact a3 k hk
  have e30 : qI r2 30 = qI r 30 := by rw [((a2.evr.trans b2.evr).1 30 (by decide)).1]
  have e31 : qI r2 31 = qI r 31 := by rw [((a2.evr.trans b2.evr).1 31 (by decide)).1]
  have hC2 : CbOk r2 T C cr := by
    refine ⟨hC.1, fun c hc t ht => by rw [e30]; exact hC.2.1 c hc t ht, fun c hc t ht => ?_⟩
    rw [hb2.fs.2.2.2.2.2.1]; exact hC.2.2 c hc t ht
  obtain ⟨r3, c1, c2, c3⟩ := ach_loop (K := f_X10_evaluate_128) (x2 := x2) hS hT hN hi a4 hb2 h25 hC2 l FU r2 x2 0 (fun k => ag0 (nK r k)) EvN.rfl (by rw [e31]; exact hch) hl (by show l.length < 100000; omega) (by omega) (fun k k1 k2 k3 => by
    obtain ⟨z1, z2⟩ := b3 k k1
    refine ⟨0, Nat.le_refl _, ?_, fun h6 => ?_, fun h7 => ?_, fun h8 => ?_⟩
    · rw [z1]; rfl
    · unfold ag0; rw [if_pos h6]; rfl
    · unfold ag0; rw [if_neg (by omega)]; exact ⟨fun _ => ⟨rfl, z2⟩, fun h => absurd rfl h⟩
    · unfold ag0; rw [if_neg (by omega)]; exact ⟨fun _ => rfl, fun h => absurd rfl h⟩)
  rw [c1]
  unfold f_X10_evaluate_128
  have hrow : ∀ k, k ≤ i → M k = 1 → rowAt r (hdr cr l) k := fun k hk h1 h4 => by
    cases l with
    | nil => exact absurd h4 (hemp rfl _ (a4.rch hN hi) k (by omega) ⟨hk, h1⟩)
    | cons c l => exact hC.2.2 c (hl c (List.mem_cons_self ..)) _ ((hN.2.2.2 k (by omega)).2.2.2.2.2.2.2.2.2.2.2.1 h4).2.1
  have hα : ∀ k, k ≤ i → M k = 1 → isA r k → Ty (nT r k) (agv r cr l k) := fun k hk h1 ha => (agv_ok (hN.2.2.2 k (by omega)) ha (fun c hc h5 => by
    have hpr : prt r k (nA r k) := ⟨by have := ha.1; omega, Or.inl rfl⟩
    have hlt := (hN.2.2.2 k (by omega)).plt hpr
    refine evi_ty hS hT hN (a4.clo2 hN hi) (fun k _ hp => a4.na2 hN hi hp.1 hp.2) (hC.2.2 c (hl c hc)) _ (by omega) ⟨by omega, ?_⟩
    rw [a4.2.2.1 k _ hk (by rw [h1]; decide) hpr]
    unfold inn
    rw [if_pos ha.2])).2
  have hend : ∃ r', f_X10_evaluate_130 FU r3 (nI i) x2 0 = some r' ∧ EvN r3 r' ∧ VR r' i (ev r (hdr cr l) (agv r cr l) i) := by
    cases l with
    | nil =>
      refine af_loop (cb := 0) (ρ := fun _ => 0) hS hT hN hi a4 hb2 h25 rowOf0 hrow (Or.inl ⟨?_, rfl⟩) hα FU r3 0 c2 (Nat.zero_le _) (by show i + 1 - 0 < 100000; omega) (fun k hk => by omega) (fun k _ k1 k2 k3 => c3 k k1 k2 k3)
      rw [show x2 = -1 from hch]; decide
    | cons c l =>
      have hcC := hl c (List.mem_cons_self ..)
      exact af_loop (cb := qI r2 30 c) (ρ := cr c) hS hT hN hi a4 hb2 h25 (hC2.2.1 c hcC) hrow (Or.inr ⟨c, by have := hC.1; omega, hch.1, rfl⟩) hα FU r3 0 c2 (Nat.zero_le _) (by show i + 1 - 0 < 100000; omega) (fun k hk => by omega) (fun k _ k1 k2 k3 => c3 k k1 k2 k3)
  obtain ⟨r', d1, d2, d3⟩ := hend
  refine ⟨r', d1, ((a2.evr.trans b2.evr).trans c2.evr).trans d2.evr, d3, ?_⟩
  exact ev_ty hS hT hN (a4.rch hN hi).clo (fun k _ hp => hrow k hp.1 hp.2) (fun k _ hp h5 h9 => hα k hp.1 hp.2 ⟨h5, h9⟩) 200 i (by omega) hi ⟨Nat.le_refl _, a4.2.1⟩
