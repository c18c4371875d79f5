/-! the product, the room, and the combinations that count -/
def mx (r : QS) (t : Nat) : Nat := if tR r t = 0 then 1 else tR r t
def prd (r : QS) : Nat → Nat
  | 0 => 1
  | t + 1 => prd r t * mx r t
theorem mx_le {q r : QS} {S T t : Nat} (hT : SimT q r S T) (ht : t < T) : mx r t ≤ 40 ∧ tR r t ≤ mx r t := by
  have := (hT.2.2.2 t ht).2.2.1
  unfold mx
  split <;> omega
theorem prd_le {q r : QS} {S T : Nat} (hT : SimT q r S T) : ∀ t, t ≤ T → prd r t ≤ 40 ^ t := by
  intro t
  induction t with
  | zero => intro _; exact Nat.le_refl _
  | succ t ih => intro h; rw [Nat.pow_succ]; exact Nat.mul_le_mul (ih (by omega)) (mx_le hT (by omega)).1
theorem prd_64 {q r : QS} {S T t : Nat} (hT : SimT q r S T) (h : t ≤ T) : prd r t ≤ 64000 :=
  Nat.le_trans (prd_le hT t h) (Nat.le_trans (Nat.pow_le_pow_right (by decide) (Nat.le_trans h hT.1)) (by decide))
theorem max1 {n : Nat} (h : n < 2 ^ 31) : f_J9_max_7cf53 1 (nI n) = some (nI (if n = 0 then 1 else n)) := by
  unfold f_J9_max_7cf53 f_J9_max_7cf53_0
  by_cases h1 : 1 < n
  · rw [if_pos (show (1 : Int32) < nI n from nI_lt (a := 1) h1 h), if_neg (show ¬ n = 0 by omega)]
  · rw [if_neg (show ¬ (1 : Int32) < nI n from fun z => h1 ((nI_ltI (a := 1) (by decide) h).mp z))]
    rcases (by omega : n = 0 ∨ n = 1) with e | e
    · subst e; rfl
    · subst e; rfl
theorem min_ok {a b : Nat} (ha : a < 2 ^ 31) (hb : b < 2 ^ 31) : f_J9_min_7cf53 (nI a) (nI b) = some (nI (min a b)) := by
  unfold f_J9_min_7cf53 f_J9_min_7cf53_0
  by_cases h : b < a
  · rw [if_pos (nI_lt h ha), Nat.min_eq_right (by omega)]
  · rw [if_neg (fun z => h ((nI_ltI hb ha).mp z)), Nat.min_eq_left (by omega)]
theorem pr_loop {q r : QS} {S T : Nat} (hT : SimT q r S T) (fu : Nat) : ∀ t, t ≤ T → T - t < fu → f_X7_product_4 q fu (nI (prd r t)) (nI t) = some (nI (prd r T)) := by
  have hT3 := hT.1
  induction fu with
  | zero => intro t _ h; omega
  | succ fu ih =>
    intro t ht hf
    rw [f_X7_product_4, f_X7_product_4_b, hT.2.1]
    by_cases he : t = T
    · subst he
      rw [if_pos (nI_le (Nat.le_refl _) (by omega))]
    · have h40 := (hT.2.2.2 t (by omega)).2.2.1
      rw [if_neg (nI_ge (show t < T by omega) (by omega)), rd_nI (show t < 3 by omega) (by decide), Option.bind_some, (hT.2.2.2 t (by omega)).2.2.2.2.2.2.1, max1 (by omega), Option.bind_some, nI_m, nI_1]
      exact ih (t + 1) (by omega) (by omega)
theorem c_product {q r : QS} {S T : Nat} (hT : SimT q r S T) : f_X7_product q = some (nI (prd r T)) := pr_loop hT FU 0 (Nat.zero_le _) (by have := hT.1; show T - 0 < 100000; omega)
theorem rp_loop {q r r1 : QS} {S T : Nat} (hT : SimT q r S T) (ho : On25 r r1) (fu : Nat) : ∀ t, t ≤ T → T - t < fu → f_X10_refusal_75 fu r1 (nI (prd r t)) (nI t) = some (if prd r T ≤ 40000 then 0 else -2, r1) := by
  have hT3 := hT.1
  induction fu with
  | zero => intro t _ h; omega
  | succ fu ih =>
    intro t ht hf
    rw [f_X10_refusal_75, f_X10_refusal_75_b, ho.2.2.1, hT.2.2.1]
    by_cases he : t = T
    · subst he
      have h64 := prd_64 hT (Nat.le_refl t)
      rw [if_pos (nI_le (Nat.le_refl _) (by omega))]
      by_cases hp : prd r t ≤ 40000
      · rw [if_pos (show nI (prd r t) ≤ (40000 : Int32) from nI_le (b := 40000) hp (by decide)), if_pos hp]
      · rw [if_neg (show ¬ nI (prd r t) ≤ (40000 : Int32) from nI_ge (a := 40000) (by omega) (by omega)), if_neg hp]
    · have h40 := (hT.2.2.2 t (by omega)).2.2.1
      rw [if_neg (nI_ge (show t < T by omega) (by omega)), ho.1 9 (by decide), rd_nI (show t < 3 by omega) (by decide), Option.bind_some, (hT.2.2.2 t (by omega)).2.2.2.2.2.1]
      unfold f_X10_refusal_103
      rw [Option.bind_some, nI_1]
      by_cases h0 : tR r t = 0
      · rw [if_pos (show nI (tR r t) = (0 : Int32) by rw [h0]; rfl), show nI (prd r t) * (1 : Int32) = nI (prd r t * 1) from pk_mul _ 1]
        have := ih (t + 1) (by omega) (by omega)
        rw [show prd r (t + 1) = prd r t * 1 from by show prd r t * mx r t = _; unfold mx; rw [if_pos h0]] at this
        exact this
      · rw [if_neg (show ¬ nI (tR r t) = (0 : Int32) from cNe (c := 0) h0 (by omega) (by decide)), nI_m]
        have := ih (t + 1) (by omega) (by omega)
        rw [show prd r (t + 1) = prd r t * tR r t from by show prd r t * mx r t = _; unfold mx; rw [if_neg h0]] at this
        exact this
theorem nch_prd {q r : QS} {S T : Nat} (hT : SimT q r S T) : nch r T 0 * nch r T 1 * nch r T 2 ≤ prd r T := by
  have hT3 := hT.1
  have hm := fun t ht => (mx_le hT (t := t) ht).2
  obtain rfl | rfl | rfl | rfl : T = 0 ∨ T = 1 ∨ T = 2 ∨ T = 3 := by omega
  · exact Nat.le_refl _
  · show tR r 0 * 1 * 1 ≤ 1 * mx r 0
    have := hm 0 (by decide)
    omega
  · show tR r 0 * tR r 1 * 1 ≤ 1 * mx r 0 * mx r 1
    rw [Nat.mul_one, Nat.one_mul]
    exact Nat.mul_le_mul (hm 0 (by decide)) (hm 1 (by decide))
  · show tR r 0 * tR r 1 * tR r 2 ≤ 1 * mx r 0 * mx r 1 * mx r 2
    rw [Nat.one_mul]
    exact Nat.mul_le_mul (Nat.mul_le_mul (hm 0 (by decide)) (hm 1 (by decide))) (hm 2 (by decide))
/-- what a room of the right size costs -/
def Cost (q : QS) (cap mc ms : Nat) : Prop := (cap = qC q ∧ mc = 0 ∧ ms = 0) ∨ (qC q < cap ∧ (2 * qC q ≤ cap ∨ cap = 2000) ∧ mc = 12 ∧ ms = 12 + 48 * cap)
theorem rmr_no {k : Nat} (h : k ≠ 13) (h2 : k < 50 ∨ 57 < k) : ¬ rmr k = true := fun h => by
  unfold rmr at h
  simp only [Bool.or_eq_true, Bool.and_eq_true, Nat.beq_eq, Nat.ble_eq] at h
  omega
theorem room {κ : Nat} {q : QS} {m : Nat} (hC : SimC κ q) (hm : m ≤ 2000) : ∃ q1 cap, f_mrf q (nI m) = some q1 ∧ qF q1 12 = nI cap ∧ qC q1 = cap ∧ m ≤ cap ∧ cap ≤ 2000 ∧ 16 ≤ cap ∧ (∀ k, k ≠ 13 → (k < 50 ∨ 57 < k) → qI q1 k = qI q k) ∧ (∀ k, k ≠ 14 → qL q1 k = qL q k) ∧ (∀ k, k ≠ 12 → qF q1 k = qF q k) ∧ Cost q cap (mrf_c q (nI m)) (mrf_s q (nI m)) := by
  obtain ⟨-, h12, h16, h2⟩ := hC
  unfold f_mrf mrf_c mrf_s Cost
  rw [h12]
  by_cases hle : m ≤ qC q
  · rw [if_pos (nI_le hle (by omega)), if_pos (nI_le hle (by omega)), if_pos (nI_le hle (by omega))]
    exact ⟨q, qC q, rfl, h12, rfl, hle, h2, h16, fun _ _ _ => rfl, fun _ _ => rfl, fun _ _ => rfl, Or.inl ⟨rfl, rfl, rfl⟩⟩
  · have hn : ¬ nI m ≤ nI (qC q) := nI_ge (by omega) (by omega)
    rw [if_neg hn, if_neg hn, if_neg hn]
    have key : ∃ cap, mcap q (nI m) = nI cap ∧ m ≤ cap ∧ cap ≤ 2000 ∧ (2 * qC q ≤ cap ∨ cap = 2000) := by
      unfold mcap
      rw [h12, show (2 : Int32) * nI (qC q) = nI (2 * qC q) from pk_mul 2 _]
      by_cases c1 : 2 * qC q < 2000
      · rw [if_pos (show nI (2 * qC q) < (2000 : Int32) from nI_lt (b := 2000) c1 (by decide))]
        by_cases c2 : m < 2 * qC q
        · rw [if_pos (nI_lt c2 (by omega))]
          exact ⟨2 * qC q, rfl, by omega, by omega, Or.inl (Nat.le_refl _)⟩
        · rw [if_neg (fun z => c2 ((nI_ltI (by omega) (by omega)).mp z))]
          exact ⟨m, rfl, Nat.le_refl _, hm, Or.inl (by omega)⟩
      · rw [if_neg (show ¬ nI (2 * qC q) < (2000 : Int32) from fun z => c1 ((nI_ltI (b := 2000) (by omega) (by decide)).mp z))]
        by_cases c2 : m < 2000
        · rw [if_pos (show nI m < (2000 : Int32) from nI_lt (b := 2000) c2 (by decide))]
          exact ⟨2000, rfl, by omega, Nat.le_refl _, Or.inr rfl⟩
        · rw [if_neg (show ¬ nI m < (2000 : Int32) from fun z => c2 ((nI_ltI (b := 2000) (by omega) (by decide)).mp z))]
          exact ⟨m, rfl, Nat.le_refl _, hm, Or.inr (by omega)⟩
    obtain ⟨cap, k1, k2, k3, k4⟩ := key
    rw [k1, nI_clamp (by omega), if_neg (show ¬ (nI cap < 0 ∨ 2000 < cap) from fun z => by
      rcases z with z | z
      · exact nI_pos (by omega) z
      · omega)]
    refine ⟨newRoom q cap, cap, rfl, rfl, rfl, k2, k3, by omega, fun k a b => if_neg (rmr_no a b), fun k a => if_neg a, fun k a => if_neg a, Or.inr ⟨by omega, k4, rfl, rfl⟩⟩
/-- what a run leaves alone in the reference, its answer aside -/
def FR (r r' : QS) : Prop := (∀ k, (k ≤ 16 ∨ (26 ≤ k ∧ k ≤ 29) ∨ 38 ≤ k) → qI r' k = qI r k ∧ qL r' k = qL r k) ∧ (∀ k, k ≠ 9 → k ≠ 10 → qF r' k = qF r k)
theorem FR.rfl {r : QS} : FR r r := ⟨fun _ _ => ⟨Eq.refl _, Eq.refl _⟩, fun _ _ _ => Eq.refl _⟩
theorem FR.trans {r r1 r2 : QS} (h : FR r r1) (g : FR r1 r2) : FR r r2 := ⟨fun k a => ⟨((g.1 k a).1).trans (h.1 k a).1, ((g.1 k a).2).trans (h.1 k a).2⟩, fun k a b => (g.2 k a b).trans (h.2 k a b)⟩
theorem On25.fr {r r' : QS} (h : On25 r r') : FR r r' := ⟨fun k a => ⟨h.1 k (by omega), by rw [h.2.1]⟩, fun k _ _ => by rw [h.2.2.1]⟩
theorem OnGr.fr {r r' : QS} (h : OnGr r r') : FR r r' := ⟨fun k a => ⟨h.1 k (by omega) (by omega) (by omega) (by omega), h.2.1 k (by omega) (by omega) (by omega) (by omega) (by omega)⟩, fun k _ _ => by rw [h.2.2.1]⟩
theorem EvC.fr {r r' : QS} (h : EvC r r') : FR r r' := ⟨fun k a => h.1 k (by omega), fun k _ _ => by rw [h.2.1]⟩
theorem OnRw.fr {r r' : QS} (h : OnRw r r') : FR r r' := ⟨fun k a => h.1 k (by omega), fun k _ a => h.2.1 k a⟩
theorem FR.same {r r' : QS} (h : FR r r') : SameB r r' := fun k hk => h.1 k (Or.inl hk)
theorem FR.Q {q r r' : QS} {N I G O : Nat} (h : FR r r') (hQ : SimQ q r N I G O) : SimQ q r' N I G O := hQ.congr h.same.sn (fun k _ _ => h.2 k (by omega) (by omega)) (fun _ _ _ => Eq.refl _) (fun k h1 h2 => (h.1 k (by omega)).1) (fun _ _ _ => Eq.refl _)
theorem FR.T {q r r' : QS} {S T : Nat} (hS : SOk r S) (h : FR r r') (hT : SimT q r S T) : SimT q r' S T := h.same.t hS (h.2 1 (by decide) (by decide)) hT
theorem FR.N {q r r' : QS} {S T N : Nat} (hS : SOk r S) (h : FR r r') (hN : SimN q r S T N) : SimN q r' S T N := h.same.n hS (h.2 2 (by decide) (by decide)) hN
theorem FR.S {r r' : QS} {S : Nat} (hS : SOk r S) (h : FR r r') : SOk r' S := same_SOk h.same.s hS
theorem FR.eit {r r' : QS} (h : FR r r') : itn r' = itn r := by
  funext j
  unfold itn
  rw [(h.1 26 (by decide)).1]
theorem FR.gp {r r' : QS} {G I : Nat} (h : FR r r') : Gp r' G I ↔ Gp r G I := Gp.same h.same (h.1 26 (by decide)).1
theorem FR.pl {q r r' : QS} {N I : Nat} {P1 P2 : Nat → Prop} (h : FR r r') (hp : Pl q r N I P1 P2) : Pl q r' N I P1 P2 := by
  obtain ⟨e1, e2, e3, e4, e5, e6, e7⟩ := h.same.fs
  have e8 := h.eit
  unfold Pl Rch JP AgsOk prs at hp ⊢
  rw [e1, e2, e3, e8]
  exact hp
theorem FR.rc1 {r r' : QS} {N i k : Nat} (h : FR r r') : Rc1 r' N i k ↔ Rc1 r N i k := by
  obtain ⟨e1, e2, e3, e4, e5, e6, e7⟩ := h.same.fs
  unfold Rc1 Rch prs
  rw [e1, e2, e3]
theorem FR.lo {r r' : QS} {N I G : Nat} (h : FR r r') : Lo r' N I G ↔ Lo r N I G := by
  obtain ⟨e1, e2, e3, e4, e5, e6, e7⟩ := h.same.fs
  have e8 := h.eit
  unfold Lo Ls Mt gn Rc1 Rch prs
  rw [e1, e2, e3, e8, (h.1 27 (by decide)).1]
theorem cr3 {f : Nat → Nat} : ∀ t, t < 3 → ρ3 (f 0) (f 1) (f 2) t = f t := by
  intro t ht
  obtain rfl | rfl | rfl : t = 0 ∨ t = 1 ∨ t = 2 := by omega
  · rfl
  · rfl
  · rfl
theorem r_gAll {q r : QS} {S T N I G O : Nat} {w : Option Nat} (hT : SimT q r S T) (hN : SimN q r S T N) (hw : Wn r N w) (hT1 : 1 ≤ T) : ∃ r1, f_X10_gatherAll r = f_X10_gatherAll_58 FU r1 (nI (nch r T 1)) (nI (nch r T 2)) 0 0 ∧ On25 r r1 ∧ Wm r r1 w := by
  have hT3 := hT.1
  have h200 := hN.1
  have e37 : f_X10_gatherAll r = f_X10_gatherAll_37 r (nI (nch r T 1)) (nI (nch r T 2)) := by
    have e18 : ∀ x, f_X10_gatherAll_18 r x = f_X10_gatherAll_37 r x (nI (nch r T 2)) := fun x => by
      unfold f_X10_gatherAll_18
      rw [hT.2.2.1]
      by_cases h2 : T ≤ 2
      · rw [if_pos (show nI T ≤ (2 : Int32) from nI_le (b := 2) h2 (by decide)), show nch r T 2 = 1 from if_neg (by omega)]
        rfl
      · rw [if_neg (show ¬ nI T ≤ (2 : Int32) from nI_ge (a := 2) (by omega) (by omega)), show rd (qI r 9) 3 (2 : Int32) = some (qI r 9 2) from rd_nI (j := 2) (by decide) (by decide), Option.bind_some, (hT.2.2.2 2 (by omega)).2.2.2.2.2.1, show nch r T 2 = tR r 2 from if_pos (by omega)]
    unfold f_X10_gatherAll f_X10_gatherAll_0
    rw [hT.2.2.1]
    by_cases h1 : T ≤ 1
    · rw [if_pos (show nI T ≤ (1 : Int32) from nI_le (b := 1) h1 (by decide)), e18, show nch r T 1 = 1 from if_neg (by omega)]
      rfl
    · rw [if_neg (show ¬ nI T ≤ (1 : Int32) from nI_ge (a := 1) (by omega) (by omega)), show rd (qI r 9) 3 (1 : Int32) = some (qI r 9 1) from rd_nI (j := 1) (by decide) (by decide), Option.bind_some, (hT.2.2.2 1 (by omega)).2.2.2.2.2.1, e18, show nch r T 1 = tR r 1 from if_pos (by omega)]
  rw [e37]
  unfold f_X10_gatherAll_37 f_X10_gatherAll_55
  cases w with
  | none =>
    have hw' : qF r 3 = -1 := hw
    rw [hw', if_pos (by decide)]
    exact ⟨r, rfl, On25.rfl, trivial⟩
  | some i =>
    obtain ⟨h1, h2, h3, h4⟩ : qF r 3 = nI i ∧ i < N ∧ (nT r i = 0 ∨ nT r i = 3) ∧ qI r 15 i = 0 := hw
    obtain ⟨r1, M, m1, m2, m3, m4⟩ := r_mark hN h2
    rw [h1, if_neg (nI_pos (by omega)), m1, Option.bind_some]
    exact ⟨r1, rfl, m2, M, m4, m3⟩
set_option maxHeartbeats 1000000 in
theorem both_gather {q r : QS} {κ S T N I G O : Nat} {P0 P1 P2 : Nat → Prop} (hS : SOk r S) (hT : SimT q r S T) (hN : SimN q r S T N) (hQ : SimQ q r N I G O) (hp0 : PlanOk q 0 P0 N) (hrc0 : Rch r (fun k => qF q 9 = nI k ∧ k < N) P0 N) (hp : Pl q r N I P1 P2) (hC : SimC κ q) (hT1 : 1 ≤ T) : ∃ mc ms cap q' r' z, f_gather mc ms q = some (z, q') ∧ Cost q cap mc ms ∧ RunC q q' ∧ KC r N q q' ∧ qF q' 12 = nI cap ∧ qC q' = cap ∧ 16 ≤ cap ∧ cap ≤ 2000 ∧ FR r r' ∧
    ((∃ C cr, z = nI C ∧ f_X10_gatherAll r = some (1, r') ∧ Rc q' r' S T N I C cap cr P1 P2 ∧ Cx q' r' S T N C cr ∧ qF r' 9 = nI C) ∨ (z = 2001 ∧ f_X10_gatherAll r = some (0, r'))) := by
  have h64 := prd_64 hT (Nat.le_refl T)
  obtain ⟨q1, cap, c1, c2, c3, c4, c5, c6, c7, c8, c9, c10⟩ := room (m := min (prd r T) 2000) hC (Nat.min_le_right _ _)
  have run1 : RunC q q1 := ⟨fun k _ a _ _ _ b => c7 k a b, fun k _ a => c8 k a, fun k _ a _ => c9 k a⟩
  have kc1 : KC r N q q1 := KC.of (c7 7 (by decide) (by decide)) (c8 8 (by decide))
  obtain ⟨w, hw⟩ := wn_of hQ
  obtain ⟨r1, g1, g2, g3⟩ := r_gAll (q := q) (I := I) (G := G) (O := O) hT hN hw hT1
  have hp1 : PlanOk q1 0 P0 N := hp0.keep (c7 17 (by decide) (by decide)) (c9 3 (by decide))
  have hrc1 : Rch r (fun k => qF q1 9 = nI k ∧ k < N) P0 N := by rw [c9 9 (by decide)]; exact hrc0
  have hp1' : Pl q1 r N I P1 P2 := hp.keep (fun k hk => c7 k (by omega) (by omega)) (fun k hk => c9 k (by omega))
  have hcap : cap = 2000 ∨ nch r T 0 * nch r T 1 * nch r T 2 ≤ cap := by
    have := nch_prd hT
    rcases Nat.lt_or_ge (prd r T) 2000 with h | h
    · rw [Nat.min_eq_left (by omega)] at c4
      exact Or.inr (by omega)
    · rw [Nat.min_eq_right (by omega)] at c4
      exact Or.inl (by omega)
  have eg : f_gather (mrf_c q (nI (min (prd r T) 2000))) (mrf_s q (nI (min (prd r T) 2000))) q = f_X6_gather_21 FU q1 0 0 := by
    unfold f_gather f_X6_gather_0
    rw [c_product hT, Option.bind_some, show f_J9_min_7cf53 (nI (prd r T)) (2000 : Int32) = some (nI (min (prd r T) 2000)) from min_ok (b := 2000) (by omega) (by decide), Option.bind_some]
    refine (if_pos ⟨Nat.le_refl _, Nat.le_refl _⟩).trans ?_
    rw [c1, Option.bind_some]
    rfl
  have n40 := nch40 hT
  rcases g0_loop hS (run1.T hS hT) (run1.N hS kc1 hN) (run1.Q hQ) hw hp1 hrc1 g3 g2.evr.same (by rw [g2.2.2.1]) c2 c3 c5 hcap hT1 FU q1 r1 0 0 (fun _ _ => 0) OnGq.rfl KC.rfl OnGr.rfl (fun c h => by omega) (Nat.zero_le _) (Nat.zero_le _) (by show nch r T 0 - 0 < 100000; have := n40 0; omega) (Nat.zero_le _) with ⟨q', r', n', cr', a1, a2, a3, a4, a5, a6, a7⟩ | ⟨q', r', a1, a2, a3, a4, a5⟩
  · have fr : FR r (uF r' 9 (nI n')) := (g2.fr.trans a5.fr).trans ⟨fun _ _ => ⟨Eq.refl _, Eq.refl _⟩, fun k a _ => by rw [qF_uF, if_neg a]⟩
    have run2 := run1.trans a3.run
    have kc2 := kc1.trans a4
    have hT' : SimT q' (uF r' 9 (nI n')) S T := fr.T hS (run2.T hS hT)
    have hN' : SimN q' (uF r' 9 (nI n')) S T N := fr.N hS (run2.N hS kc2 hN)
    have etR := fr.same.fs.2.2.2.2.2.1
    refine ⟨_, _, cap, q', uF r' 9 (nI n'), nI n', eg.trans a1, c10, run2, kc2, by rw [a3.2.2.1]; exact c2, by rw [a3.2.2.2]; exact c3, c6, c5, fr, Or.inl ⟨n', cr', rfl, g1.trans a2, ⟨fr.S hS, hT', hN', fr.pl (hp1'.keep (fun k hk => a3.1 k (by omega) (by omega) (by omega)) (fun k hk => by rw [a3.2.2.1])), fun c hc => ?_, fun c hc t ht => ?_, a7, c5, by rw [a3.2.2.1]; exact c2, by rw [a3.2.2.2]; exact c3⟩, ⟨fr.S hS, hT', hN', by omega, fun c hc t ht => ?_, fun c hc t ht => ?_⟩, rfl⟩⟩
    · obtain ⟨b1, b2, b3⟩ := a6 c hc
      exact ⟨b1, fun t ht => by have := b3 t ht; have := n40 t; omega⟩
    · rw [etR]
      exact nch_tR ht ((a6 c hc).2.2 t (by have := hT.1; omega))
    · obtain ⟨b1, b2, b3⟩ := a6 c hc
      show f_X10_rowOf (qI r' 30 c) (nI t) = _
      rw [b2, r_rowOf (by have := b3 0 (by decide); have := n40 0; omega) (by have := b3 1 (by decide); have := n40 1; omega) (by have := b3 2 (by decide); have := n40 2; omega) t ht, cr3 t ht]
    · rw [etR]
      exact nch_tR ht ((a6 c hc).2.2 t (by have := hT.1; omega))
  · exact ⟨_, _, cap, q', r', 2001, eg.trans a1, c10, run1.trans a3.run, kc1.trans a4, by rw [a3.2.2.1]; exact c2, by rw [a3.2.2.2]; exact c3, c6, c5, g2.fr.trans a5.fr, Or.inr ⟨rfl, g1.trans a2⟩⟩
