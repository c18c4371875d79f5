/-! the reference compares -/
/-- what comparing may change in the reference -/
def EvC (r r' : QS) : Prop := (∀ k, (k ≤ 16 ∨ (26 ≤ k ∧ k ≤ 33) ∨ 38 ≤ k) → qI r' k = qI r k ∧ qL r' k = qL r k) ∧ qF r' = qF r ∧ qC r' = qC r
theorem EvC.rfl {r : QS} : EvC r r := ⟨fun _ _ => ⟨Eq.refl _, Eq.refl _⟩, Eq.refl _, Eq.refl _⟩
theorem EvC.trans {r r1 r2 : QS} (h : EvC r r1) (g : EvC r1 r2) : EvC r r2 := ⟨fun k a => ⟨((g.1 k a).1).trans (h.1 k a).1, ((g.1 k a).2).trans (h.1 k a).2⟩, g.2.1.trans h.2.1, g.2.2.trans h.2.2⟩
theorem EvR.c {r r' : QS} (h : EvR r r') : EvC r r' := ⟨fun k a => h.1 k (by omega), h.2.1, h.2.2⟩
theorem EvC.same {r r' : QS} (h : EvC r r') : SameB r r' := fun k hk => h.1 k (Or.inl hk)
/-- the value that was taken -/
def TK (r : QS) (a : Nat) (x : Vl) : Prop := qI r 34 a = (if vk x = 0 then 1 else 0) ∧ qL r 35 a = vn x ∧ qI r 36 a = nI (vl x) ∧ ∀ j, j < 4 → qL r 37 (4 * a + j) = vw x j
theorem tkw_loop {i a : Nat} {x : Vl} (hi : i < 200) (ha : a < 2) (fu : Nat) : ∀ (r : QS) (t : Nat), t ≤ 4 → 4 - t < fu → (∀ s, s < 4 → qL r 20 (4 * i + s) = vw x s) → (∀ s, s < t → qL r 37 (4 * a + s) = vw x s) → ∃ r', f_X10_take_38 fu r (nI i) (nI a) (nI t) = some r' ∧ qI r' = qI r ∧ (∀ k, k ≠ 37 → qL r' k = qL r k) ∧ qF r' = qF r ∧ qC r' = qC r ∧ (∀ j, j / 4 ≠ a → qL r' 37 j = qL r 37 j) ∧ ∀ s, s < 4 → qL r' 37 (4 * a + s) = vw x s := by
  induction fu with
  | zero => intro r t _ h; omega
  | succ fu ih =>
    intro r t ht hf hS hd
    rw [f_X10_take_38, f_X10_take_38_b]
    by_cases he : t = 4
    · subst he
      rw [if_pos (show (4 : Int32) ≤ nI 4 from nI_le (a := 4) (Nat.le_refl _) (by decide))]
      exact ⟨r, rfl, rfl, fun _ _ => rfl, rfl, rfl, fun _ _ => rfl, hd⟩
    · rw [if_neg (show ¬ (4 : Int32) ≤ nI t from nI_ge (b := 4) (by omega) (by decide)), lit4_nI, lit4_nI, nI_add, nI_add, rd_nI (by omega) (by decide), Option.bind_some, hS t (by omega), wL_nI (by omega) (by decide), Option.bind_some, nI_1]
      obtain ⟨r', h1, h2, h3, h4, h5, h6, h7⟩ := ih (uL r 37 (4 * a + t) (vw x t)) (t + 1) (by omega) (by omega) (fun s hs => by rw [qL_uL, if_neg (by decide)]; exact hS s hs) (fun s hs => by
          rw [qL_uL, if_pos rfl, updL_at]
          by_cases e3 : s = t
          · rw [if_pos (by omega), e3]
          · rw [if_neg (by omega)]; exact hd s (by omega))
      exact ⟨r', h1, h2, fun k hk => by rw [h3 k hk, qL_uL, if_neg hk], h4, h5, fun j hj => by rw [h6 j hj, qL_uL, if_pos rfl, updL_at, if_neg (by omega)], h7⟩
theorem r_take {r : QS} {i a : Nat} {x : Vl} (hi : i < 200) (ha : a < 2) (hx : VR r i x) : ∃ r', f_X10_take r (nI i) (nI a) = some r' ∧ EvC r r' ∧ TK r' a x ∧ ∀ b y, b ≠ a → TK r b y → TK r' b y := by
  unfold f_X10_take f_X10_take_0
  have hnb : vp_nar .boolean (if vk x = 0 then (1 : Int32) else 0) = if vk x = 0 then 1 else 0 := by split <;> rfl
  rw [rd_nI hi (by decide), Option.bind_some, hx.1, hnb, wI_nI ha (by decide), Option.bind_some, rd_nI hi (by decide), Option.bind_some, qL_uI, hx.2.1, wL_nI ha (by decide), Option.bind_some, rd_nI hi (by decide), Option.bind_some, qI_uL, qI_uI, if_neg (show ¬ 19 = 34 by decide), hx.2.2.1, wI_nI ha (by decide), Option.bind_some]
  obtain ⟨r', h1, h2, h3, h4, h5, h6, h7⟩ := tkw_loop (x := x) hi ha FU (uI (uL (uI r 34 a (if vk x = 0 then 1 else 0)) 35 a (vn x)) 36 a (nI (vl x))) 0 (Nat.zero_le _) (by show 4 - 0 < 100000; omega) (fun s hs => by rw [qL_uI, qL_uL, if_neg (by decide), qL_uI]; exact hx.2.2.2 s hs) (fun s hs => by omega)
  have e34 : qI r' 34 = upd (qI r 34) a (if vk x = 0 then 1 else 0) := by rw [h2]; rfl
  have e36 : qI r' 36 = upd (qI r 36) a (nI (vl x)) := by rw [h2]; rfl
  have e35 : qL r' 35 = vp_updL (qL r 35) a (vn x) := by rw [h3 35 (by decide)]; rfl
  have e37 : ∀ j, j / 4 ≠ a → qL r' 37 j = qL r 37 j := fun j hj => by rw [h6 j hj]; rfl
  refine ⟨r', h1, ⟨fun k hk => ⟨?_, ?_⟩, by rw [h4]; rfl, by rw [h5]; rfl⟩, ⟨by rw [e34, upd_at, if_pos rfl], by rw [e35, updL_at, if_pos rfl], by rw [e36, upd_at, if_pos rfl], h7⟩, fun b y hb hy => ?_⟩
  · rw [h2, qI_uI, if_neg (by omega), qI_uL, qI_uI, if_neg (by omega)]
  · rw [h3 k (by omega), qL_uI, qL_uL, if_neg (by omega), qL_uI]
  · obtain ⟨y1, y2, y3, y4⟩ := hy
    exact ⟨by rw [e34, upd_at, if_neg hb]; exact y1, by rw [e35, updL_at, if_neg hb]; exact y2, by rw [e36, upd_at, if_neg hb]; exact y3, fun j hj => by rw [e37 _ (by omega)]; exact y4 j hj⟩
theorem TK.ev {r r' : QS} {a : Nat} {x : Vl} (h : EvR r r') (hx : TK r a x) : TK r' a x := by
  unfold TK at hx ⊢
  rw [(h.1 34 (by decide)).1, (h.1 36 (by decide)).1, (h.1 35 (by decide)).2, (h.1 37 (by decide)).2]
  exact hx
theorem oc_loop {r : QS} {x y : Vl} {o : Int32} {K : QS → Int32 → Option (Int32 × QS)} (hx : TK r 0 x) (hy : TK r 1 y) (fu : Nat) : ∀ t, t ≤ 4 → 4 - t < fu → f_X10_compare_96 K fu r (ow o (vw x) (vw y) t) (nI t) = K r (ow o (vw x) (vw y) 4) := by
  induction fu with
  | zero => intro t _ h; omega
  | succ fu ih =>
    intro t ht hf
    rw [f_X10_compare_96, f_X10_compare_96_b]
    by_cases he : t = 4
    · subst he
      rw [if_pos (show (4 : Int32) ≤ nI 4 from nI_le (a := 4) (Nat.le_refl _) (by decide))]
    · rw [if_neg (show ¬ (4 : Int32) ≤ nI t from nI_ge (b := 4) (by omega) (by decide))]
      by_cases hz : ow o (vw x) (vw y) t = 0
      · have hx4 := hx.2.2.2 t (by omega)
        have hy4 := hy.2.2.2 t (by omega)
        rw [show 4 * 0 + t = t by omega] at hx4
        rw [show 4 * 1 + t = 4 + t by omega] at hy4
        rw [if_pos hz, show (4 : Int32) + nI t = nI (4 + t) from nI_add 4 t, rd_nI (by omega) (by decide), Option.bind_some, rd_nI (by omega) (by decide), Option.bind_some, hx4, hy4, f_sign, Option.bind_some, nI_1]
        have e : ow o (vw x) (vw y) (t + 1) = wcmp (vw x t) (vw y t) := by rw [ow, if_pos hz]
        have h := ih (t + 1) (by omega) (by omega)
        rw [e] at h
        exact h
      · rw [if_neg hz]
        have e := ow_stay hz (4 - t)
        rw [show t + (4 - t) = 4 by omega] at e
        rw [e]
theorem r_cmp {r r7 : QS} {x y : Vl} (hx : TK r7 0 x) (hy : TK r7 1 y) (lx : vl x < 2 ^ 31) (ly : vl y < 2 ^ 31) : ((rd (qI r7 34) 2 (0 : Int32)).bind fun y9 => if y9 = 0 then (rd (qI r7 34) 2 (1 : Int32)).bind fun y20 => if y20 = 0 then (rd (qL r7 35) 2 (0 : Int32)).bind fun y23 => (rd (qL r7 35) 2 (1 : Int32)).bind fun y25 => (f_X10_sign y23 y25).bind fun r27 => f_X10_compare_96 (f_X10_compare_142) FU r7 r27 (0 : Int32) else f_X10_compare_42 r7 else f_X10_compare_42 r7) = some (ocmp x y, r7) := by
  have d0 : rd (qI r7 34) 2 (0 : Int32) = some (if vk x = 0 then 1 else 0) := by rw [show (0 : Int32) = nI 0 from rfl, rd_nI (by decide) (by decide), hx.1]; rfl
  have d1 : rd (qI r7 34) 2 (1 : Int32) = some (if vk y = 0 then 1 else 0) := by rw [show (1 : Int32) = nI 1 from rfl, rd_nI (by decide) (by decide), hy.1]; rfl
  have d2 : rd (qL r7 35) 2 (0 : Int32) = some (vn x) := by rw [show (0 : Int32) = nI 0 from rfl, rd_nI (by decide) (by decide), hx.2.1]
  have d3 : rd (qL r7 35) 2 (1 : Int32) = some (vn y) := by rw [show (1 : Int32) = nI 1 from rfl, rd_nI (by decide) (by decide), hy.2.1]
  have d4 : rd (qI r7 36) 2 (0 : Int32) = some (nI (vl x)) := by rw [show (0 : Int32) = nI 0 from rfl, rd_nI (by decide) (by decide), hx.2.2.1]
  have d5 : rd (qI r7 36) 2 (1 : Int32) = some (nI (vl y)) := by rw [show (1 : Int32) = nI 1 from rfl, rd_nI (by decide) (by decide), hy.2.2.1]
  unfold f_X10_compare_42 ocmp
  rw [d0, d1, d2, d3]
  simp only [Option.bind_some]
  by_cases x0 : vk x = 0
  · rw [if_pos x0, if_neg i1, if_pos (Or.inl x0), if_pos x0]
    by_cases y0 : vk y = 0
    · rw [if_pos y0, if_pos rfl, if_pos y0]
    · rw [if_neg y0, if_neg i1, if_neg i1, if_neg y0]
  · rw [if_neg x0, if_pos rfl]
    by_cases y0 : vk y = 0
    · rw [if_pos y0, if_neg i1, if_neg (by decide), if_pos rfl, if_pos (Or.inr y0), if_neg x0]
    · rw [if_neg y0, if_pos rfl, f_sign, Option.bind_some, if_neg (fun z => z.elim x0 y0)]
      have h := oc_loop (o := lg_cmp (vn x) (vn y)) (K := f_X10_compare_142) hx hy FU 0 (Nat.zero_le _) (by show 4 - 0 < 100000; omega)
      refine Eq.trans h ?_
      unfold f_X10_compare_142 rcmp
      by_cases hz : ow (lg_cmp (vn x) (vn y)) (vw x) (vw y) 4 = 0
      · rw [if_pos hz, if_pos hz, d4, Option.bind_some, d5, Option.bind_some, nI_l64 lx, nI_l64 ly, f_sign, Option.bind_some]
      · rw [if_neg hz, if_neg hz]
/-- the context of the reference goes over -/
theorem SameB.t {q r r' : QS} {S T : Nat} (hS : SOk r S) (h : SameB r r') (h1 : qF r' 1 = qF r 1) (hT : SimT q r S T) : SimT q r' S T := hT.congr hS (h.s.to S) h1 rfl (h 7 (by decide)).1 (h 8 (by decide)).1 (h 9 (by decide)).1 (h 10 (by decide)).1 rfl rfl rfl rfl rfl
theorem SameB.sn {r r' : QS} (h : SameB r r') : SameN r r' := ⟨(h 7 (by decide)).1, (h 8 (by decide)).1, (h 11 (by decide)).1, (h 12 (by decide)).1, (h 13 (by decide)).1, (h 14 (by decide)).1, (h 15 (by decide)).1, (h 16 (by decide)).1⟩
theorem SameB.n {q r r' : QS} {S T N : Nat} (hS : SOk r S) (h : SameB r r') (h2 : qF r' 2 = qF r 2) (hN : SimN q r S T N) : SimN q r' S T N := hN.congr hS (h.s.to S) h.sn h2 rfl (fun _ _ _ => rfl) rfl rfl
/-- all that a value is worked out from -/
def Cx (q r : QS) (S T N C : Nat) (cr : Nat → Nat → Nat) : Prop := SOk r S ∧ SimT q r S T ∧ SimN q r S T N ∧ CbOk r T C cr
theorem Cx.evc {q r r' : QS} {S T N C : Nat} {cr : Nat → Nat → Nat} (h : EvC r r') (hc : Cx q r S T N C cr) : Cx q r' S T N C cr := by
  obtain ⟨h1, h2, h3, h4⟩ := hc
  refine ⟨same_SOk h.same.s h1, h.same.t h1 (by rw [h.2.1]) h2, h.same.n h1 (by rw [h.2.1]) h3, h4.1, fun c hc t ht => ?_, fun c hc t ht => ?_⟩
  · rw [(h.1 30 (by decide)).1]; exact h4.2.1 c hc t ht
  · rw [h.same.fs.2.2.2.2.2.1]; exact h4.2.2 c hc t ht
/-- a list of combinations, by its first -/
def Lk (r : QS) (C : Nat) (x : Int32) (l : List Nat) : Prop := Chain (qI r 31) x l ∧ (∀ y, y ∈ l → y < C) ∧ l.length ≤ 2000
/-- no column outside an aggregate, where there is no combination -/
def Emp (r : QS) (N i : Nat) (l : List Nat) : Prop := l = [] → ∀ P, Rch r (fun k => k = i) P N → ∀ k, k < N → P k → nK r k ≠ 4
theorem Emp.same {r r' : QS} {N i : Nat} {l : List Nat} (h : SameB r r') (he : Emp r N i l) : Emp r' N i l := by
  obtain ⟨a1, a2, a3, -⟩ := h.fs
  unfold Emp Rch prs at he ⊢
  rw [a1, a2, a3]; exact he
theorem Lk.evc {r r' : QS} {C : Nat} {x : Int32} {l : List Nat} (h : EvC r r') (hl : Lk r C x l) : Lk r' C x l := by
  unfold Lk at hl ⊢
  rw [(h.1 31 (by decide)).1]; exact hl
theorem r_compare {q r : QS} {S T N C i : Nat} {cr : Nat → Nat → Nat} {l l' : List Nat} {x y : Int32} (hc : Cx q r S T N C cr) (hi : i < N) (hx : Lk r C x l) (hy : Lk r C y l') (ex : Emp r N i l) (ey : Emp r N i l') : ∃ r', f_X10_compare r (nI i) x y = some (ocmp (val r cr l i) (val r cr l' i), r') ∧ EvC r r' ∧ Ty (nT r i) (val r cr l i) ∧ Ty (nT r i) (val r cr l' i) := by
  obtain ⟨hS, hT, hN, hC⟩ := id hc
  have h200 := hN.1
  unfold f_X10_compare f_X10_compare_0
  obtain ⟨r1, a1, a2, a3, a4⟩ := r_eval hS hT hN hi hC hx.1 hx.2.1 hx.2.2 ex
  obtain ⟨r2, b1, b2, b3, -⟩ := r_take (a := 0) (show i < 200 by omega) (by decide) a3
  have b1' : f_X10_take r1 (nI i) 0 = some r2 := b1
  rw [a1, Option.bind_some, b1', Option.bind_some]
  have hc2 := hc.evc (a2.c.trans b2)
  obtain ⟨hS2, hT2, hN2, hC2⟩ := id hc2
  have hy2 := hy.evc (a2.c.trans b2)
  obtain ⟨r3, c1, c2, c3, c4⟩ := r_eval hS2 hT2 hN2 hi hC2 hy2.1 hy2.2.1 hy2.2.2 (ey.same (a2.c.trans b2).same)
  rw [(a2.c.trans b2).same.eVal] at c3 c4
  rw [(a2.c.trans b2).same.fs.2.2.2.1] at c4
  obtain ⟨r4, d1, d2, d3, d4⟩ := r_take (a := 1) (show i < 200 by omega) (by decide) c3
  have d1' : f_X10_take r3 (nI i) 1 = some r4 := d1
  rw [c1, Option.bind_some, d1', Option.bind_some]
  have t0 : TK r4 0 (val r cr l i) := d4 0 _ (by decide) (b3.ev c2)
  exact ⟨r4, r_cmp (r := r) t0 d3 (by have := vl31 a4.1; omega) (by have := vl31 c4.1; omega), ((a2.c.trans b2).trans c2.c).trans d2, a4, c4⟩
