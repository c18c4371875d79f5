/-! rows of combinations, on both sides -/
theorem ns20 {n : Nat} (h : n < 2001) : vp_nar .short ((nI n).toInt16.toInt32) = nI n := by
  rw [vp_nar_short]
  have : ∀ n, n < 2001 → ((nI n).toInt16.toInt32).toInt16.toInt32 = nI n := by decide +kernel
  exact this n h
def RI (nx fi la : Nat → Int32) (C R : Nat) (g : Nat → List Nat) : Prop := R ≤ C ∧ ∀ ρ, ρ < R → ∃ i y, g ρ = i ++ [y] ∧ Chain nx (fi ρ) (g ρ) ∧ la ρ = nI y ∧ (∀ x, x ∈ g ρ → x < C) ∧ (∀ x, x ∈ i → x ≠ y) ∧ (g ρ).length ≤ C ∧ ∀ ρ', ρ' < R → ρ' ≠ ρ → ∀ x, x ∈ g ρ → x ∉ g ρ'
theorem RI.new {nx fi la : Nat → Int32} {C R : Nat} {g : Nat → List Nat} (h : RI nx fi la C R g) : RI (upd nx C (-1)) (upd fi R (nI C)) (upd la R (nI C)) (C + 1) (R + 1) (fun ρ => if ρ = R then [C] else g ρ) := by
  obtain ⟨h1, h2⟩ := h
  refine ⟨by omega, fun ρ hρ => ?_⟩
  by_cases e : ρ = R
  · subst e
    simp only [if_pos]
    refine ⟨[], C, rfl, ⟨by rw [upd_at, if_pos rfl], by rw [upd_at, if_pos rfl]; rfl⟩, by rw [upd_at, if_pos rfl], fun x hx => ?_, (fun x hx => by cases hx), by simp only [List.length_cons, List.length_nil]; omega, fun ρ' a b x hx hx' => ?_⟩
    · rw [List.mem_singleton] at hx; omega
    · rw [List.mem_singleton] at hx
      rw [if_neg b] at hx'
      obtain ⟨-, -, -, -, -, z, -⟩ := h2 ρ' (by omega)
      have := z x hx'; omega
  · simp only [if_neg e]
    obtain ⟨i, y, a1, a2, a3, a4, a5, a6, a7⟩ := h2 ρ (by omega)
    refine ⟨i, y, a1, ?_, by rw [upd_at, if_neg e]; exact a3, fun x hx => by have := a4 x hx; omega, a5, by omega, fun ρ' b c x hx hx' => ?_⟩
    · rw [upd_at, if_neg e]
      exact a2.cg (fun x hx => by rw [upd_at, if_neg (by have := a4 x hx; omega)])
    · by_cases e2 : ρ' = R
      · rw [if_pos e2, List.mem_singleton] at hx'
        have := a4 x hx; omega
      · rw [if_neg e2] at hx'
        exact a7 ρ' (by omega) c x hx hx'
theorem RI.ext {nx fi la : Nat → Int32} {C R ρ0 y0 : Nat} {g : Nat → List Nat} (h : RI nx fi la C R g) (h0 : ρ0 < R) (hy : la ρ0 = nI y0) (hy2 : y0 < 2 ^ 31) (hC : C ≤ 2000) : y0 < C ∧ RI (upd (upd nx C (-1)) y0 (nI C)) fi (upd la ρ0 (nI C)) (C + 1) R (fun ρ => if ρ = ρ0 then g ρ ++ [C] else g ρ) := by
  obtain ⟨h1, h2⟩ := h
  obtain ⟨i0, yy, b1, b2, b3, b4, b5, b6, b7⟩ := h2 ρ0 h0
  have hyy : yy < C := b4 yy (by rw [b1]; exact List.mem_append_right _ (List.mem_singleton.mpr rfl))
  have ey : yy = y0 := nI_inj (by omega) hy2 (by rw [← b3, hy])
  subst ey
  refine ⟨hyy, by omega, fun ρ hρ => ?_⟩
  by_cases e : ρ = ρ0
  · subst e
    simp only [if_pos]
    refine ⟨g ρ, C, rfl, ?_, by rw [upd_at, if_pos rfl], fun x hx => ?_, fun x hx => by have := b4 x hx; omega, by rw [List.length_append]; simp only [List.length_cons, List.length_nil]; omega, fun ρ' a b x hx hx' => ?_⟩
    · rw [b1] at b2 ⊢
      refine b2.app (by rw [upd_at, if_pos rfl]) (by rw [upd_at, if_neg (by omega), upd_at, if_pos rfl]) (fun x hx => ?_)
      have hxC := b4 x (by rw [b1]; exact List.mem_append_left _ hx)
      rw [upd_at, if_neg (b5 x hx), upd_at, if_neg (by omega)]
    · rw [List.mem_append, List.mem_singleton] at hx
      rcases hx with hx | hx
      · have := b4 x hx; omega
      · omega
    · rw [if_neg b] at hx'
      rw [List.mem_append, List.mem_singleton] at hx
      rcases hx with hx | hx
      · exact b7 ρ' a b x hx hx'
      · obtain ⟨-, -, -, -, -, z, -⟩ := h2 ρ' a
        have := z x hx'; omega
  · simp only [if_neg e]
    obtain ⟨i, y, a1, a2, a3, a4, a5, a6, a7⟩ := h2 ρ hρ
    refine ⟨i, y, a1, ?_, by rw [upd_at, if_neg e]; exact a3, fun x hx => by have := a4 x hx; omega, a5, by omega, fun ρ' b c x hx hx' => ?_⟩
    · refine a2.cg (fun x hx => ?_)
      have hxC := a4 x hx
      have hne : x ≠ yy := fun z => a7 ρ0 h0 (fun z' => e z'.symm) x hx (by rw [z, b1]; exact List.mem_append_right _ (List.mem_singleton.mpr rfl))
      rw [upd_at, if_neg hne, upd_at, if_neg (by omega)]
    · by_cases e2 : ρ' = ρ0
      · rw [if_pos e2, List.mem_append, List.mem_singleton] at hx'
        rcases hx' with hx' | hx'
        · exact a7 ρ' b c x hx hx'
        · have := a4 x hx; omega
      · rw [if_neg e2] at hx'
        exact a7 ρ' b c x hx hx'
/-- a row's first combination -/
def fst0 (g : Nat → List Nat) (ρ : Nat) : Nat := (g ρ).headD 0
theorem RI.first {nx fi la : Nat → Int32} {C R ρ : Nat} {g : Nat → List Nat} (h : RI nx fi la C R g) (hρ : ρ < R) : ∃ l, g ρ = fst0 g ρ :: l ∧ fi ρ = nI (fst0 g ρ) ∧ fst0 g ρ < C := by
  obtain ⟨i, y, a1, a2, a3, a4, a5, a6, a7⟩ := h.2 ρ hρ
  cases hg : g ρ with
  | nil => rw [hg] at a1; cases i <;> cases a1
  | cons x l =>
    have e : fst0 g ρ = x := by unfold fst0; rw [hg]; rfl
    rw [e]
    rw [hg] at a2 a4
    exact ⟨l, rfl, a2.1, a4 x (List.mem_cons_self ..)⟩
/-! the frames -/
def OnRw (r r' : QS) : Prop := (∀ k, (k ≤ 16 ∨ (26 ≤ k ∧ k ≤ 30) ∨ 38 ≤ k) → qI r' k = qI r k ∧ qL r' k = qL r k) ∧ (∀ k, k ≠ 10 → qF r' k = qF r k) ∧ qC r' = qC r
theorem OnRw.rfl {r : QS} : OnRw r r := ⟨fun _ _ => ⟨Eq.refl _, Eq.refl _⟩, fun _ _ => Eq.refl _, Eq.refl _⟩
theorem OnRw.trans {r r1 r2 : QS} (h : OnRw r r1) (g : OnRw r1 r2) : OnRw r r2 := ⟨fun k a => ⟨((g.1 k a).1).trans (h.1 k a).1, ((g.1 k a).2).trans (h.1 k a).2⟩, fun k a => (g.2.1 k a).trans (h.2.1 k a), g.2.2.trans h.2.2⟩
theorem EvC.rw {r r' : QS} (h : EvC r r') : OnRw r r' := ⟨fun k a => h.1 k (by omega), fun k _ => by rw [h.2.1], h.2.2⟩
theorem OnRw.same {r r' : QS} (h : OnRw r r') : SameB r r' := fun k hk => h.1 k (Or.inl hk)
theorem OnRw.i {r : QS} {k j : Nat} {x : Int32} (h : k = 31 ∨ k = 32 ∨ k = 33) : OnRw r (uI r k j x) := ⟨fun z hz => ⟨by rw [qI_uI, if_neg (by omega)], Eq.refl _⟩, fun _ _ => Eq.refl _, Eq.refl _⟩
theorem OnRw.f {r : QS} {x : Int32} : OnRw r (uF r 10 x) := ⟨fun _ _ => ⟨Eq.refl _, Eq.refl _⟩, fun k hk => by rw [qF_uF, if_neg hk], Eq.refl _⟩
theorem Cx.rw {q r r' : QS} {S T N C : Nat} {cr : Nat → Nat → Nat} (h : OnRw r r') (hc : Cx q r S T N C cr) : Cx q r' S T N C cr := by
  obtain ⟨h1, h2, h3, h4⟩ := hc
  refine ⟨same_SOk h.same.s h1, h.same.t h1 (h.2.1 1 (by decide)) h2, h.same.n h1 (h.2.1 2 (by decide)) h3, h4.1, fun c hc t ht => ?_, fun c hc t ht => ?_⟩
  · rw [(h.1 30 (by decide)).1]; exact h4.2.1 c hc t ht
  · rw [h.same.fs.2.2.2.2.2.1]; exact h4.2.2 c hc t ht
theorem OnRw.Q {q r r' : QS} {N I G O : Nat} (h : OnRw r r') (hQ : SimQ q r N I G O) : SimQ q r' N I G O := hQ.congr h.same.sn (fun k _ _ => h.2.1 k (by omega)) (fun _ _ _ => Eq.refl _) (fun k h1 h2 => (h.1 k (by omega)).1) (fun _ _ _ => Eq.refl _)
def OnRq (q q' : QS) : Prop := (∀ k, (k < 51 ∨ 57 < k) → qI q' k = qI q k) ∧ qL q' = qL q ∧ qF q' = qF q ∧ qC q' = qC q
theorem OnRq.rfl {q : QS} : OnRq q q := ⟨fun _ _ => Eq.refl _, Eq.refl _, Eq.refl _, Eq.refl _⟩
theorem OnRq.trans {q q1 q2 : QS} (h : OnRq q q1) (g : OnRq q1 q2) : OnRq q q2 := ⟨fun k a => (g.1 k a).trans (h.1 k a), g.2.1.trans h.2.1, g.2.2.1.trans h.2.2.1, g.2.2.2.trans h.2.2.2⟩
theorem OnRq.run {q q' : QS} (h : OnRq q q') : RunC q q' := ⟨fun k _ _ _ _ _ a => h.1 k (by omega), fun k _ _ => by rw [h.2.1], fun k _ _ _ => by rw [h.2.2.1]⟩
theorem OnRq.kc {r q q' : QS} {N : Nat} (h : OnRq q q') : KC r N q q' := KC.of (h.1 7 (by decide)) (by rw [h.2.1])
theorem Rc.rq {q q' r : QS} {S T N I C cap : Nat} {cr : Nat → Nat → Nat} {P1 P2 : Nat → Prop} (h : OnRq q q') (hr : Rc q r S T N I C cap cr P1 P2) : Rc q' r S T N I C cap cr P1 P2 := by
  obtain ⟨a1, a2, a3, a4, a5, a6, a7, a8, a9, a10⟩ := hr
  exact ⟨a1, h.run.T a1 a2, h.run.N a1 h.kc a3, a4.keep (fun k hk => h.1 k (by omega)) (fun k _ => by rw [h.2.2.1]), fun c hc => by rw [h.1 50 (by decide)]; exact a5 c hc, a6, a7, a8, by rw [h.2.2.1]; exact a9, by rw [h.2.2.2]; exact a10⟩
/-! the class's steps -/
theorem c_startRow {q : QS} {cap R c : Nat} (hqC : qC q = cap) (hc : cap ≤ 2000) (hR : R < cap) (hcc : c < cap) : ∃ q', f_X5_startRow q (nI R) (nI c) = some q' ∧ OnRq q q' ∧ qI q' 51 = upd (qI q 51) c (-1) ∧ qI q' 52 = upd (qI q 52) R (nI c) ∧ qI q' 53 = upd (qI q 53) R (nI c) ∧ (∀ k, k ≠ 51 → k ≠ 52 → k ≠ 53 → qI q' k = qI q k) := by
  unfold f_X5_startRow f_X5_startRow_0
  rw [hqC, wI_nI hR (by omega), Option.bind_some, show qC (uI q 52 R (nI c)) = cap from hqC, wI_nI hR (by omega), Option.bind_some, if_neg (nI_neg (by omega)), show qC (uI (uI q 52 R (nI c)) 53 R (nI c)) = cap from hqC, wI_nI hcc (by omega), Option.bind_some]
  refine ⟨_, rfl, ⟨fun k hk => ?_, rfl, rfl, rfl⟩, rfl, rfl, rfl, fun k h1 h2 h3 => ?_⟩
  · rw [qI_uI, if_neg (by omega), qI_uI, if_neg (by omega), qI_uI, if_neg (by omega)]
  · rw [qI_uI, if_neg h1, qI_uI, if_neg h3, qI_uI, if_neg h2]
theorem c_extRow {q : QS} {cap ρ c y : Nat} (hqC : qC q = cap) (hc : cap ≤ 2000) (hρ : ρ < cap) (hcc : c < cap) (hy : y < cap) (hla : qI q 53 ρ = nI y) : ∃ q', f_X5_extendRow q (nI ρ) (nI c) = some q' ∧ OnRq q q' ∧ qI q' 51 = upd (upd (qI q 51) c (-1)) y (nI c) ∧ qI q' 52 = qI q 52 ∧ qI q' 53 = upd (qI q 53) ρ (nI c) ∧ (∀ k, k ≠ 51 → k ≠ 52 → k ≠ 53 → qI q' k = qI q k) := by
  unfold f_X5_extendRow f_X5_extendRow_0
  rw [hqC, wI_nI hcc (by omega), Option.bind_some, show qC (uI q 51 c (-1)) = cap from hqC, rd_nI hρ (by omega), Option.bind_some, show qI (uI q 51 c (-1)) 53 ρ = nI y from hla, wI_nI hy (by omega), Option.bind_some, show qC (uI (uI q 51 c (-1)) 51 y (nI c)) = cap from hqC, wI_nI hρ (by omega), Option.bind_some]
  refine ⟨_, rfl, ⟨fun k hk => ?_, rfl, rfl, rfl⟩, rfl, rfl, rfl, fun k h1 h2 h3 => ?_⟩
  · rw [qI_uI, if_neg (by omega), qI_uI, if_neg (by omega), qI_uI, if_neg (by omega)]
  · rw [qI_uI, if_neg h3, qI_uI, if_neg h1, qI_uI, if_neg h1]
theorem fg_loop {S T N I G O C cap R c : Nat} {q r : QS} {cr : Nat → Nat → Nat} {P1 P2 : Nat → Prop} {f : Nat → Nat} (hR : Rc q r S T N I C cap cr P1 P2) (hQ : SimQ q r N I G O) (hc : c < C) (hRc : R ≤ cap) (hf : ∀ ρ, ρ < R → qI q 52 ρ = nI (f ρ) ∧ f ρ < C) : ∀ (l : List Nat) (fu i : Nat) (y : Int32), Chain (qI q 57) y l → (∀ ρ, ρ ∈ l → ρ < R) → i + l.length ≤ cap → l.length < fu → ∃ z, f_X6_findGroup_13 q fu (nI c) y (nI i) = some z ∧ ((z = -1 ∧ ∀ ρ, ρ ∈ l → ¬ Like r cr G (f ρ) c) ∨ ∃ ρ, ρ ∈ l ∧ z = nI ρ ∧ Like r cr G (f ρ) c) := by
  obtain ⟨hS, hT, hN, hPl, hCC, hrv, hCc, hc2, h12, hqC⟩ := id hR
  intro l
  induction l with
  | nil =>
    intro fu i y hch hl hi hfu
    cases fu with
    | zero => simp at hfu
    | succ fu =>
      rw [f_X6_findGroup_13, f_X6_findGroup_13_b, show y = -1 from hch]
      refine ⟨-1, ?_, Or.inl ⟨rfl, fun ρ h => by cases h⟩⟩
      split
      · rfl
      · rw [if_pos rfl]
  | cons x l ih =>
    intro fu i y hch hl hi hfu
    cases fu with
    | zero => simp at hfu
    | succ fu =>
      simp only [List.length_cons] at hi hfu
      have hxR := hl x (List.mem_cons_self ..)
      obtain ⟨f1, f2⟩ := hf x hxR
      rw [f_X6_findGroup_13, f_X6_findGroup_13_b, h12, if_neg (nI_ge (by omega) (by omega)), hch.1, if_neg (nI_neg (by omega)), hqC, rd_nI (show x < cap by omega) (by omega), Option.bind_some, f1]
      obtain ⟨l1, l2⟩ := c_one hR hQ f2 hc
      by_cases hq : Like r cr G (f x) c
      · rw [l1 hq, Option.bind_some, if_neg i1]
        exact ⟨nI x, rfl, Or.inr ⟨x, List.mem_cons_self .., rfl, hq⟩⟩
      · rw [l2 hq, Option.bind_some, if_pos rfl, rd_nI (show x < cap by omega) (by omega), Option.bind_some, nI_1]
        obtain ⟨z, z1, z2⟩ := ih fu (i + 1) (qI q 57 x) hch.2 (fun ρ h => hl ρ (List.mem_cons_of_mem _ h)) (by omega) (by omega)
        refine ⟨z, z1, ?_⟩
        rcases z2 with ⟨z3, z4⟩ | ⟨ρ, z3, z4, z5⟩
        · refine Or.inl ⟨z3, fun ρ h => ?_⟩
          rcases List.mem_cons.mp h with e | e
          · rw [e]; exact hq
          · exact z4 ρ e
        · exact Or.inr ⟨ρ, List.mem_cons_of_mem _ z3, z4, z5⟩
theorem c_find {S T N I G O C cap R c : Nat} {q r : QS} {cr : Nat → Nat → Nat} {P1 P2 : Nat → Prop} {f : Nat → Nat} (hR : Rc q r S T N I C cap cr P1 P2) (hQ : SimQ q r N I G O) (hc : c < C) (hRc : R ≤ cap) (hf : ∀ ρ, ρ < R → qI q 52 ρ = nI (f ρ) ∧ f ρ < C) (h0 : 0 < cap) (hB : BI q cap R (fun ρ => bkN cap (hgr r cr (f ρ) G)) (fun _ => True)) : ∃ z, f_X6_findGroup q (nI c) (nI (bkN cap (hgr r cr c G))) = some z ∧ ((z = -1 ∧ ∀ ρ, ρ < R → ¬ Like r cr G (f ρ) c) ∨ ∃ ρ, ρ < R ∧ z = nI ρ ∧ Like r cr G (f ρ) c) := by
  obtain ⟨hS, hT, hN, hPl, hCC, hrv, hCc, hc2, h12, hqC⟩ := id hR
  have hb := (bk_ok (q := q) (hgr r cr c G) h0 hc2 h12).1
  obtain ⟨l, l1, l2, l3⟩ := hB _ hb
  unfold f_X6_findGroup f_X6_findGroup_0
  rw [hqC, rd_nI hb (by omega), Option.bind_some]
  obtain ⟨z, z1, z2⟩ := fg_loop hR hQ hc hRc hf l FU 0 _ l1 (fun ρ h => ((l3 ρ).mp h).1) (by omega) (by show l.length < 100000; omega)
  refine ⟨z, z1, ?_⟩
  rcases z2 with ⟨z3, z4⟩ | ⟨ρ, z3, z4, z5⟩
  · refine Or.inl ⟨z3, fun ρ h hl => ?_⟩
    refine z4 ρ ((l3 ρ).mpr ⟨h, trivial, ?_⟩) hl
    show bkN cap (hgr r cr (f ρ) G) = _
    rw [hgr_like hl G (Nat.le_refl _)]
  · exact Or.inr ⟨ρ, ((l3 ρ).mp z3).1, z4, z5⟩
