/-! the reference's search, and both sides' rows in lockstep -/
theorem rs_loop {q0 r0 : QS} {S T N I G O C R c : Nat} {cr : Nat → Nat → Nat} {g : Nat → List Nat} {K : QS → Int32 → Int32 → Int32 → Option QS} (hQ : SimQ q0 r0 N I G O) (hc0 : Cx q0 r0 S T N C cr) (hR : R ≤ 2000) (hF : qF r0 10 = nI R) (hg : ∀ ρ, ρ < R → ∃ l, g ρ = fst0 g ρ :: l ∧ qI r0 32 ρ = nI (fst0 g ρ) ∧ Lk r0 C (nI (fst0 g ρ)) (g ρ)) (hcl : Lk r0 C (nI c) [c]) (fu : Nat) : ∀ (r : QS) (p : Nat), EvC r0 r → p ≤ R → R - p + 1 < fu → (∀ ρ, ρ < p → ¬ Like r0 cr G (fst0 g ρ) c) → ∃ r' z, f_X10_makeRows_32 K fu r 1 (nI c) (-1) (nI p) = K r' 1 (nI c) z ∧ EvC r r' ∧ ((z = -1 ∧ ∀ ρ, ρ < R → ¬ Like r0 cr G (fst0 g ρ) c) ∨ ∃ ρ, ρ < R ∧ z = nI ρ ∧ Like r0 cr G (fst0 g ρ) c) := by
  induction fu with
  | zero => intro r p _ _ h; omega
  | succ fu ih =>
    intro r p he hp hf hd
    rw [f_X10_makeRows_32, f_X10_makeRows_32_b, he.2.1, hF]
    by_cases hpe : p = R
    · subst hpe
      rw [if_pos (nI_le (Nat.le_refl _) (by omega))]
      exact ⟨r, -1, rfl, EvC.rfl, Or.inl ⟨rfl, hd⟩⟩
    · obtain ⟨l, g1, g2, g3⟩ := hg p (by omega)
      rw [if_neg (nI_ge (by omega) (by omega)), if_neg i1, if_neg (by decide), rd_nI (by omega) (by decide), Option.bind_some, (he.1 32 (by decide)).1, g2]
      have hl1 : Lk r C (nI (fst0 g p)) (fst0 g p :: l) := by rw [← g1]; exact g3.evc he
      obtain ⟨r2, z', a1, a2, a3, a4⟩ := r_isLike (OnRw.Q he.rw hQ) (hc0.evc he) hl1 (hcl.evc he)
      have eL : Like r cr G (fst0 g p) c ↔ Like r0 cr G (fst0 g p) c := by
        unfold Like Kv gn
        obtain ⟨b1, b2, b3, b4, b5, b6, b7⟩ := he.same.fs
        rw [b2, b3, b5, b7, (he.1 27 (by decide)).1]
      rw [a1, Option.bind_some]
      unfold f_X10_makeRows_70
      rw [nI_1]
      by_cases hq : Like r0 cr G (fst0 g p) c
      · rw [a3 (eL.mpr hq), if_neg (show ¬ ((1 : Int32), r2).1 = 0 from i1)]
        refine ⟨r2, nI p, ?_, a2, Or.inr ⟨p, by omega, rfl, hq⟩⟩
        obtain ⟨fu, rfl⟩ : ∃ k, fu = k + 1 := ⟨fu - 1, by omega⟩
        rw [f_X10_makeRows_32, f_X10_makeRows_32_b]
        rw [if_neg i1, if_pos (show (0 : Int32) ≤ nI p from nI_le (a := 0) (Nat.zero_le _) (by omega))]
        split <;> rfl
      · rw [a4 (fun z => hq (eL.mp z)), if_pos (show ((0 : Int32), r2).1 = 0 from rfl)]
        obtain ⟨r', z, b1, b2, b3⟩ := ih r2 (p + 1) (he.trans a2) (by omega) (by omega) (fun ρ hρ => by
          by_cases e : ρ = p
          · rw [e]; exact hq
          · exact hd ρ (by omega))
        exact ⟨r', z, b1, a2.trans b2, b3⟩
theorem Like.same {r r' : QS} {cr : Nat → Nat → Nat} {G c c' : Nat} (h : SameB r r') (h27 : qI r' 27 = qI r 27) : Like r' cr G c c' ↔ Like r cr G c c' := by
  unfold Like Kv gn
  obtain ⟨b1, b2, b3, b4, b5, b6, b7⟩ := h.fs
  rw [b2, b3, b5, b7, h27]
/-- writing behind the search -/
theorem r_newRow {r : QS} {R c : Nat} {x1 : Int32} {B : QS → Int32 → Int32 → Option QS} (hR : R < 2000) (hc : c < 2000) (hF : qF r 10 = nI R) : ∃ r', f_X10_makeRows_77 B r x1 (nI c) (-1) = B r' x1 (nI (c + 1)) ∧ OnRw r r' ∧ qI r' 31 = qI r 31 ∧ qI r' 32 = upd (qI r 32) R (nI c) ∧ qI r' 33 = upd (qI r 33) R (nI c) ∧ qF r' 10 = nI (R + 1) := by
  unfold f_X10_makeRows_77 f_X10_makeRows_137
  rw [if_neg (by decide), ns20 (by omega), hF, wI_nI hR (by decide), Option.bind_some, show qF (uI r 32 R (nI c)) 10 = nI R from hF, wI_nI hR (by decide), Option.bind_some, show qF (uI (uI r 32 R (nI c)) 33 R (nI c)) 10 = nI R from hF, nI_1, nI_1]
  exact ⟨_, rfl, ((OnRw.i (by decide)).trans (OnRw.i (by decide))).trans OnRw.f, rfl, rfl, rfl, rfl⟩
theorem r_extRow {r : QS} {ρ y c : Nat} {x1 : Int32} {B : QS → Int32 → Int32 → Option QS} (hρ : ρ < 2000) (hc : c < 2000) (hy : y < 2000) (hla : qI r 33 ρ = nI y) : ∃ r', f_X10_makeRows_77 B r x1 (nI c) (nI ρ) = B r' x1 (nI (c + 1)) ∧ OnRw r r' ∧ qI r' 31 = upd (qI r 31) y (nI c) ∧ qI r' 32 = qI r 32 ∧ qI r' 33 = upd (qI r 33) ρ (nI c) ∧ qF r' 10 = qF r 10 := by
  unfold f_X10_makeRows_77 f_X10_makeRows_137
  rw [if_pos (show (0 : Int32) ≤ nI ρ from nI_le (a := 0) (Nat.zero_le _) (by omega)), ns20 (by omega), rd_nI hρ (by decide), Option.bind_some, hla, wI_nI hy (by decide), Option.bind_some, wI_nI hρ (by decide), Option.bind_some, nI_1]
  exact ⟨_, rfl, (OnRw.i (by decide)).trans (OnRw.i (by decide)), rfl, rfl, rfl, rfl⟩
/-- the reference's rows so far -/
def RRi (r : QS) (C R : Nat) (g : Nat → List Nat) : Prop := RI (qI r 31) (qI r 32) (qI r 33) C R g ∧ qF r 10 = nI R
/-- the class's rows so far -/
def QRi (q : QS) (C R : Nat) (g : Nat → List Nat) : Prop := RI (qI q 51) (qI q 52) (qI q 53) C R g
theorem RI.last {nx fi la : Nat → Int32} {C R ρ : Nat} {g : Nat → List Nat} (h : RI nx fi la C R g) (hρ : ρ < R) : ∃ y, la ρ = nI y ∧ y < C := by
  obtain ⟨i, y, a1, a2, a3, a4, -⟩ := h.2 ρ hρ
  exact ⟨y, a3, a4 y (by rw [a1]; exact List.mem_append_right _ (List.mem_singleton.mpr rfl))⟩
/-- one combination more in the reference, where rows are searched -/
theorem r_rstep {q0 r : QS} {S T N I G O C R c fu : Nat} {cr : Nat → Nat → Nat} {g : Nat → List Nat} {K : QS → Int32 → Option QS} (hQ : SimQ q0 r N I G O) (hc0 : Cx q0 r S T N C cr) (hF9 : qF r 9 = nI C) (hc : c < C) (hr : RRi r c R g) :
    (∃ r', f_X10_makeRows_12 K (fu + 1) r 1 (nI c) = f_X10_makeRows_12 K fu r' 1 (nI (c + 1)) ∧ OnRw r r' ∧ RRi r' (c + 1) (R + 1) (fun ρ => if ρ = R then [c] else g ρ) ∧ ∀ ρ, ρ < R → ¬ Like r cr G (fst0 g ρ) c) ∨
    ∃ r' ρ0, f_X10_makeRows_12 K (fu + 1) r 1 (nI c) = f_X10_makeRows_12 K fu r' 1 (nI (c + 1)) ∧ OnRw r r' ∧ ρ0 < R ∧ Like r cr G (fst0 g ρ0) c ∧ RRi r' (c + 1) R (fun ρ => if ρ = ρ0 then g ρ ++ [c] else g ρ) := by
  obtain ⟨hS, hT, hN, hC⟩ := id hc0
  have hC2 := hC.1
  obtain ⟨hri, hF⟩ := hr
  have hRc := hri.1
  rw [f_X10_makeRows_12, f_X10_makeRows_12_b, hF9, if_neg (nI_ge hc (by omega)), show vp_nar .short (-1 : Int32) = -1 from rfl, wI_nI (show c < 2000 by omega) (by decide), Option.bind_some]
  have o1 : OnRw r (uI r 31 c (-1)) := OnRw.i (by decide)
  have e31 : qI (uI r 31 c (-1)) 31 = upd (qI r 31) c (-1) := rfl
  have hchn : ∀ ρ, ρ < R → Chain (upd (qI r 31) c (-1)) (qI r 32 ρ) (g ρ) := fun ρ hρ => by
    obtain ⟨-, -, -, a2, -, a4, -⟩ := hri.2 ρ hρ
    exact a2.cg (fun x hx => by rw [upd_at, if_neg (by have := a4 x hx; omega)])
  obtain ⟨r2, z, a1, a2, a3⟩ := rs_loop (g := g) (c := c) (K := f_X10_makeRows_77 (f_X10_makeRows_12 K fu)) (o1.Q hQ) (hc0.rw o1) (show R ≤ 2000 by omega) hF (fun ρ hρ => by
      obtain ⟨l, l1, l2, l3⟩ := hri.first hρ
      obtain ⟨i, y, b1, b2, b3, b4, b5, b6, b7⟩ := hri.2 ρ hρ
      refine ⟨l, l1, l2, ?_, fun x hx => by have := b4 x hx; omega, by omega⟩
      rw [← l2]; exact hchn ρ hρ) ⟨⟨rfl, by rw [e31, upd_at, if_pos rfl]; rfl⟩, (fun y hy => by rw [List.mem_singleton] at hy; omega), by simp only [List.length_cons, List.length_nil]; omega⟩ FU (uI r 31 c (-1)) 0 EvC.rfl (Nat.zero_le _) (by show R - 0 + 1 < 100000; omega) (fun ρ h => by omega)
  have a1' : f_X10_makeRows_32 (f_X10_makeRows_77 (f_X10_makeRows_12 K fu)) FU (uI r 31 c (-1)) 1 (nI c) (-1) 0 = f_X10_makeRows_77 (f_X10_makeRows_12 K fu) r2 1 (nI c) z := a1
  rw [a1']
  have eL : ∀ ρ, Like (uI r 31 c (-1)) cr G (fst0 g ρ) c ↔ Like r cr G (fst0 g ρ) c := fun ρ => Like.same o1.same (o1.1 27 (by decide)).1
  have f31 : qI r2 31 = upd (qI r 31) c (-1) := by rw [(a2.1 31 (by decide)).1]; rfl
  have f32 : qI r2 32 = qI r 32 := by rw [(a2.1 32 (by decide)).1]; rfl
  have f33 : qI r2 33 = qI r 33 := by rw [(a2.1 33 (by decide)).1]; rfl
  have f10 : qF r2 10 = nI R := by rw [a2.2.1]; exact hF
  rcases a3 with ⟨z1, z2⟩ | ⟨ρ0, z1, z2, z3⟩
  · rw [z1]
    obtain ⟨r', b1, b2, b3, b4, b5, b6⟩ := r_newRow (r := r2) (R := R) (c := c) (x1 := 1) (B := f_X10_makeRows_12 K fu) (by omega) (by omega) f10
    refine Or.inl ⟨r', b1, (o1.trans a2.rw).trans b2, ⟨?_, b6⟩, fun ρ hρ h => z2 ρ hρ ((eL ρ).mpr h)⟩
    rw [b3, b4, b5, f31, f32, f33]
    exact hri.new
  · rw [z2]
    obtain ⟨y, y1, y2⟩ := hri.last z1
    obtain ⟨r', b1, b2, b3, b4, b5, b6⟩ := r_extRow (r := r2) (ρ := ρ0) (y := y) (c := c) (x1 := 1) (B := f_X10_makeRows_12 K fu) (by omega) (by omega) (by omega) (by rw [f33]; exact y1)
    refine Or.inr ⟨r', ρ0, b1, (o1.trans a2.rw).trans b2, z1, (eL ρ0).mp z3, ⟨?_, by rw [b6]; exact f10⟩⟩
    rw [b3, b4, b5, f31, f32, f33]
    exact (hri.ext z1 y1 (by omega) (by omega)).2
/-- one combination more in the reference, each a row of its own -/
theorem r_rstep0 {r : QS} {C R c fu : Nat} {g : Nat → List Nat} {K : QS → Int32 → Option QS} (hC2 : C ≤ 2000) (hF9 : qF r 9 = nI C) (hc : c < C) (hr : RRi r c R g) : ∃ r', f_X10_makeRows_12 K (fu + 1) r 0 (nI c) = f_X10_makeRows_12 K fu r' 0 (nI (c + 1)) ∧ OnRw r r' ∧ RRi r' (c + 1) (R + 1) (fun ρ => if ρ = R then [c] else g ρ) := by
  obtain ⟨hri, hF⟩ := hr
  have hRc := hri.1
  rw [f_X10_makeRows_12, f_X10_makeRows_12_b, hF9, if_neg (nI_ge hc (by omega)), show vp_nar .short (-1 : Int32) = -1 from rfl, wI_nI (show c < 2000 by omega) (by decide), Option.bind_some]
  have h32 : f_X10_makeRows_32 (f_X10_makeRows_77 (f_X10_makeRows_12 K fu)) FU (uI r 31 c (-1)) 0 (nI c) (-1) 0 = f_X10_makeRows_77 (f_X10_makeRows_12 K fu) (uI r 31 c (-1)) 0 (nI c) (-1) := by
    rw [show FU = 99999 + 1 from rfl, f_X10_makeRows_32, f_X10_makeRows_32_b]
    split
    · rfl
    · rw [if_pos rfl]
  rw [h32]
  obtain ⟨r', b1, b2, b3, b4, b5, b6⟩ := r_newRow (r := uI r 31 c (-1)) (R := R) (c := c) (x1 := 0) (B := f_X10_makeRows_12 K fu) (by omega) (by omega) hF
  refine ⟨r', b1, (OnRw.i (by decide)).trans b2, ⟨?_, b6⟩⟩
  rw [b3, b4, b5]
  exact hri.new
theorem Rc.facts {q r : QS} {S T N I C cap : Nat} {cr : Nat → Nat → Nat} {P1 P2 : Nat → Prop} (h : Rc q r S T N I C cap cr P1 P2) : C ≤ cap ∧ cap ≤ 2000 ∧ qF q 12 = nI cap ∧ qC q = cap := h.2.2.2.2.2.2
/-- each combination a row -/
theorem each_loop {C cap : Nat} {K : QS → Int32 → Option QS} (hCc : C ≤ cap) (hc2 : cap ≤ 2000) (fu : Nat) : ∀ (q r : QS) (c : Nat) (g : Nat → List Nat), qC q = cap → qF r 9 = nI C → c ≤ C → C - c < fu → QRi q c c g → RRi r c c g → ∃ q' r' g', f_X6_makeRowForEach_2 fu q (nI C) (nI c) = some (nI C, q') ∧ f_X10_makeRows_12 K fu r 0 (nI c) = K r' 0 ∧ OnRq q q' ∧ OnRw r r' ∧ QRi q' C C g' ∧ RRi r' C C g' := by
  induction fu with
  | zero => intro q r c g _ _ _ h; omega
  | succ fu ih =>
    intro q r c g hqC hF9 hc hf hq hr
    by_cases he : c = C
    · subst he
      rw [f_X6_makeRowForEach_2, f_X6_makeRowForEach_2_b, f_X10_makeRows_12, f_X10_makeRows_12_b, hF9, if_pos (nI_le (Nat.le_refl _) (by omega)), if_pos (nI_le (Nat.le_refl _) (by omega))]
      exact ⟨q, r, g, rfl, rfl, OnRq.rfl, OnRw.rfl, hq, hr⟩
    · obtain ⟨r2, b1, b2, b3⟩ := r_rstep0 (fu := fu) (K := K) (show C ≤ 2000 by omega) hF9 (show c < C by omega) hr
      rw [b1, f_X6_makeRowForEach_2, f_X6_makeRowForEach_2_b, if_neg (nI_ge (show c < C by omega) (by omega))]
      obtain ⟨q2, a1, a2, a3, a4, a5, a6⟩ := c_startRow (q := q) (R := c) (c := c) hqC hc2 (by omega) (by omega)
      rw [a1, Option.bind_some, nI_1]
      have hq2 : QRi q2 (c + 1) (c + 1) (fun ρ => if ρ = c then [c] else g ρ) := by
        unfold QRi
        rw [a3, a4, a5]; exact RI.new hq
      obtain ⟨q', r', g', d1, d2, d3, d4, d5⟩ := ih q2 r2 (c + 1) _ (by rw [a2.2.2.2]; exact hqC) (by rw [b2.2.1 9 (by decide)]; exact hF9) (by omega) (by omega) hq2 b3
      exact ⟨q', r', g', d1, d2, a2.trans d3, b2.trans d4, d5⟩
/-- all combinations one row -/
theorem one_loop {q0 r0 : QS} {S T N I G O C cap : Nat} {cr : Nat → Nat → Nat} {K : QS → Int32 → Option QS} (hG : G = 0) (hCc : C ≤ cap) (hc2 : cap ≤ 2000) (h0 : 0 < cap) (fu : Nat) : ∀ (q r : QS) (c : Nat) (g : Nat → List Nat), SimQ q0 r N I G O → Cx q0 r S T N C cr → qC q = cap → qF r 9 = nI C → 1 ≤ c → c ≤ C → C - c < fu → QRi q c 1 g → RRi r c 1 g → ∃ q' r' g', f_X6_makeOneRow_19 (fu + 1) q (nI C) (nI c) = some (1, q') ∧ f_X10_makeRows_12 K fu r 1 (nI c) = K r' 1 ∧ OnRq q q' ∧ OnRw r r' ∧ QRi q' C 1 g' ∧ RRi r' C 1 g' := by
  induction fu with
  | zero => intro q r c g _ _ _ _ _ _ h; omega
  | succ fu ih =>
    intro q r c g hQ hcx hqC hF9 hc1 hc hf hq hr
    by_cases he : c = C
    · subst he
      rw [f_X6_makeOneRow_19, f_X6_makeOneRow_19_b, f_X10_makeRows_12, f_X10_makeRows_12_b, hF9, if_pos (nI_le (Nat.le_refl _) (by omega)), if_pos (nI_le (Nat.le_refl _) (by omega))]
      exact ⟨q, r, g, rfl, rfl, OnRq.rfl, OnRw.rfl, hq, hr⟩
    · rcases r_rstep (fu := fu) (K := K) hQ hcx hF9 (show c < C by omega) hr with ⟨r2, b1, b2, b3, b4⟩ | ⟨r2, ρ0, b1, b2, b3, b4, b5⟩
      · exact absurd (fun g' hg' => by omega) (b4 0 (by decide))
      · have hρ : ρ0 = 0 := by omega
        subst hρ
        rw [b1, f_X6_makeOneRow_19, f_X6_makeOneRow_19_b, if_neg (nI_ge (show c < C by omega) (by omega))]
        obtain ⟨y, y1, y2⟩ := RI.last hq (show 0 < 1 by decide)
        obtain ⟨q2, a1, a2, a3, a4, a5, a6⟩ := c_extRow (q := q) (ρ := 0) (c := c) (y := y) hqC hc2 h0 (by omega) (by omega) y1
        have a1' : f_X5_extendRow q 0 (nI c) = some q2 := a1
        rw [a1', Option.bind_some, nI_1]
        have hq2 : QRi q2 (c + 1) 1 (fun ρ => if ρ = 0 then g ρ ++ [c] else g ρ) := by
          unfold QRi
          rw [a3, a4, a5]; exact (RI.ext hq (by decide) y1 (by omega) (by omega)).2
        obtain ⟨q', r', g', d1, d2, d3, d4, d5⟩ := ih q2 r2 (c + 1) _ (b2.Q hQ) (hcx.rw b2) (by rw [a2.2.2.2]; exact hqC) (by rw [b2.2.1 9 (by decide)]; exact hF9) (by omega) (by omega) (by omega) hq2 b5
        exact ⟨q', r', g', d1, d2, a2.trans d3, b2.trans d4, d5⟩
theorem Like.sym {r : QS} {cr : Nat → Nat → Nat} {G c c' : Nat} (h : Like r cr G c c') : Like r cr G c' c := fun g hg => (h g hg).symm
theorem Like.tr {r : QS} {cr : Nat → Nat → Nat} {G a b c : Nat} (h : Like r cr G a b) (h' : Like r cr G b c) : Like r cr G a c := fun g hg => (h g hg).trans (h' g hg)
/-- a row for each group -/
theorem grp_loop {q0 r0 : QS} {S T N I G O C cap : Nat} {cr : Nat → Nat → Nat} {P1 P2 : Nat → Prop} {K : QS → Int32 → Option QS} (h0 : 0 < cap) (fu : Nat) : ∀ (q r : QS) (c R : Nat) (g : Nat → List Nat), OnRw r0 r → SimQ q r0 N I G O → Rc q r0 S T N I C cap cr P1 P2 → SimQ q0 r N I G O → Cx q0 r S T N C cr → qF r 9 = nI C → c ≤ C → C - c < fu → QRi q c R g → RRi r c R g → BI q cap R (fun ρ => bkN cap (hgr r0 cr (fst0 g ρ) G)) (fun _ => True) → (∀ ρ ρ', ρ < R → ρ' < R → ρ ≠ ρ' → ¬ Like r0 cr G (fst0 g ρ) (fst0 g ρ')) → ∃ q' r' g' R', f_X6_makeRowForEachGroup_11 fu q (nI C) (nI R) (nI c) = some (nI R', q') ∧ f_X10_makeRows_12 K fu r 1 (nI c) = K r' 1 ∧ OnRq q q' ∧ OnRw r r' ∧ QRi q' C R' g' ∧ RRi r' C R' g' := by
  induction fu with
  | zero => intro q r c R g _ _ _ _ _ _ _ h; omega
  | succ fu ih =>
    intro q r c R g orr hQq hRc hQr hcx hF9 hc hf hq hr hB hpw
    obtain ⟨hCc, hc2, h12, hqC⟩ := hRc.facts
    by_cases he : c = C
    · subst he
      rw [f_X6_makeRowForEachGroup_11, f_X6_makeRowForEachGroup_11_b, f_X10_makeRows_12, f_X10_makeRows_12_b, hF9, if_pos (nI_le (Nat.le_refl _) (by omega)), if_pos (nI_le (Nat.le_refl _) (by omega))]
      exact ⟨q, r, g, R, rfl, rfl, OnRq.rfl, OnRw.rfl, hq, hr⟩
    · have hcC : c < C := by omega
      have hRle := hq.1
      rw [f_X6_makeRowForEachGroup_11, f_X6_makeRowForEachGroup_11_b, if_neg (nI_ge hcC (by omega)), c_hashG hRc hQq hcC, Option.bind_some, (bk_ok (q := q) (hgr r0 cr c G) h0 hc2 h12).2, Option.bind_some]
      have hbk := (bk_ok (q := q) (hgr r0 cr c G) h0 hc2 h12).1
      have hf1 : ∀ ρ, ρ < R → qI q 52 ρ = nI (fst0 g ρ) ∧ fst0 g ρ < C := fun ρ hρ => by
        obtain ⟨l, l1, l2, l3⟩ := RI.first hq hρ
        exact ⟨l2, by omega⟩
      obtain ⟨z, z1, z2⟩ := c_find hRc hQq hcC (show R ≤ cap by omega) hf1 h0 hB
      rw [z1, Option.bind_some]
      unfold f_X6_makeRowForEachGroup_80
      rw [nI_1]
      have eL : ∀ a b, Like r cr G a b ↔ Like r0 cr G a b := fun a b => Like.same orr.same (orr.1 27 (by decide)).1
      rcases r_rstep (fu := fu) (K := K) hQr hcx hF9 hcC hr with ⟨r2, b1, b2, b3, b4⟩ | ⟨r2, ρ0, b1, b2, b3, b4, b5⟩
      · rcases z2 with ⟨z3, z4⟩ | ⟨ρ, z3, z4, z5⟩
        rotate_left
        · exact absurd ((eL _ _).mpr z5) (b4 ρ z3)
        rw [b1, z3, if_pos rfl]
        obtain ⟨q2, a1, a2, a3, a4, a5, a6⟩ := c_startRow (q := q) (R := R) (c := c) hqC hc2 (by omega) (by omega)
        rw [a1, Option.bind_some]
        have hB2 : BI q2 cap R (fun ρ => bkN cap (hgr r0 cr (fst0 g ρ) G)) (fun _ => True) := by
          unfold BI at hB ⊢
          rw [a6 56 (by decide) (by decide) (by decide), a6 57 (by decide) (by decide) (by decide)]
          exact hB
        obtain ⟨q3, d1, d2, d3, d4, d5, d6⟩ := c_putB (q := q2) (R := R) (by rw [a2.2.2.2]; exact hqC) hc2 (show R < cap by omega) hbk hB2
        rw [d1, Option.bind_some, nI_1]
        have o3 : OnRq q q3 := a2.trans ⟨fun k hk => d2 k (by omega) (by omega), d3, d4, d5⟩
        have hfst : ∀ ρ, ρ < R → fst0 (fun ρ => if ρ = R then [c] else g ρ) ρ = fst0 g ρ := fun ρ hρ => by
          show (if ρ = R then [c] else g ρ).headD 0 = (g ρ).headD 0
          rw [if_neg (by omega)]
        have hfstR : fst0 (fun ρ => if ρ = R then [c] else g ρ) R = c := by
          show (if R = R then [c] else g R).headD 0 = c
          rw [if_pos rfl]; rfl
        have hq3 : QRi q3 (c + 1) (R + 1) (fun ρ => if ρ = R then [c] else g ρ) := by
          unfold QRi
          rw [d2 51 (by decide) (by decide), d2 52 (by decide) (by decide), d2 53 (by decide) (by decide), a3, a4, a5]; exact RI.new hq
        have hB3 : BI q3 cap (R + 1) (fun ρ => bkN cap (hgr r0 cr (fst0 (fun ρ => if ρ = R then [c] else g ρ) ρ) G)) (fun _ => True) := d6 _ _ (fun ρ hρ => by rw [hfst ρ hρ]) (by rw [hfstR]) (fun ρ _ => Iff.rfl) trivial
        obtain ⟨q', r', g', R', e1, e2, e3, e4, e5⟩ := ih q3 r2 (c + 1) (R + 1) _ (orr.trans b2) (o3.run.Q hQq) (hRc.rq o3) (b2.Q hQr) (hcx.rw b2) (by rw [b2.2.1 9 (by decide)]; exact hF9) (by omega) (by omega) hq3 b3 hB3 (fun ρ ρ' h1 h2 h3 h4 => by
          by_cases x1 : ρ = R
          · have x2 : ρ' < R := by omega
            rw [x1, hfstR, hfst ρ' x2] at h4
            exact b4 ρ' x2 ((eL _ _).mpr h4.sym)
          · have x1' : ρ < R := by omega
            by_cases x2 : ρ' = R
            · rw [x2, hfstR, hfst ρ x1'] at h4
              exact b4 ρ x1' ((eL _ _).mpr h4)
            · rw [hfst ρ x1', hfst ρ' (by omega)] at h4
              exact hpw ρ ρ' x1' (by omega) h3 h4)
        exact ⟨q', r', g', R', e1, e2, o3.trans e3, b2.trans e4, e5⟩
      · have b4' := (eL _ _).mp b4
        rcases z2 with ⟨z3, z4⟩ | ⟨ρ, z3, z4, z5⟩
        · exact absurd b4' (z4 ρ0 b3)
        have hρ : ρ = ρ0 := by
          refine Classical.byContradiction (fun h => hpw ρ ρ0 z3 b3 h (z5.tr b4'.sym))
        subst hρ
        rw [b1, z4, if_neg (nI_neg (by omega))]
        obtain ⟨y, y1, y2⟩ := RI.last hq z3
        obtain ⟨q2, a1, a2, a3, a4, a5, a6⟩ := c_extRow (q := q) (ρ := ρ) (c := c) (y := y) hqC hc2 (by omega) (by omega) (by omega) y1
        rw [a1, Option.bind_some, nI_1]
        have hfst : ∀ ρ', ρ' < R → fst0 (fun ρ' => if ρ' = ρ then g ρ' ++ [c] else g ρ') ρ' = fst0 g ρ' := fun ρ' hρ' => by
          show (if ρ' = ρ then g ρ' ++ [c] else g ρ').headD 0 = (g ρ').headD 0
          by_cases e : ρ' = ρ
          · rw [if_pos e]
            obtain ⟨l, l1, -⟩ := RI.first hq hρ'
            rw [l1]; rfl
          · rw [if_neg e]
        have hq2 : QRi q2 (c + 1) R (fun ρ' => if ρ' = ρ then g ρ' ++ [c] else g ρ') := by
          unfold QRi
          rw [a3, a4, a5]; exact (RI.ext hq z3 y1 (by omega) (by omega)).2
        have hB2 : BI q2 cap R (fun ρ' => bkN cap (hgr r0 cr (fst0 (fun ρ' => if ρ' = ρ then g ρ' ++ [c] else g ρ') ρ') G)) (fun _ => True) := fun b hb => by
          rw [a6 56 (by decide) (by decide) (by decide), a6 57 (by decide) (by decide) (by decide)]
          obtain ⟨l, l1, l2, l3⟩ := hB b hb
          refine ⟨l, l1, l2, fun ρ' => ?_⟩
          rw [l3 ρ']
          constructor
          · intro ⟨x1, x2, x3⟩
            exact ⟨x1, x2, Eq.trans (congrArg (fun z => bkN cap (hgr r0 cr z G)) (hfst ρ' x1)) x3⟩
          · intro ⟨x1, x2, x3⟩
            exact ⟨x1, x2, Eq.trans (congrArg (fun z => bkN cap (hgr r0 cr z G)) (hfst ρ' x1)).symm x3⟩
        obtain ⟨q', r', g', R', e1, e2, e3, e4, e5⟩ := ih q2 r2 (c + 1) R _ (orr.trans b2) (a2.run.Q hQq) (hRc.rq a2) (b2.Q hQr) (hcx.rw b2) (by rw [b2.2.1 9 (by decide)]; exact hF9) (by omega) (by omega) hq2 b5 hB2 (fun ρ1 ρ2 h1 h2 h3 h4 => by
          rw [hfst ρ1 h1, hfst ρ2 h2] at h4
          exact hpw ρ1 ρ2 h1 h2 h3 h4)
        exact ⟨q', r', g', R', e1, e2, a2.trans e3, b2.trans e4, e5⟩
