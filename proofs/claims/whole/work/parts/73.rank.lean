/-! the rows' values, and which rows differ: the class -/
theorem plc (a b : Nat) : f_X5_placeOf (nI a) (nI b) = some (nI (a * 8 + b)) := by
  unfold f_X5_placeOf f_X5_placeOf_0
  rw [nI_lit8, nI_add]
theorem plc0 (a b : Nat) : f_X0_placeOf (nI a) (nI b) = some (nI (a * 8 + b)) := by
  unfold f_X0_placeOf f_X0_placeOf_0
  rw [nI_lit8, nI_add]
theorem wr_loop {S T N I G O C cap R : Nat} {r : QS} {cr : Nat → Nat → Nat} {P1 P2 : Nat → Prop} {g : Nat → List Nat} {K : QS → Int32 → Option (Int32 × QS)} (hRc : R ≤ cap) (hl : ∀ ρ, ρ < R → (∀ x, x ∈ g ρ → x < C) ∧ (g ρ).length ≤ C) (hemp : ∀ ρ, ρ < R → g ρ = [] → ∀ k, k < N → P2 k → nK r k ≠ 4) (fu : Nat) : ∀ (q : QS) (row : Nat), Rc q r S T N I C cap cr P1 P2 → SimQ q r N I G O → (∀ ρ, ρ < R → Chain (qI q 51) (qI q 52 ρ) (g ρ)) → row ≤ R → R - row < fu → (∀ ρ j, ρ < row → j < I → VC q 4 (ρ * 8 + j) (val r cr (g ρ) (itn r j)) ∧ Ty (nT r (itn r j)) (val r cr (g ρ) (itn r j))) → ∃ q', f_X9_run_86 K fu q (nI R) (nI row) = K q' (nI R) ∧ OnW q q' ∧ KC r N q q' ∧ ∀ ρ j, ρ < R → j < I → VC q' 4 (ρ * 8 + j) (val r cr (g ρ) (itn r j)) ∧ Ty (nT r (itn r j)) (val r cr (g ρ) (itn r j)) := by
  induction fu with
  | zero => intro q row _ _ _ _ h; omega
  | succ fu ih =>
    intro q row hR hQ hch hrow hf hd
    obtain ⟨hCc, hc2, h12, hqC⟩ := hR.facts
    have hI8 := hQ.1
    rw [f_X9_run_86, f_X9_run_86_b]
    by_cases he : row = R
    · subst he
      rw [if_pos (nI_le (Nat.le_refl _) (by omega))]
      exact ⟨q, rfl, OnW.rfl, KC.rfl, hd⟩
    · have hrR : row < R := by omega
      obtain ⟨q1, a1, a2, a3, a4, a5, a6⟩ := c_row hR hQ (show row < cap by omega) (hch row hrR) (hl row hrR).1 (by have := (hl row hrR).2; omega) (hemp row hrR)
      rw [if_neg (nI_ge hrR (by omega)), a1, Option.bind_some, nI_1]
      obtain ⟨q', b1, b2, b3, b4⟩ := ih q1 (row + 1) (hR.w a2 a3) (a2.run.Q hQ) (fun ρ hρ => by rw [a2.1 51 (by decide) (by decide) (by decide), a2.1 52 (by decide) (by decide) (by decide)]; exact hch ρ hρ) (by omega) (by omega) (fun ρ j hρ hj => by
        by_cases e : ρ = row
        · subst e; exact ⟨a4 j hj, a6 j hj⟩
        · exact ⟨a5 _ _ (by omega) (hd ρ j (by omega) hj).1, (hd ρ j (by omega) hj).2⟩)
      exact ⟨q', b1, a2.trans b2, a3.trans b3, b4⟩
def HV (q : QS) (R I cap : Nat) (ty : Nat → Nat) (x : Nat → Nat → Vl) : Prop := qC q = cap ∧ qF q 12 = nI cap ∧ qF q 6 = nI I ∧ R ≤ cap ∧ cap ≤ 2000 ∧ I ≤ 8 ∧ ∀ ρ j, ρ < R → j < I → VC q 4 (ρ * 8 + j) (x ρ j) ∧ Ty (ty j) (x ρ j)
def LikeR (I : Nat) (x : Nat → Nat → Vl) (ρ ρ' : Nat) : Prop := ∀ j, j < I → x ρ j = x ρ' j
def OnRk (q q' : QS) : Prop := (∀ k, (k < 54 ∨ 57 < k) → qI q' k = qI q k) ∧ qL q' = qL q ∧ qF q' = qF q ∧ qC q' = qC q
theorem OnRk.rfl {q : QS} : OnRk q q := ⟨fun _ _ => Eq.refl _, Eq.refl _, Eq.refl _, Eq.refl _⟩
theorem OnRk.trans {q q1 q2 : QS} (h : OnRk q q1) (g : OnRk q1 q2) : OnRk q q2 := ⟨fun k a => (g.1 k a).trans (h.1 k a), g.2.1.trans h.2.1, g.2.2.1.trans h.2.2.1, g.2.2.2.trans h.2.2.2⟩
theorem OnRk.run {q q' : QS} (h : OnRk q q') : RunC q q' := ⟨fun k _ _ _ _ _ a => h.1 k (by omega), fun k _ _ => by rw [h.2.1], fun k _ _ _ => by rw [h.2.2.1]⟩
theorem OnRk.kc {r q q' : QS} {N : Nat} (h : OnRk q q') : KC r N q q' := KC.of (h.1 7 (by decide)) (by rw [h.2.1])
theorem OnRk.i {q : QS} {k j : Nat} {x : Int32} (h : 54 ≤ k) (h2 : k ≤ 57) : OnRk q (uI q k j x) := ⟨fun z hz => by rw [qI_uI, if_neg (by omega)], Eq.refl _, Eq.refl _, Eq.refl _⟩
theorem HV.rk {q q' : QS} {R I cap : Nat} {ty : Nat → Nat} {x : Nat → Nat → Vl} (o : OnRk q q') (h : HV q R I cap ty x) : HV q' R I cap ty x := by
  obtain ⟨h1, h2, h3, h4, h5, h6, h7⟩ := h
  exact ⟨by rw [o.2.2.2]; exact h1, by rw [o.2.2.1]; exact h2, by rw [o.2.2.1]; exact h3, h4, h5, h6, fun ρ j a b => ⟨VC_congr (v := 4) (o.1 13 (by decide)) (by rw [o.2.1]) (h7 ρ j a b).1, (h7 ρ j a b).2⟩⟩
theorem HV.v4 {q : QS} {R I cap : Nat} {ty : Nat → Nat} {x : Nat → Nat → Vl} (h : HV q R I cap ty x) : vN q 4 = cap * 8 := by
  show qC q * 8 = _
  rw [h.1]
theorem alr_loop {q : QS} {R I cap ρ ρ' : Nat} {ty : Nat → Nat} {x : Nat → Nat → Vl} (h : HV q R I cap ty x) (hρ : ρ < R) (hρ' : ρ' < R) (fu : Nat) : ∀ j, j ≤ I → I - j < fu → (∀ j', j' < j → x ρ j' = x ρ' j') → (LikeR I x ρ ρ' → f_X6_areLikeRows_2 q fu (nI ρ) (nI ρ') (nI j) = some 1) ∧ (¬ LikeR I x ρ ρ' → f_X6_areLikeRows_2 q fu (nI ρ) (nI ρ') (nI j) = some 0) := by
  have v4 := h.v4
  obtain ⟨h1, h2, h3, h4, h5, h6, h7⟩ := h
  induction fu with
  | zero => intro j _ h; omega
  | succ fu ih =>
    intro j hj hf hd
    rw [f_X6_areLikeRows_2, f_X6_areLikeRows_2_b, h3]
    by_cases he : j = I
    · subst he
      rw [if_pos (nI_le (Nat.le_refl _) (by omega))]
      exact ⟨fun _ => rfl, fun z => absurd hd z⟩
    · have hjI : j < I := by omega
      rw [if_neg (nI_ge hjI (by omega)), plc, Option.bind_some, plc, Option.bind_some]
      obtain ⟨a1, a2⟩ := h7 ρ j hρ hjI
      obtain ⟨b1, b2⟩ := h7 ρ' j hρ' hjI
      obtain ⟨l1, l2⟩ := f_areLike a1 b1 a2.1 b2.1 (by rw [v4]; omega) (by rw [v4]; omega) (by rw [v4]; omega)
      by_cases e : x ρ j = x ρ' j
      · rw [l1 e, Option.bind_some, if_neg i1, nI_1]
        exact ih (j + 1) (by omega) (by omega) (fun j' hj' => by
          by_cases ee : j' = j
          · rw [ee]; exact e
          · exact hd j' (by omega))
      · rw [l2 e, Option.bind_some, if_pos rfl]
        exact ⟨fun z => absurd (z j hjI) e, fun _ => rfl⟩
def hro (x : Nat → Nat → Vl) (ρ : Nat) : Nat → Int64
  | 0 => 0
  | j + 1 => hsh (hro x ρ j) (x ρ j)
theorem hro_like {I : Nat} {x : Nat → Nat → Vl} {ρ ρ' : Nat} (h : LikeR I x ρ ρ') : ∀ j, j ≤ I → hro x ρ j = hro x ρ' j := by
  intro j
  induction j with
  | zero => intro _; rfl
  | succ j ih => intro hj; show hsh (hro x ρ j) (x ρ j) = hsh (hro x ρ' j) (x ρ' j); rw [ih (by omega), h j (by omega)]
theorem hr_loop {q : QS} {R I cap ρ : Nat} {ty : Nat → Nat} {x : Nat → Nat → Vl} (h : HV q R I cap ty x) (hρ : ρ < R) (fu : Nat) : ∀ j, j ≤ I → I - j < fu → f_X6_hashOfRow_5 q fu (nI ρ) (hro x ρ j) (nI j) = some (hro x ρ I) := by
  have v4 := h.v4
  obtain ⟨h1, h2, h3, h4, h5, h6, h7⟩ := h
  induction fu with
  | zero => intro j _ h; omega
  | succ fu ih =>
    intro j hj hf
    rw [f_X6_hashOfRow_5, f_X6_hashOfRow_5_b, h3]
    by_cases he : j = I
    · subst he
      rw [if_pos (nI_le (Nat.le_refl _) (by omega))]
    · have hjI : j < I := by omega
      obtain ⟨a1, a2⟩ := h7 ρ j hρ hjI
      rw [if_neg (nI_ge hjI (by omega)), plc, Option.bind_some, f_hash a1 a2.1 _ (by rw [v4]; omega) (by rw [v4]; omega), Option.bind_some, nI_1]
      exact ih (j + 1) (by omega) (by omega)
theorem c_hashR {q : QS} {R I cap ρ : Nat} {ty : Nat → Nat} {x : Nat → Nat → Vl} (h : HV q R I cap ty x) (hρ : ρ < R) : f_X6_hashOfRow q (nI ρ) = some (hro x ρ I) := hr_loop h hρ FU 0 (Nat.zero_le _) (by have := h.2.2.2.2.2.1; show I - 0 < 100000; omega)
theorem nr_loop {q : QS} {R I cap ρ : Nat} {b : Int32} {ty : Nat → Nat} {x : Nat → Nat → Vl} (h : HV q R I cap ty x) (hρ : ρ < R) : ∀ (l : List Nat) (fu i : Nat) (y : Int32), Chain (qI q 57) y l → (∀ ρ', ρ' ∈ l → ρ' < R) → i + l.length ≤ cap → l.length < fu → ((∃ ρ', ρ' ∈ l ∧ LikeR I x ρ ρ') → f_X6_isNewRow_26 fu q (nI ρ) b y (nI i) = some (0, q)) ∧ (¬ (∃ ρ', ρ' ∈ l ∧ LikeR I x ρ ρ') → f_X6_isNewRow_26 fu q (nI ρ) b y (nI i) = (f_X5_putInBucket q (nI ρ) b).bind fun r8 => some (1, r8)) := by
  obtain ⟨h1, h2, h3, h4, h5, h6, h7⟩ := id h
  intro l
  induction l with
  | nil =>
    intro fu i y hch hl hi hfu
    cases fu with
    | zero => simp at hfu
    | succ fu =>
      rw [f_X6_isNewRow_26, f_X6_isNewRow_26_b, show y = -1 from hch]
      refine ⟨(fun ⟨ρ', z, _⟩ => by cases z), fun _ => ?_⟩
      split
      · rfl
      · rw [if_pos rfl]
  | cons a l ih =>
    intro fu i y hch hl hi hfu
    cases fu with
    | zero => simp at hfu
    | succ fu =>
      simp only [List.length_cons] at hi hfu
      have haR := hl a (List.mem_cons_self ..)
      rw [f_X6_isNewRow_26, f_X6_isNewRow_26_b, h2, if_neg (nI_ge (by omega) (by omega)), hch.1, if_neg (nI_neg (by omega))]
      obtain ⟨l1, l2⟩ := alr_loop h hρ haR FU 0 (Nat.zero_le _) (by show I - 0 < 100000; omega) (fun j h => by omega)
      by_cases hq : LikeR I x ρ a
      · rw [show f_X6_areLikeRows q (nI ρ) (nI a) = some 1 from l1 hq, Option.bind_some, if_neg i1]
        exact ⟨fun _ => rfl, fun z => absurd ⟨a, List.mem_cons_self .., hq⟩ z⟩
      · rw [show f_X6_areLikeRows q (nI ρ) (nI a) = some 0 from l2 hq, Option.bind_some, if_pos rfl, h1, rd_nI (show a < cap by omega) (by omega), Option.bind_some, nI_1]
        obtain ⟨z1, z2⟩ := ih fu (i + 1) (qI q 57 a) hch.2 (fun ρ' z => hl ρ' (List.mem_cons_of_mem _ z)) (by omega) (by omega)
        refine ⟨fun ⟨ρ', y1, y2⟩ => ?_, fun z => z2 (fun ⟨ρ', y1, y2⟩ => z ⟨ρ', List.mem_cons_of_mem _ y1, y2⟩)⟩
        rcases List.mem_cons.mp y1 with e | e
        · rw [e] at y2; exact absurd y2 hq
        · exact z1 ⟨ρ', e, y2⟩
theorem c_new {q : QS} {R I cap ρ : Nat} {ty : Nat → Nat} {x : Nat → Nat → Vl} {P : Nat → Prop} (h : HV q R I cap ty x) (hρ : ρ < R) (h0 : 0 < cap) (hB : BI q cap ρ (fun ρ' => bkN cap (hro x ρ' I)) P) : ((∃ ρ', ρ' < ρ ∧ P ρ' ∧ LikeR I x ρ ρ') → f_X6_isNewRow q (nI ρ) = some (0, q)) ∧ (¬ (∃ ρ', ρ' < ρ ∧ P ρ' ∧ LikeR I x ρ ρ') → ∃ q', f_X6_isNewRow q (nI ρ) = some (1, q') ∧ OnRk q q' ∧ qI q' 54 = qI q 54 ∧ ∀ P' : Nat → Prop, (∀ ρ', ρ' < ρ → (P' ρ' ↔ P ρ')) → P' ρ → BI q' cap (ρ + 1) (fun ρ' => bkN cap (hro x ρ' I)) P') := by
  obtain ⟨h1, h2, h3, h4, h5, h6, h7⟩ := id h
  obtain ⟨hb, hbo⟩ := bk_ok (q := q) (hro x ρ I) h0 h5 h2
  obtain ⟨l, l1, l2, l3⟩ := hB _ hb
  obtain ⟨n1, n2⟩ := nr_loop (b := nI (bkN cap (hro x ρ I))) h hρ l FU 0 _ l1 (fun ρ' z => by have := ((l3 ρ').mp z).1; omega) (by omega) (by show l.length < 100000; omega)
  have hex : (∃ ρ', ρ' ∈ l ∧ LikeR I x ρ ρ') ↔ ∃ ρ', ρ' < ρ ∧ P ρ' ∧ LikeR I x ρ ρ' := by
    constructor
    · intro ⟨ρ', a, b⟩
      obtain ⟨c1, c2, c3⟩ := (l3 ρ').mp a
      exact ⟨ρ', c1, c2, b⟩
    · intro ⟨ρ', a, b, c⟩
      refine ⟨ρ', (l3 ρ').mpr ⟨a, b, ?_⟩, c⟩
      show bkN cap (hro x ρ' I) = _
      rw [hro_like c I (Nat.le_refl _)]
  unfold f_X6_isNewRow f_X6_isNewRow_0
  rw [c_hashR h hρ, Option.bind_some, hbo, Option.bind_some, h1, rd_nI hb (by omega), Option.bind_some]
  refine ⟨fun z => n1 (hex.mpr z), fun z => ?_⟩
  obtain ⟨q', a1, a2, a3, a4, a5, a6⟩ := c_putB (q := q) (R := ρ) h1 h5 (show ρ < cap by omega) hb hB
  have e := n2 (fun y => z (hex.mp y))
  rw [a1, Option.bind_some] at e
  exact ⟨q', e, ⟨fun k hk => a2 k (by omega) (by omega), a3, a4, a5⟩, a2 54 (by decide) (by decide), fun P' p1 p2 => a6 _ _ (fun _ _ => rfl) rfl p1 p2⟩
