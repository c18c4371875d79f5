/-! the two sides' states, side by side -/
/-- the steps up to S are the same -/
def SameTo (S : Nat) (r r' : QS) : Prop := ∀ s, s ≤ S → qI r' 1 s = qI r 1 s ∧ qI r' 3 s = qI r 3 s ∧ qI r' 4 s = qI r 4 s ∧ qI r' 5 s = qI r 5 s ∧ qL r' 2 s = qL r 2 s
theorem SameS.to {r r' : QS} (h : SameS r r') (S : Nat) : SameTo S r r' := fun s _ => ⟨by rw [h.1], by rw [h.2.1], by rw [h.2.2.1], by rw [h.2.2.2.1], by rw [h.2.2.2.2]⟩
theorem to_sK {S : Nat} {r r' : QS} (h : SameTo S r r') {s : Nat} (hs : s ≤ S) : sK r' s = sK r s := by unfold sK; rw [(h s hs).1]
theorem to_sL {S : Nat} {r r' : QS} (h : SameTo S r r') {s : Nat} (hs : s ≤ S) : sL r' s = sL r s := by unfold sL; rw [(h s hs).2.2.2.1]
theorem to_sB {S : Nat} {r r' : QS} (h : SameTo S r r') {s : Nat} (hs : s ≤ S) : sB r' s = sB r s := by unfold sB; rw [(h s hs).2.1]
theorem to_sP {S : Nat} {r r' : QS} (h : SameTo S r r') {s : Nat} (hs : s ≤ S) : sP r' s = sP r s := by unfold sP; rw [(h s hs).2.2.1]
theorem to_sbt {S : Nat} {r r' : QS} (h : SameTo S r r') (hp : ∀ s, s ≤ S → sP r s ≤ s) : ∀ f s k, s ≤ S → sbt r' f s k = sbt r f s k := by
  intro f
  induction f with
  | zero => intro s k _; rfl
  | succ f ih =>
    intro s k hs
    rw [sbt, sbt, to_sL h hs, to_sB h hs, to_sP h hs, (h s hs).2.2.2.2, ih (sP r s) k (Nat.le_trans (hp s hs) hs)]
theorem to_sv {S : Nat} {r r' : QS} (h : SameTo S r r') (hS : SOk r S) {s : Nat} (hs : s ≤ S) : sv r' s = sv r s := by
  have e : sbt r' (s + 1) s = sbt r (s + 1) s := by
    funext k
    exact to_sbt h (fun s hs => (hS.2.1 s hs).2.2.2.2.2.2.2) _ _ _ hs
  unfold sv
  rw [to_sK h hs, to_sL h hs, e, (h s hs).2.2.2.2]
theorem to_SOk {S : Nat} {r r' : QS} (h : SameTo S r r') (hS : SOk r S) : SOk r' S := by
  refine ⟨hS.1, fun s hs => ?_, ?_, ?_, ?_, ?_, fun s h0 hs => ?_⟩
  · rw [to_sL h hs, to_sB h hs, to_sP h hs, to_sK h hs, (h s hs).1, (h s hs).2.1, (h s hs).2.2.1, (h s hs).2.2.2.1]
    exact hS.2.1 s hs
  · rw [to_sL h (Nat.zero_le _)]; exact hS.2.2.1
  · rw [to_sB h (Nat.zero_le _)]; exact hS.2.2.2.1
  · rw [to_sK h (Nat.zero_le _)]; exact hS.2.2.2.2.1
  · rw [(h 0 (Nat.zero_le _)).2.2.2.2]; exact hS.2.2.2.2.2.1
  · have hp := (hS.2.1 s hs).2.2.2.2.2.2.2
    rw [to_sP h hs, to_sK h hs, to_sL h hs, to_sB h hs, (h s hs).2.2.2.2, to_sL h (Nat.le_trans hp hs)]
    exact hS.2.2.2.2.2.2 s h0 hs
/-- a step of the reference and a cell of the class hold the same -/
def Cell (q r : QS) (S v i : Nat) (z : Int32) : Prop := ∃ s, s ≤ S ∧ z = nI s ∧ VC q v i (sv r s)
theorem VC_congr {q q' : QS} {v : Nat} (h1 : qI q' (3 * v + 1) = qI q (3 * v + 1)) (h2 : qL q' (3 * v + 2) = qL q (3 * v + 2)) {i : Nat} {x : Vl} (h : VC q v i x) : VC q' v i x := by
  unfold VC at h ⊢
  rw [h1, h2]
  exact h
theorem Cell.congr {q q' r r' : QS} {S v i : Nat} {z : Int32} (hS : SOk r S) (hr : SameTo S r r') (h1 : qI q' (3 * v + 1) = qI q (3 * v + 1)) (h2 : qL q' (3 * v + 2) = qL q (3 * v + 2)) (h : Cell q r S v i z) : Cell q' r' S v i z := by
  obtain ⟨s, a, b, c⟩ := h
  refine ⟨s, a, b, ?_⟩
  rw [to_sv hr hS a]
  exact VC_congr h1 h2 c
theorem Cell.mono {q r : QS} {S S' v i : Nat} {z : Int32} (hs : S ≤ S') (h : Cell q r S v i z) : Cell q r S' v i z := by
  obtain ⟨s, a, b, c⟩ := h
  exact ⟨s, by omega, b, c⟩
def nt (x : Int32) : Nat := x.toNatClampNeg
/-! the reference's tables and nodes by numbers -/
def tW (r : QS) (t : Nat) : Nat := nt (qI r 7 t)
def tR (r : QS) (t : Nat) : Nat := nt (qI r 9 t)
def tY (r : QS) (t c : Nat) : Nat := nt (qI r 8 (8 * t + c))
def tC (r : QS) (t row c : Nat) : Nat := nt (qI r 10 (8 * (40 * t + row) + c))
def nK (r : QS) (i : Nat) : Nat := nt (qI r 11 i)
def nA (r : QS) (i : Nat) : Nat := nt (qI r 12 i)
def nB (r : QS) (i : Nat) : Nat := nt (qI r 13 i)
def nT (r : QS) (i : Nat) : Nat := nt (qI r 14 i)
def SimH (q r : QS) (S : Nat) : Prop := ∀ c, c < 8 → Cell q r S 0 c (qI r 6 c)
/-- one table -/
def TabOk (q r : QS) (S t : Nat) : Prop := 1 ≤ tW r t ∧ tW r t ≤ 8 ∧ tR r t ≤ 40 ∧ qI r 7 t = nI (tW r t) ∧ qI q 26 t = nI (tW r t) ∧ qI r 9 t = nI (tR r t) ∧ qI q 28 t = nI (tR r t) ∧
  (∀ c, c < tW r t → 1 ≤ tY r t c ∧ tY r t c ≤ 3 ∧ qI r 8 (8 * t + c) = nI (tY r t c) ∧ qI q 27 (t * 8 + c) = nI (tY r t c)) ∧
  ∀ row c, row < tR r t → c < tW r t → Cell q r S 1 ((t * 40 + row) * 8 + c) (qI r 10 (8 * (40 * t + row) + c)) ∧ (sK r (tC r t row c) = 0 ∨ sK r (tC r t row c) = tY r t c)
def SimT (q r : QS) (S T : Nat) : Prop := T ≤ 3 ∧ qF q 14 = nI T ∧ qF r 1 = nI T ∧ ∀ t, t < T → TabOk q r S t
/-- kinds with two parts -/
def two (k : Nat) : Prop := (11 ≤ k ∧ k ≤ 22) ∨ k = 26 ∨ k = 27
/-- what types a kind takes -/
def tk (k ta tb : Nat) : Prop := (k = 7 ∨ k = 10 → ta ≤ 1) ∧ (k = 8 ∨ k = 9 → ta ≤ 2) ∧ (11 ≤ k → k ≤ 15 → ta ≤ 1 ∧ tb ≤ 1) ∧ (k = 16 → (ta = 0 ∨ ta = 2) ∧ (tb = 0 ∨ tb = 2)) ∧ (17 ≤ k → k ≤ 22 → ta = 0 ∨ tb = 0 ∨ ta = tb) ∧ (k = 25 → ta = 0 ∨ ta = 3) ∧ (k = 26 ∨ k = 27 → (ta = 0 ∨ ta = 3) ∧ (tb = 0 ∨ tb = 3))
def tyOf (k ta : Nat) : Nat := if k = 8 ∨ k = 9 then ta else if k < 16 then 1 else if k = 16 then 2 else 3
/-- x is a part of node i -/
def prt (r : QS) (i x : Nat) : Prop := 6 ≤ nK r i ∧ (x = nA r i ∨ (two (nK r i) ∧ x = nB r i))
/-- a node's parts belong to no other node -/
def Tr (r : QS) (i : Nat) : Prop := (∀ x, prt r i x → qI r 16 x = 1) ∧ (two (nK r i) → nA r i ≠ nB r i) ∧ ∀ j x, j < i → prt r i x → ¬ prt r j x
/-- one node -/
def NodOk (q r : QS) (S T i : Nat) : Prop := nK r i ≤ 27 ∧ qI r 11 i = nI (nK r i) ∧ qI q 30 i = nI (nK r i) ∧ nT r i ≤ 3 ∧ qI r 14 i = nI (nT r i) ∧ qI q 31 i = nI (nT r i) ∧
  (qI r 15 i = 0 ∨ qI r 15 i = 1) ∧ qI q 36 i = qI r 15 i ∧ (qI r 16 i = 0 ∨ qI r 16 i = 1) ∧ qI q 37 i = qI r 16 i ∧
  (nK r i < 4 → nT r i = nK r i ∧ qI r 15 i = 0 ∧ Cell q r S 2 i (qI r 12 i) ∧ sK r (nA r i) = nK r i ∧ qI q 32 i = -1 ∧ qI q 33 i = -1) ∧
  (nK r i = 4 → qI r 15 i = 0 ∧ nA r i < T ∧ nB r i < tW r (nA r i) ∧ qI r 12 i = nI (nA r i) ∧ qI r 13 i = nI (nB r i) ∧ qI q 34 i = nI (nA r i) ∧ qI q 35 i = nI (nB r i) ∧ nT r i = tY r (nA r i) (nB r i) ∧ qI q 32 i = -1 ∧ qI q 33 i = -1) ∧
  (nK r i = 5 → nT r i = 1 ∧ qI r 12 i = -1 ∧ qI r 13 i = -1 ∧ qI q 32 i = -1 ∧ qI q 33 i = -1 ∧ qI r 15 i = 1) ∧
  (6 ≤ nK r i → nA r i < i ∧ qI r 12 i = nI (nA r i) ∧ qI q 32 i = nI (nA r i) ∧ nT r i = tyOf (nK r i) (nT r (nA r i)) ∧ (nK r i ≤ 9 → qI r 15 (nA r i) = 0) ∧
    (two (nK r i) → nB r i < i ∧ qI r 13 i = nI (nB r i) ∧ qI q 33 i = nI (nB r i) ∧ tk (nK r i) (nT r (nA r i)) (nT r (nB r i)) ∧ (qI r 15 i = 1 ↔ (qI r 15 (nA r i) = 1 ∨ qI r 15 (nB r i) = 1))) ∧
    (¬ two (nK r i) → qI r 13 i = -1 ∧ qI q 33 i = -1 ∧ tk (nK r i) (nT r (nA r i)) 0 ∧ (qI r 15 i = 1 ↔ (nK r i ≤ 9 ∨ qI r 15 (nA r i) = 1))) ∧ Tr r i)
def SimN (q r : QS) (S T N : Nat) : Prop := N ≤ 200 ∧ qF q 2 = nI N ∧ qF r 2 = nI N ∧ ∀ i, i < N → NodOk q r S T i
/-- a node or none -/
def condOk (r : QS) (N : Nat) (z : Int32) : Prop := z = -1 ∨ ∃ i, i < N ∧ z = nI i ∧ (nT r i = 0 ∨ nT r i = 3) ∧ qI r 15 i = 0
def SimQ (q r : QS) (N I G O : Nat) : Prop := I ≤ 8 ∧ qF q 6 = nI I ∧ qF r 4 = nI I ∧ (∀ j, j < I → nt (qI r 26 j) < N ∧ qI r 26 j = nI (nt (qI r 26 j)) ∧ qI q 39 j = qI r 26 j) ∧
  G ≤ 4 ∧ qF q 7 = nI G ∧ qF r 5 = nI G ∧ (∀ g, g < G → nt (qI r 27 g) < N ∧ qI r 27 g = nI (nt (qI r 27 g)) ∧ nK r (nt (qI r 27 g)) = 4 ∧ qI q 40 g = qI r 12 (nt (qI r 27 g)) ∧ qI q 41 g = qI r 13 (nt (qI r 27 g))) ∧
  O ≤ 4 ∧ qF q 8 = nI O ∧ qF r 6 = nI O ∧ (∀ o, o < O → nt (qI r 28 o) < I ∧ qI r 28 o = nI (nt (qI r 28 o)) ∧ qI q 42 o = qI r 28 o ∧ (qI r 29 o = 0 ∨ qI r 29 o = 1) ∧ qI q 43 o = qI r 29 o) ∧
  qF q 9 = qF r 3 ∧ condOk r N (qF r 3) ∧ qF q 10 = qF r 7 ∧ -1 ≤ qF r 7 ∧ qF q 11 = qF r 8 ∧ (qF r 8 = 0 ∨ qF r 8 = 1)
/-- a kept value -/
def Kp (q r : QS) (j : Nat) : Prop := ∃ x, vOk x ∧ VC q 3 j x ∧ qI r 38 j = nI (vk x) ∧ ((vk x = 1 ∨ vk x = 3) → qL r 39 j = vn x) ∧ (vk x = 2 → qI r 40 j = nI (vl x) ∧ ∀ t, t < 4 → qL r 41 (4 * j + t) = vw x t)
def SimA (q r : QS) (K I : Nat) : Prop := K ≤ 64 ∧ I ≤ 8 ∧ qF q 0 = nI K ∧ qF r 11 = nI K ∧ qF q 1 = nI I ∧ qF r 12 = nI I ∧ ∀ row j, row < K → j < I → Kp q r (8 * row + j)
def SimC (κ : Nat) (q : QS) : Prop := qC q = κ ∧ qF q 12 = nI (qC q) ∧ 16 ≤ qC q ∧ qC q ≤ 2000
/-- both sides are at the same place; n calls were made -/
def Sim (κ n : Nat) (q r : QS) : Prop := ∃ S T N I G O K I', SOk r S ∧ S ≤ n ∧ qF r 0 = nI S ∧ SimH q r S ∧ SimT q r S T ∧ SimN q r S T N ∧ SimQ q r N I G O ∧ SimA q r K I' ∧ SimC κ q
/-! what changes nothing for a part -/
theorem SimH.congr {q q' r r' : QS} {S : Nat} (hS : SOk r S) (hr : SameTo S r r') (e6 : qI r' 6 = qI r 6) (h1 : qI q' 1 = qI q 1) (h2 : qL q' 2 = qL q 2) (h : SimH q r S) : SimH q' r' S := fun c hc => by
  rw [e6]
  exact (h c hc).congr hS hr h1 h2
theorem TabOk.congr {q q' r r' : QS} {S t : Nat} (hS : SOk r S) (hr : SameTo S r r') (e7 : qI r' 7 = qI r 7) (e8 : qI r' 8 = qI r 8) (e9 : qI r' 9 = qI r 9) (e10 : qI r' 10 = qI r 10) (c26 : qI q' 26 = qI q 26) (c27 : qI q' 27 = qI q 27) (c28 : qI q' 28 = qI q 28) (c4 : qI q' 4 = qI q 4) (c5 : qL q' 5 = qL q 5) (h : TabOk q r S t) : TabOk q' r' S t := by
  have a1 : tW r' = tW r := by funext t; unfold tW; rw [e7]
  have a2 : tR r' = tR r := by funext t; unfold tR; rw [e9]
  have a3 : tY r' = tY r := by funext t c; unfold tY; rw [e8]
  have a4 : tC r' = tC r := by funext t row c; unfold tC; rw [e10]
  obtain ⟨b1, b2, b3, b4, b5, b6, b7, b8, b9⟩ := h
  unfold TabOk
  rw [a1, a2, a3, a4, e7, e8, e9, e10, c26, c27, c28]
  refine ⟨b1, b2, b3, b4, b5, b6, b7, b8, fun row c hr1 hc => ⟨(b9 row c hr1 hc).1.congr hS hr c4 c5, ?_⟩⟩
  obtain ⟨s, z1, z2, -⟩ := (b9 row c hr1 hc).1
  have : tC r t row c = s := by unfold tC nt; rw [z2]; exact nI_clamp (by have := hS.1; omega)
  rw [this]
  rw [to_sK hr z1, ← this]
  exact (b9 row c hr1 hc).2
theorem SimT.congr {q q' r r' : QS} {S T : Nat} (hS : SOk r S) (hr : SameTo S r r') (f1 : qF r' 1 = qF r 1) (f14 : qF q' 14 = qF q 14) (e7 : qI r' 7 = qI r 7) (e8 : qI r' 8 = qI r 8) (e9 : qI r' 9 = qI r 9) (e10 : qI r' 10 = qI r 10) (c26 : qI q' 26 = qI q 26) (c27 : qI q' 27 = qI q 27) (c28 : qI q' 28 = qI q 28) (c4 : qI q' 4 = qI q 4) (c5 : qL q' 5 = qL q 5) (h : SimT q r S T) : SimT q' r' S T :=
  ⟨h.1, by rw [f14]; exact h.2.1, by rw [f1]; exact h.2.2.1, fun t ht => (h.2.2.2 t ht).congr hS hr e7 e8 e9 e10 c26 c27 c28 c4 c5⟩
/-- the parts of the reference that nodes stand in -/
def SameN (r r' : QS) : Prop := qI r' 7 = qI r 7 ∧ qI r' 8 = qI r 8 ∧ qI r' 11 = qI r 11 ∧ qI r' 12 = qI r 12 ∧ qI r' 13 = qI r 13 ∧ qI r' 14 = qI r 14 ∧ qI r' 15 = qI r 15 ∧ qI r' 16 = qI r 16
theorem NodOk.congr {q q' r r' : QS} {S T i : Nat} (hS : SOk r S) (hr : SameTo S r r') (hn : SameN r r') (hc : ∀ k, 30 ≤ k → k ≤ 37 → qI q' k = qI q k) (h7 : ∀ s, VC q 2 i (sv r s) → VC q' 2 i (sv r s)) (h : NodOk q r S T i) : NodOk q' r' S T i := by
  obtain ⟨e7, e8, e11, e12, e13, e14, e15, e16⟩ := hn
  have a1 : tW r' = tW r := by funext t; unfold tW; rw [e7]
  have a3 : tY r' = tY r := by funext t c; unfold tY; rw [e8]
  have b1 : nK r' = nK r := by funext t; unfold nK; rw [e11]
  have b2 : nA r' = nA r := by funext t; unfold nA; rw [e12]
  have b3 : nB r' = nB r := by funext t; unfold nB; rw [e13]
  have b4 : nT r' = nT r := by funext t; unfold nT; rw [e14]
  have bt : Tr r' i = Tr r i := by unfold Tr prt; rw [b1, b2, b3, e16]
  unfold NodOk at h ⊢
  rw [bt, a1, a3, b1, b2, b3, b4, e11, e12, e13, e14, e15, e16, hc 30 (by decide) (by decide), hc 31 (by decide) (by decide), hc 32 (by decide) (by decide), hc 33 (by decide) (by decide), hc 34 (by decide) (by decide), hc 35 (by decide) (by decide), hc 36 (by decide) (by decide), hc 37 (by decide) (by decide)]
  refine ⟨h.1, h.2.1, h.2.2.1, h.2.2.2.1, h.2.2.2.2.1, h.2.2.2.2.2.1, h.2.2.2.2.2.2.1, h.2.2.2.2.2.2.2.1, h.2.2.2.2.2.2.2.2.1, h.2.2.2.2.2.2.2.2.2.1, fun hk => ?_, h.2.2.2.2.2.2.2.2.2.2.2⟩
  obtain ⟨c1, c2, ⟨s, s1, s2, s3⟩, c4, c5⟩ := h.2.2.2.2.2.2.2.2.2.2.1 hk
  have hs : nA r i = s := by unfold nA nt; rw [s2]; exact nI_clamp (by have := hS.1; omega)
  refine ⟨c1, c2, ⟨s, s1, s2, ?_⟩, ?_, c5⟩
  · rw [to_sv hr hS s1]; exact h7 s s3
  · rw [hs, to_sK hr s1, ← hs]; exact c4
theorem SimN.congr {q q' r r' : QS} {S T N : Nat} (hS : SOk r S) (hr : SameTo S r r') (hn : SameN r r') (f2 : qF r' 2 = qF r 2) (g2 : qF q' 2 = qF q 2) (hc : ∀ k, 30 ≤ k → k ≤ 37 → qI q' k = qI q k) (h7 : qI q' 7 = qI q 7) (h8 : qL q' 8 = qL q 8) (h : SimN q r S T N) : SimN q' r' S T N :=
  ⟨h.1, by rw [g2]; exact h.2.1, by rw [f2]; exact h.2.2.1, fun i hi => (h.2.2.2 i hi).congr hS hr hn hc (fun s z => VC_congr (v := 2) h7 h8 z)⟩
theorem SimQ.congr {q q' r r' : QS} {N I G O : Nat} (hn : SameN r r') (hf : ∀ k, 3 ≤ k → k ≤ 8 → qF r' k = qF r k) (hg : ∀ k, 6 ≤ k → k ≤ 11 → qF q' k = qF q k) (he : ∀ k, 26 ≤ k → k ≤ 29 → qI r' k = qI r k) (hc : ∀ k, 39 ≤ k → k ≤ 43 → qI q' k = qI q k) (h : SimQ q r N I G O) : SimQ q' r' N I G O := by
  obtain ⟨e7, e8, e11, e12, e13, e14, e15, e16⟩ := hn
  have b1 : nK r' = nK r := by funext t; unfold nK; rw [e11]
  have b4 : nT r' = nT r := by funext t; unfold nT; rw [e14]
  unfold SimQ condOk at h ⊢
  rw [b1, b4, e12, e13, e15, hf 3 (by decide) (by decide), hf 4 (by decide) (by decide), hf 5 (by decide) (by decide), hf 6 (by decide) (by decide), hf 7 (by decide) (by decide), hf 8 (by decide) (by decide), hg 6 (by decide) (by decide), hg 7 (by decide) (by decide), hg 8 (by decide) (by decide), hg 9 (by decide) (by decide), hg 10 (by decide) (by decide), hg 11 (by decide) (by decide), he 26 (by decide) (by decide), he 27 (by decide) (by decide), he 28 (by decide) (by decide), he 29 (by decide) (by decide), hc 39 (by decide) (by decide), hc 40 (by decide) (by decide), hc 41 (by decide) (by decide), hc 42 (by decide) (by decide), hc 43 (by decide) (by decide)]
  exact h
theorem SimA.congr {q q' r r' : QS} {K I : Nat} (f11 : qF r' 11 = qF r 11) (f12 : qF r' 12 = qF r 12) (g0 : qF q' 0 = qF q 0) (g1 : qF q' 1 = qF q 1) (e38 : qI r' 38 = qI r 38) (e39 : qL r' 39 = qL r 39) (e40 : qI r' 40 = qI r 40) (e41 : qL r' 41 = qL r 41) (c10 : qI q' 10 = qI q 10) (c11 : qL q' 11 = qL q 11) (h : SimA q r K I) : SimA q' r' K I := by
  obtain ⟨a1, a2, a3, a4, a5, a6, a7⟩ := h
  refine ⟨a1, a2, by rw [g0]; exact a3, by rw [f11]; exact a4, by rw [g1]; exact a5, by rw [f12]; exact a6, fun row j h1 h2 => ?_⟩
  obtain ⟨x, b1, b2, b3, b4, b5⟩ := a7 row j h1 h2
  refine ⟨x, b1, VC_congr (v := 3) c10 c11 b2, by rw [e38]; exact b3, fun z => by rw [e39]; exact b4 z, fun z => by rw [e40, e41]; exact b5 z⟩
theorem SimC.congr {κ : Nat} {q q' : QS} (g : qF q' 12 = qF q 12) (c : qC q' = qC q) (h : SimC κ q) : SimC κ q' := by
  unfold SimC at h ⊢
  rw [g, c]; exact h
