/-! what a side's state IS: int-like arrays by role, long arrays by role, int fields by number, the room's capacity -/
abbrev QS : Type := (Nat → Nat → Int32) × (Nat → Nat → Int64) × (Nat → Int32) × Nat
def qI (q : QS) : Nat → Nat → Int32 := q.1
def qL (q : QS) : Nat → Nat → Int64 := q.2.1
def qF (q : QS) : Nat → Int32 := q.2.2.1
def qC (q : QS) : Nat := q.2.2.2
def uI (q : QS) (k i : Nat) (x : Int32) : QS := (fun j => if j = k then upd (q.1 k) i x else q.1 j, q.2)
def uL (q : QS) (k i : Nat) (x : Int64) : QS := (q.1, fun j => if j = k then vp_updL (q.2.1 k) i x else q.2.1 j, q.2.2)
def uF (q : QS) (k : Nat) (x : Int32) : QS := (q.1, q.2.1, fun j => if j = k then x else q.2.2.1 j, q.2.2.2)
def uA (q : QS) (k : Nat) (f : Nat → Int32) : QS := (fun j => if j = k then f else q.1 j, q.2)
def ck (i : Int32) (n : Nat) : Bool := decide (¬ (i < 0 ∨ n ≤ i.toNatClampNeg))
theorem ck_in {i : Int32} {n : Nat} (h : ck i n = true) : vp_in i n := by
  have h1 : ¬ (i < 0 ∨ n ≤ i.toNatClampNeg) := by simpa [ck] using h
  exact h1
def rd {α : Type} (f : Nat → α) (n : Nat) (i : Int32) : Option α := if ck i n = true then some (f i.toNatClampNeg) else none
theorem rd_in {α : Type} {f : Nat → α} {n : Nat} {i : Int32} {x : α} (h : rd f n i = some x) : vp_in i n ∧ f i.toNatClampNeg = x := by
  unfold rd at h
  by_cases hc : ck i n = true
  · rw [if_pos hc] at h; exact ⟨ck_in hc, Option.some.inj h⟩
  · rw [if_neg hc] at h; cases h
def wI (q : QS) (k n : Nat) (i x : Int32) : Option QS := if ck i n = true then some (uI q k i.toNatClampNeg x) else none
theorem wI_in {q q1 : QS} {k n : Nat} {i x : Int32} (h : wI q k n i x = some q1) : vp_in i n ∧ uI q k i.toNatClampNeg x = q1 := by
  unfold wI at h
  by_cases hc : ck i n = true
  · rw [if_pos hc] at h; exact ⟨ck_in hc, Option.some.inj h⟩
  · rw [if_neg hc] at h; cases h
def wL (q : QS) (k n : Nat) (i : Int32) (x : Int64) : Option QS := if ck i n = true then some (uL q k i.toNatClampNeg x) else none
theorem wL_in {q q1 : QS} {k n : Nat} {i : Int32} {x : Int64} (h : wL q k n i x = some q1) : vp_in i n ∧ uL q k i.toNatClampNeg x = q1 := by
  unfold wL at h
  by_cases hc : ck i n = true
  · rw [if_pos hc] at h; exact ⟨ck_in hc, Option.some.inj h⟩
  · rw [if_neg hc] at h; cases h
/-- a boolean that is one -/
def zz (x : Int32) : Prop := vp_nar .boolean x = x
/-- what a side's cells stand in: the tables' numbers, the array classes, the addresses by role -/
abbrev En : Type := va_G × (Nat → ClassId) × (Nat → Nat)
def eT (E : En) : List (ClassId × FieldType) := [(E.2.1 0, .int), (E.2.1 1, .long), (E.2.1 2, .boolean), (E.2.1 3, .byte), (E.2.1 4, .short)]
abbrev eA (E : En) : Nat → Nat := E.2.2
/-- the tables' words that a callee may ask again -/
def lwG : List Cond := lw_tbl.filter goodWord
theorem mg {w : Cond} (i : Nat) (h : lw_tbl[i]? = some w) (g : goodWord w = true) : w ∈ lwG := List.mem_filter.mpr ⟨List.mem_of_getElem? h, g⟩
theorem lw_gi {w : Cond} (h : w ∈ lwG) : GoodIn lwG (w :: lwG) := fun v hv => by
  have hv' : v ∈ lwG := by
    rcases List.mem_cons.mp hv with e | e
    · rw [e]; exact h
    · exact e
  exact ⟨hv', good_of_word (List.mem_filter.mp hv').2⟩
abbrev wy (y : MethodName) (b : ByteArray) (n : Nat) (r : Option FieldType) : List Cond := .code y b n r :: lwG
/-- what stays the same through a method's body -/
def Fx (E : En) (p : Program) (s : State) (m : MethodId) (args : Array Value) (meth : Method) (c : Code) (own : String) (cc : ByteArray) (nL : Nat) (ret : Option FieldType) : Prop :=
  p.tables.exec = Jvm.exec ∧ c.code = cc ∧ c.maxLocals = nL ∧ s.vm.findClass own = some m.cls ∧ (∀ w ∈ lwG, w.before args s = true) ∧ va_K E.1 vwCl (eT E) s ∧ meth.locks = false ∧ meth.sig.returnType = ret
/-- the machine at a frame with the side's state q comes to Q -/
def Wq (w : QS → va_W) (E : En) (p : Program) (l : Launch) (e : Env) (R : Room) (s : State) (m : MethodId) (args : Array Value) (below : List Frame) (meth : Method) (c : Code) (A : Nat → Prop) (cells slots : Nat) (Q : State → Prop) (q : QS) (g : JFrame) : Prop :=
  ∀ (H : Heap) (locs : List Loc), va_P E.1 vwCl (w q) H → va_D A (w q) → va_S A s.heap H locs → W p l e R s m args below meth c H locs cells slots Q g
/-- a method's contract: from q to q', the answer rv -/
def Ct (w : QS → va_W) (E : En) (l : Launch) (y : MethodName) (ws : List Cond) (rm : Room) (q q' : QS) (av : List Value) (rv : Option Value) : Prop :=
  ∀ sz : Nat, Met l y ws rm (va_Pc av (fun U => U.heap.size = sz ∧ va_P E.1 vwCl (w q) U.heap ∧ va_K E.1 vwCl (eT E) U ∧ va_D (fun _ => True) (w q)))
    (fun _ st oc t => (oc = .returned rv ∧ va_P E.1 vwCl (w q') t.heap ∧ va_D (va_A (w q) sz) (w q')) ∧ va_F (va_A (w q) sz) st t) 0 0 (va_A (w q) sz)
/-- what a callee's name, code and tables give at every call of it -/
def Cf (y : MethodName) (b : ByteArray) (ml : Nat) (rt : Option FieldType) (n : Nat) : Prop :=
  Cond.code y b ml rt ∈ lwG ∧ Cond.initialized y.cls ∈ lwG ∧ y.cls ≠ "java/lang/invoke/MethodHandle" ∧ y.cls ≠ "java/lang/invoke/VarHandle" ∧ (parseMethodDescriptor y.desc).map (fun d => d.parameters.length) = some n
section FR
variable {w : QS → va_W} {E : En} {p : Program} {l : Launch} {e : Env} {R : Room} {s : State} {m : MethodId} {args : Array Value} {below : List Frame} {meth : Method} {c : Code} {H : Heap} {locs : List Loc} {cells slots : Nat} {Q : State → Prop} {A : Nat → Prop}
variable {own : String} {cc : ByteArray} {nL : Nat} {ret : Option FieldType} {pc : Nat} {ls : Array Slot} {rest : List Value} {q q1 q' : QS}
theorem r_iald (F : Fx E p s m args meth c own cc nL ret) {ws : va_W} (hP : va_P E.1 vwCl ws H) (k : Nat) {a n : Nat} {f : Nat → Int32} (he : ws[k]? = some (a, .inl (E.2.1 0, n, .inl f))) {i x : Int32} (hr : rd f n i = some x) (hdg : decode cc pc = .ok (.iaload, 1))
    (kk : W p l e R s m args below meth c H locs cells slots Q (F0 m (pc + 1) ls (.int x :: rest))) : W p l e R s m args below meth c H locs cells slots Q (F0 m pc ls (.int i :: .ref a :: rest)) := by
  obtain ⟨h1, h2⟩ := rd_in hr
  subst h2
  exact va_iald F.1 F.2.1 F.2.2.2.2.2.1 hP k 0 he rfl h1 hdg kk
theorem r_zald (F : Fx E p s m args meth c own cc nL ret) {ws : va_W} (hP : va_P E.1 vwCl ws H) (k : Nat) {a n : Nat} {f : Nat → Int32} (he : ws[k]? = some (a, .inl (E.2.1 2, n, .inl f))) {i x : Int32} (hr : rd f n i = some x) (hdg : decode cc pc = .ok (.baload, 1))
    (kk : W p l e R s m args below meth c H locs cells slots Q (F0 m (pc + 1) ls (.int x :: rest))) : W p l e R s m args below meth c H locs cells slots Q (F0 m pc ls (.int i :: .ref a :: rest)) := by
  obtain ⟨h1, h2⟩ := rd_in hr
  subst h2
  exact va_zald F.1 F.2.1 F.2.2.2.2.2.1 hP k 2 he rfl h1 hdg kk
theorem r_bald (F : Fx E p s m args meth c own cc nL ret) {ws : va_W} (hP : va_P E.1 vwCl ws H) (k : Nat) {a n : Nat} {f : Nat → Int32} (he : ws[k]? = some (a, .inl (E.2.1 3, n, .inl f))) {i x : Int32} (hr : rd f n i = some x) (hdg : decode cc pc = .ok (.baload, 1))
    (kk : W p l e R s m args below meth c H locs cells slots Q (F0 m (pc + 1) ls (.int x :: rest))) : W p l e R s m args below meth c H locs cells slots Q (F0 m pc ls (.int i :: .ref a :: rest)) := by
  obtain ⟨h1, h2⟩ := rd_in hr
  subst h2
  exact va_bald F.1 F.2.1 F.2.2.2.2.2.1 hP k 3 he rfl h1 hdg kk
theorem r_sald (F : Fx E p s m args meth c own cc nL ret) {ws : va_W} (hP : va_P E.1 vwCl ws H) (k : Nat) {a n : Nat} {f : Nat → Int32} (he : ws[k]? = some (a, .inl (E.2.1 4, n, .inl f))) {i x : Int32} (hr : rd f n i = some x) (hdg : decode cc pc = .ok (.saload, 1))
    (kk : W p l e R s m args below meth c H locs cells slots Q (F0 m (pc + 1) ls (.int x :: rest))) : W p l e R s m args below meth c H locs cells slots Q (F0 m pc ls (.int i :: .ref a :: rest)) := by
  obtain ⟨h1, h2⟩ := rd_in hr
  subst h2
  exact va_sald F.1 F.2.1 F.2.2.2.2.2.1 hP k 4 he rfl h1 hdg kk
theorem r_lald (F : Fx E p s m args meth c own cc nL ret) {ws : va_W} (hP : va_P E.1 vwCl ws H) (k : Nat) {a n : Nat} {f : Nat → Int64} (he : ws[k]? = some (a, .inl (E.2.1 1, n, .inr (.inl f)))) {i : Int32} {x : Int64} (hr : rd f n i = some x) (hdg : decode cc pc = .ok (.laload, 1))
    (kk : W p l e R s m args below meth c H locs cells slots Q (F0 m (pc + 1) ls (.long x :: rest))) : W p l e R s m args below meth c H locs cells slots Q (F0 m pc ls (.int i :: .ref a :: rest)) := by
  obtain ⟨h1, h2⟩ := rd_in hr
  subst h2
  exact va_lald F.1 F.2.1 F.2.2.2.2.2.1 hP k 1 he rfl h1 hdg kk
theorem r_iast (F : Fx E p s m args meth c own cc nL ret) (hP : va_P E.1 vwCl (w q) H) (hD : va_D A (w q)) (hS : va_S A s.heap H locs) (k : Nat) {a n : Nat} {f : Nat → Int32} (he : (w q)[k]? = some (a, .inl (E.2.1 0, n, .inl f))) (hs : ∀ (j : Nat) (x : Int32), (w q).set k (a, .inl (E.2.1 0, n, .inl (upd f j x))) = w (uI q k j x)) {i x : Int32} (hr : wI q k n i x = some q1) (hdg : decode cc pc = .ok (.iastore, 1))
    (kk : Wq w E p l e R s m args below meth c A cells slots Q q1 (F0 m (pc + 1) ls rest)) : W p l e R s m args below meth c H locs cells slots Q (F0 m pc ls (.int x :: .int i :: .ref a :: rest)) := by
  obtain ⟨h1, h2⟩ := wI_in hr
  subst h2
  exact va_iast F.1 F.2.1 F.2.2.2.2.2.1 hP hD hS k 0 he rfl h1 hdg (fun H1 locs1 a1 a2 a3 => kk H1 locs1 (by rw [← hs]; exact a1) (by rw [← hs]; exact a2) a3)
theorem r_zast (F : Fx E p s m args meth c own cc nL ret) (hP : va_P E.1 vwCl (w q) H) (hD : va_D A (w q)) (hS : va_S A s.heap H locs) (k : Nat) {a n : Nat} {f : Nat → Int32} (he : (w q)[k]? = some (a, .inl (E.2.1 2, n, .inl f))) (hs : ∀ (j : Nat) (x : Int32), (w q).set k (a, .inl (E.2.1 2, n, .inl (upd f j x))) = w (uI q k j x)) {i x : Int32} (hr : wI q k n i (vp_nar .boolean x) = some q1) (hdg : decode cc pc = .ok (.bastore, 1))
    (kk : Wq w E p l e R s m args below meth c A cells slots Q q1 (F0 m (pc + 1) ls rest)) : W p l e R s m args below meth c H locs cells slots Q (F0 m pc ls (.int x :: .int i :: .ref a :: rest)) := by
  obtain ⟨h1, h2⟩ := wI_in hr
  subst h2
  exact va_zast F.1 F.2.1 F.2.2.2.2.2.1 hP hD hS k 2 he rfl h1 hdg (fun H1 locs1 a1 a2 a3 => kk H1 locs1 (by rw [← hs]; exact a1) (by rw [← hs]; exact a2) a3)
theorem r_bast (F : Fx E p s m args meth c own cc nL ret) (hP : va_P E.1 vwCl (w q) H) (hD : va_D A (w q)) (hS : va_S A s.heap H locs) (k : Nat) {a n : Nat} {f : Nat → Int32} (he : (w q)[k]? = some (a, .inl (E.2.1 3, n, .inl f))) (hs : ∀ (j : Nat) (x : Int32), (w q).set k (a, .inl (E.2.1 3, n, .inl (upd f j x))) = w (uI q k j x)) {i x : Int32} (hr : wI q k n i (vp_nar .byte x) = some q1) (hdg : decode cc pc = .ok (.bastore, 1))
    (kk : Wq w E p l e R s m args below meth c A cells slots Q q1 (F0 m (pc + 1) ls rest)) : W p l e R s m args below meth c H locs cells slots Q (F0 m pc ls (.int x :: .int i :: .ref a :: rest)) := by
  obtain ⟨h1, h2⟩ := wI_in hr
  subst h2
  exact va_bast F.1 F.2.1 F.2.2.2.2.2.1 hP hD hS k 3 he rfl h1 hdg (fun H1 locs1 a1 a2 a3 => kk H1 locs1 (by rw [← hs]; exact a1) (by rw [← hs]; exact a2) a3)
theorem r_sast (F : Fx E p s m args meth c own cc nL ret) (hP : va_P E.1 vwCl (w q) H) (hD : va_D A (w q)) (hS : va_S A s.heap H locs) (k : Nat) {a n : Nat} {f : Nat → Int32} (he : (w q)[k]? = some (a, .inl (E.2.1 4, n, .inl f))) (hs : ∀ (j : Nat) (x : Int32), (w q).set k (a, .inl (E.2.1 4, n, .inl (upd f j x))) = w (uI q k j x)) {i x : Int32} (hr : wI q k n i (vp_nar .short x) = some q1) (hdg : decode cc pc = .ok (.sastore, 1))
    (kk : Wq w E p l e R s m args below meth c A cells slots Q q1 (F0 m (pc + 1) ls rest)) : W p l e R s m args below meth c H locs cells slots Q (F0 m pc ls (.int x :: .int i :: .ref a :: rest)) := by
  obtain ⟨h1, h2⟩ := wI_in hr
  subst h2
  exact va_sast F.1 F.2.1 F.2.2.2.2.2.1 hP hD hS k 4 he rfl h1 hdg (fun H1 locs1 a1 a2 a3 => kk H1 locs1 (by rw [← hs]; exact a1) (by rw [← hs]; exact a2) a3)
theorem r_last (F : Fx E p s m args meth c own cc nL ret) (hP : va_P E.1 vwCl (w q) H) (hD : va_D A (w q)) (hS : va_S A s.heap H locs) (k : Nat) {a n : Nat} {f : Nat → Int64} (he : (w q)[k]? = some (a, .inl (E.2.1 1, n, .inr (.inl f)))) (hs : ∀ (j : Nat) (x : Int64), (w q).set k (a, .inl (E.2.1 1, n, .inr (.inl (vp_updL f j x)))) = w (uL q k j x)) {i : Int32} {x : Int64} (hr : wL q k n i x = some q1) (hdg : decode cc pc = .ok (.lastore, 1))
    (kk : Wq w E p l e R s m args below meth c A cells slots Q q1 (F0 m (pc + 1) ls rest)) : W p l e R s m args below meth c H locs cells slots Q (F0 m pc ls (.long x :: .int i :: .ref a :: rest)) := by
  obtain ⟨h1, h2⟩ := wL_in hr
  subst h2
  exact va_last F.1 F.2.1 F.2.2.2.2.2.1 hP hD hS k 1 he rfl h1 hdg (fun H1 locs1 a1 a2 a3 => kk H1 locs1 (by rw [← hs]; exact a1) (by rw [← hs]; exact a2) a3)
theorem r_get (F : Fx E p s m args meth c own cc nL ret) {ws : va_W} (hP : va_P E.1 vwCl ws H) {C : String} {T : u_T} {N ci idx : Nat} (hin : ∀ w ∈ u_ws C T N, w ∈ lwG) (o : Nat) {a : Nat} {fs : List Value} (he : ws[o]? = some (a, .inr (ci, fs))) (hc : vwCl[ci]? = some (C, T, N)) (k : Nat) (hk : k < N) (hT : (T k).1 = C) (hlink : Cond.fieldLink own idx C (T k).2.1 (T k).2.2.1 ∈ lwG) {v : Value} (hv : fs[k]? = some v) (hdg : decode cc pc = .ok (.getfield idx, 3))
    (kk : W p l e R s m args below meth c H locs cells slots Q (F0 m (pc + 3) ls (v :: rest))) : W p l e R s m args below meth c H locs cells slots Q (F0 m pc ls (.ref a :: rest)) :=
  va_get F.1 F.2.1 F.2.2.2.2.1 hin F.2.2.2.1 F.2.2.2.2.2.1 hP o he hc k hk (F.2.2.2.2.1 _ hlink) (fun x h => by rw [hT] at h; exact h) hv hdg kk
theorem r_put (F : Fx E p s m args meth c own cc nL ret) (hP : va_P E.1 vwCl (w q) H) (hD : va_D A (w q)) (hS : va_S A s.heap H locs) {C : String} {T : u_T} {N ci idx : Nat} (hin : ∀ w ∈ u_ws C T N, w ∈ lwG) {ty0 : Nat → FieldType} (hty : ∀ k, k < N → parseFieldDescriptor (T k).2.2.1 = some (ty0 k)) (hnm : ∀ a, a < N → ∀ b, b < N → a ≠ b → (T a).2.1 ≠ (T b).2.1) (o : Nat) {a : Nat} {fs : List Value} (he : (w q)[o]? = some (a, .inr (ci, fs))) (hc : vwCl[ci]? = some (C, T, N)) (k : Nat) (hk : k < N) (hT : (T k).1 = C) (hlink : Cond.fieldLink own idx C (T k).2.1 (T k).2.2.1 ∈ lwG) (hfin : (T k).2.2.2 = false) {ty : FieldType} {v : Value} (hd : parseFieldDescriptor (T k).2.2.1 = some ty) (hn : narrow ty v = v) (hfit : fits ty v = true) (hl : k < fs.length)
    (hs : (w q).set o (a, .inr (ci, fs.set k v)) = w q1) (hdg : decode cc pc = .ok (.putfield idx, 3))
    (kk : Wq w E p l e R s m args below meth c A cells slots Q q1 (F0 m (pc + 3) ls rest)) : W p l e R s m args below meth c H locs cells slots Q (F0 m pc ls (v :: .ref a :: rest)) :=
  va_put F.1 F.2.1 F.2.2.2.2.1 hin ty0 hty hnm F.2.2.2.1 F.2.2.2.2.2.1 hP hD hS o he hc k hk (F.2.2.2.2.1 _ hlink) (fun x h => by rw [hT] at h; exact h) hfin hd hn hfit hl hdg (fun H1 locs1 a1 a2 a3 => kk H1 locs1 (by rw [← hs]; exact a1) (by rw [← hs]; exact a2) a3)
/-- behind a call -/
theorem r_cont {av : List Value} {rv : Option Value} {st0 : List Value} {a0 : Array Value} (hr : va_Run p l e R s m args below meth c H locs cells slots 0 0 (F0 m pc ls st0) rest (fun st oc t => (oc = .returned rv ∧ va_P E.1 vwCl (w q') t.heap ∧ va_D (va_A (w q) H.size) (w q')) ∧ va_F (va_A (w q) H.size) st t) (va_A (w q) H.size)) (hS : va_S A s.heap H locs) (hD : va_D A (w q)) (hA : ∀ z : Nat, s.heap.size ≤ z → A z)
    (kk : Wq w E p l e R s m args below meth c A cells slots Q q' (F0 m (pc + 3) ls (rv.toList ++ rest))) : W p l e R s m args below meth c H locs cells slots Q (F0 m pc ls st0) := by
  intro T hT X
  have hF : ∀ z, va_A (w q) H.size z → A z := fun z h => by
    rcases h with ⟨k, x, h⟩ | h
    · exact hD.2 k (z, x) h
    · exact hA z (Nat.le_trans hS.1 h)
  obtain ⟨v, st₀, t, T', L, h0, X', hL, e1, e2, ⟨⟨hv, hp, hd⟩, hz, hk⟩, st⟩ := hr T hT X
  cases hv
  rw [h0] at hz hk
  obtain ⟨t2, a1, b1⟩ := kk T'.heap (locs ++ L) (by rw [e1]; exact hp) (hd.weaken (fun _ _ _ h => hF _ h))
    ⟨Nat.le_trans hS.1 (by rw [e1]; exact hz), fun z h1 h2 => by rw [e1, hk z (Nat.lt_of_lt_of_le h1 hS.1) (fun y => h2 (hF z y))]; exact hS.2.1 z h1 h2, fun z hz2 => by
      rcases List.mem_append.mp hz2 with h | h
      · exact hS.2.2 z h
      · exact hF _ (hL z h)⟩ T' rfl X'
  exact ⟨t2, st t2 a1, b1⟩
theorem r_pre {av : List Value} (hP : va_P E.1 vwCl (w q) H) (hD : va_D A (w q)) (hK : va_K E.1 vwCl (eT E) s) : PreS s H (va_Pc av (fun U => U.heap.size = H.size ∧ va_P E.1 vwCl (w q) U.heap ∧ va_K E.1 vwCl (eT E) U ∧ va_D (fun _ => True) (w q))) av :=
  ⟨fun a U g mk h => by
    obtain ⟨q0, q1, qP, qK, qD⟩ := h
    exact ⟨q0, q1, qP, va_K.moved (u := U) (U := U.calling g mk a) (Vm.Alike.refl U.vm) qK, qD⟩, fun U hU hW => ⟨rfl, by rw [hU], by rw [hU]; exact hP, va_K.moved hW.alike hK, hD.weaken (fun _ _ _ _ => trivial)⟩⟩
theorem r_callB (F : Fx E p s m args meth c own cc nL ret) {y : MethodName} {b : ByteArray} {ml n idx : Nat} {rt : Option FieldType} {rm : Room} (K : Cf y b ml rt n) (hlink : Cond.methodLink own idx y ∈ lwG) (hrm : rm.cells = 0 ∧ rm.slots = 0) (hR : rm.frames + 1 ≤ R.frames ∧ 8 + (ml + 11) + rm.locals ≤ R.locals) : CallB R s args own idx y b ml rt (wy y b ml rt) rm 0 0 n :=
  callB_of n F.2.2.2.2.1 (lw_gi K.1) rfl hrm.1 hrm.2 (F.2.2.2.2.1 _ K.2.1) (F.2.2.2.2.1 _ hlink) K.2.2 hR
theorem q_callS (F : Fx E p s m args meth c own cc nL ret) (hA : ∀ z : Nat, s.heap.size ≤ z → A z) (hP : va_P E.1 vwCl (w q) H) (hD : va_D A (w q)) (hS : va_S A s.heap H locs) {y : MethodName} {b : ByteArray} {ml n idx : Nat} {rt : Option FieldType} {rm : Room} {As st0 : List Value} {rv : Option Value} (hM : Ct w E l y (wy y b ml rt) rm q q' As rv) (K : Cf y b ml rt n) (hst : Cond.static y ∈ lwG) (hlink : Cond.methodLink own idx y ∈ lwG) (hrm : rm.cells = 0 ∧ rm.slots = 0) (hR : rm.frames + 1 ≤ R.frames ∧ 8 + (ml + 11) + rm.locals ≤ R.locals) (hn : As.length = n) (hls : ls.size = nL) (hstk : st0 = As.reverse ++ rest) (hw : (rest.map fun v => v.category).sum ≤ 8) (hdg : decode cc pc = .ok (.invokestatic idx, 3)) (hcs : cells ≤ R.cells ∧ slots ≤ R.slots)
    (kk : Wq w E p l e R s m args below meth c A cells slots Q q' (F0 m (pc + 3) ls (rv.toList ++ rest))) : W p l e R s m args below meth c H locs cells slots Q (F0 m pc ls st0) :=
  r_cont (av := As) (a0 := args) (va_runS (g := F0 m pc ls st0) (As := As) (rest := rest) ⟨F.1, F.2.1, F.2.2.1, F.2.2.2.1, F.2.2.2.2.1⟩ (hM H.size) ⟨r_callB F K hlink hrm hR, F.2.2.2.2.1 _ hst⟩ (r_pre hP hD F.2.2.2.2.2.1) rfl hn hls hstk (lv_room hw) hdg hcs) hS hD hA kk
theorem q_callV (F : Fx E p s m args meth c own cc nL ret) (hA : ∀ z : Nat, s.heap.size ≤ z → A z) (hP : va_P E.1 vwCl (w q) H) (hD : va_D A (w q)) (hS : va_S A s.heap H locs) {y : MethodName} {b : ByteArray} {ml n idx : Nat} {rt : Option FieldType} {rm : Room} {As st0 : List Value} {rv : Option Value} {b0 : Nat} (hM : Ct w E l y (wy y b ml rt) rm q q' (.ref b0 :: As) rv) (K : Cf y b ml rt n) (hin : Cond.instanceMethod y ∈ lwG) (hse : Cond.selects y.cls y y ∈ lwG) (hlink : Cond.methodLink own idx y ∈ lwG) (o : Nat) {ci : Nat} {fs : List Value} {T : u_T} {N : Nat} (he : (w q)[o]? = some (b0, .inr (ci, fs))) (hc : vwCl[ci]? = some (y.cls, T, N)) (hrm : rm.cells = 0 ∧ rm.slots = 0) (hR : rm.frames + 1 ≤ R.frames ∧ 8 + (ml + 11) + rm.locals ≤ R.locals) (hn : As.length = n) (hls : ls.size = nL) (hstk : st0 = As.reverse ++ .ref b0 :: rest) (hw : (rest.map fun v => v.category).sum ≤ 8) (hdg : decode cc pc = .ok (.invokevirtual idx, 3)) (hcs : cells ≤ R.cells ∧ slots ≤ R.slots)
    (kk : Wq w E p l e R s m args below meth c A cells slots Q q' (F0 m (pc + 3) ls (rv.toList ++ rest))) : W p l e R s m args below meth c H locs cells slots Q (F0 m pc ls st0) :=
  r_cont (av := .ref b0 :: As) (a0 := args) (va_runV (g := F0 m pc ls st0) (As := As) (rest := rest) (C := y.cls) ⟨F.1, F.2.1, F.2.2.1, F.2.2.2.1, F.2.2.2.2.1⟩ (hM H.size) ⟨r_callB F K hlink hrm hR, F.2.2.2.2.1 _ hin, F.2.2.2.2.1 _ hse⟩ ⟨(r_pre hP hD F.2.2.2.2.2.1).1, va_recv F.2.2.2.2.2.1 hP hc he, (r_pre hP hD F.2.2.2.2.2.1).2⟩ rfl hn hls hstk (lv_room hw) hdg hcs) hS hD hA kk
end FR
/-! a contract out of a body: by the kind of the answer -/
section CT
variable {w : QS → va_W} {E : En} {l : Launch} {own : String} {cc : ByteArray} {nL : Nat} {y : MethodName} {rm : Room} {q q' : QS} {av : List Value}
def RtI (w : QS → va_W) (E : En) (p : Program) (l : Launch) (e : Env) (R : Room) (s : State) (m : MethodId) (args : Array Value) (below : List Frame) (meth : Method) (c : Code) (A : Nat → Prop) (Q : State → Prop) (cc : ByteArray) (o : Int32 × QS) : Prop :=
  ∀ (pc : Nat) (ls : Array Slot), decode cc pc = .ok (.ireturn, 1) → Wq w E p l e R s m args below meth c A 0 0 Q o.2 (F0 m pc ls [.int o.1])
def RtZ (w : QS → va_W) (E : En) (p : Program) (l : Launch) (e : Env) (R : Room) (s : State) (m : MethodId) (args : Array Value) (below : List Frame) (meth : Method) (c : Code) (A : Nat → Prop) (Q : State → Prop) (cc : ByteArray) (o : Int32 × QS) : Prop :=
  ∀ (pc : Nat) (ls : Array Slot), zz o.1 → decode cc pc = .ok (.ireturn, 1) → Wq w E p l e R s m args below meth c A 0 0 Q o.2 (F0 m pc ls [.int o.1])
def RtL (w : QS → va_W) (E : En) (p : Program) (l : Launch) (e : Env) (R : Room) (s : State) (m : MethodId) (args : Array Value) (below : List Frame) (meth : Method) (c : Code) (A : Nat → Prop) (Q : State → Prop) (cc : ByteArray) (o : Int64 × QS) : Prop :=
  ∀ (pc : Nat) (ls : Array Slot), decode cc pc = .ok (.lreturn, 1) → Wq w E p l e R s m args below meth c A 0 0 Q o.2 (F0 m pc ls [.long o.1])
def RtV (w : QS → va_W) (E : En) (p : Program) (l : Launch) (e : Env) (R : Room) (s : State) (m : MethodId) (args : Array Value) (below : List Frame) (meth : Method) (c : Code) (A : Nat → Prop) (Q : State → Prop) (cc : ByteArray) (o : QS) : Prop :=
  ∀ (pc : Nat) (ls : Array Slot), decode cc pc = .ok (.return_, 1) → Wq w E p l e R s m args below meth c A 0 0 Q o (F0 m pc ls [])
theorem zz_nar {x : Int32} (h : zz x) : narrow .boolean (.int x) = .int x := by
  have h1 : vp_nar .boolean x = x := h
  unfold vp_nar at h1
  generalize hn : narrow FieldType.boolean (Value.int x) = v at h1 ⊢
  cases v <;> simp_all [narrow]
theorem ct_I {o : Int32 × QS} (hy : plainName y.cls = true) (hrm : rm = { frames := rm.frames, cells := 0, slots := 0, locals := rm.locals }) (body : ∀ (p : Program) (e : Env) (s : State) (m : MethodId) (below : List Frame) (meth : Method) (c : Code) (A : Nat → Prop) (Q : State → Prop), Fx E p s m av.toArray meth c y.cls cc nL (some .int) → (∀ z : Nat, s.heap.size ≤ z → A z) → RtI w E p l e rm s m av.toArray below meth c A Q cc o → Wq w E p l e rm s m av.toArray below meth c A 0 0 Q q (entryFrame m av.toArray nL)) : Ct w E l y (wy y cc nL (some .int)) rm q o.2 av (some (.int o.1)) := by
  intro sz
  refine Met.ofW (cc := cc) (maxL := nL) (ret := some .int) hy rfl ?_
  intro p e s m args below meth c s₁ B hml hv
  obtain ⟨rfl, hsz, hP, hK, hD0⟩ := hv
  subst hsz
  have hts : ∀ w ∈ lwG, w.before av.toArray s = true := fun v hv => atoms_spec (ws := wy y cc nL (some .int)) B.pre v (List.mem_cons_of_mem _ hv)
  have hlocks := B.notSynchronized
  have hx := B.exec
  have hb := B.bytes
  have hr := B.returns
  exact body p e s m below meth c (va_A (w q) s.heap.size) _ ⟨hx, hb, hml, findClass_of_methodNamed B.named, hts, hK, hlocks, hr⟩ (fun z h => Or.inr h)
    (fun pc ls hd H locs hP1 hD1 hS => W.iret hx hb hr (fun t ht hW => ⟨⟨rfl, by rw [ht]; exact hP1, hD1⟩, hS.F ht⟩) hS.2.2 hd) s.heap [] hP (hD0.self) va_S.rf
theorem ct_Z {o : Int32 × QS} (hy : plainName y.cls = true) (body : ∀ (p : Program) (e : Env) (s : State) (m : MethodId) (below : List Frame) (meth : Method) (c : Code) (A : Nat → Prop) (Q : State → Prop), Fx E p s m av.toArray meth c y.cls cc nL (some .boolean) → (∀ z : Nat, s.heap.size ≤ z → A z) → RtZ w E p l e rm s m av.toArray below meth c A Q cc o → Wq w E p l e rm s m av.toArray below meth c A 0 0 Q q (entryFrame m av.toArray nL)) : Ct w E l y (wy y cc nL (some .boolean)) rm q o.2 av (some (.int o.1)) := by
  intro sz
  refine Met.ofW (cc := cc) (maxL := nL) (ret := some .boolean) hy rfl ?_
  intro p e s m args below meth c s₁ B hml hv
  obtain ⟨rfl, hsz, hP, hK, hD0⟩ := hv
  subst hsz
  have hts : ∀ w ∈ lwG, w.before av.toArray s = true := fun v hv => atoms_spec (ws := wy y cc nL (some .boolean)) B.pre v (List.mem_cons_of_mem _ hv)
  have hlocks := B.notSynchronized
  have hx := B.exec
  have hb := B.bytes
  have hr := B.returns
  exact body p e s m below meth c (va_A (w q) s.heap.size) _ ⟨hx, hb, hml, findClass_of_methodNamed B.named, hts, hK, hlocks, hr⟩ (fun z h => Or.inr h)
    (fun pc ls hz hd H locs hP1 hD1 hS => W.zret hx hb hr (zz_nar hz) (fun t ht hW => ⟨⟨rfl, by rw [ht]; exact hP1, hD1⟩, hS.F ht⟩) hS.2.2 hd) s.heap [] hP (hD0.self) va_S.rf
theorem ct_L {o : Int64 × QS} (hy : plainName y.cls = true) (body : ∀ (p : Program) (e : Env) (s : State) (m : MethodId) (below : List Frame) (meth : Method) (c : Code) (A : Nat → Prop) (Q : State → Prop), Fx E p s m av.toArray meth c y.cls cc nL (some .long) → (∀ z : Nat, s.heap.size ≤ z → A z) → RtL w E p l e rm s m av.toArray below meth c A Q cc o → Wq w E p l e rm s m av.toArray below meth c A 0 0 Q q (entryFrame m av.toArray nL)) : Ct w E l y (wy y cc nL (some .long)) rm q o.2 av (some (.long o.1)) := by
  intro sz
  refine Met.ofW (cc := cc) (maxL := nL) (ret := some .long) hy rfl ?_
  intro p e s m args below meth c s₁ B hml hv
  obtain ⟨rfl, hsz, hP, hK, hD0⟩ := hv
  subst hsz
  have hts : ∀ w ∈ lwG, w.before av.toArray s = true := fun v hv => atoms_spec (ws := wy y cc nL (some .long)) B.pre v (List.mem_cons_of_mem _ hv)
  have hlocks := B.notSynchronized
  have hx := B.exec
  have hb := B.bytes
  have hr := B.returns
  exact body p e s m below meth c (va_A (w q) s.heap.size) _ ⟨hx, hb, hml, findClass_of_methodNamed B.named, hts, hK, hlocks, hr⟩ (fun z h => Or.inr h)
    (fun pc ls hd H locs hP1 hD1 hS => W.lret hx hb hr (fun t ht hW => ⟨⟨rfl, by rw [ht]; exact hP1, hD1⟩, hS.F ht⟩) hS.2.2 hd) s.heap [] hP (hD0.self) va_S.rf
theorem ct_V {o : QS} (hy : plainName y.cls = true) (body : ∀ (p : Program) (e : Env) (s : State) (m : MethodId) (below : List Frame) (meth : Method) (c : Code) (A : Nat → Prop) (Q : State → Prop), Fx E p s m av.toArray meth c y.cls cc nL none → (∀ z : Nat, s.heap.size ≤ z → A z) → RtV w E p l e rm s m av.toArray below meth c A Q cc o → Wq w E p l e rm s m av.toArray below meth c A 0 0 Q q (entryFrame m av.toArray nL)) : Ct w E l y (wy y cc nL none) rm q o av none := by
  intro sz
  refine Met.ofW (cc := cc) (maxL := nL) (ret := none) hy rfl ?_
  intro p e s m args below meth c s₁ B hml hv
  obtain ⟨rfl, hsz, hP, hK, hD0⟩ := hv
  subst hsz
  have hts : ∀ w ∈ lwG, w.before av.toArray s = true := fun v hv => atoms_spec (ws := wy y cc nL none) B.pre v (List.mem_cons_of_mem _ hv)
  have hlocks := B.notSynchronized
  have hx := B.exec
  have hb := B.bytes
  have hr := B.returns
  exact body p e s m below meth c (va_A (w q) s.heap.size) _ ⟨hx, hb, hml, findClass_of_methodNamed B.named, hts, hK, hlocks, hr⟩ (fun z h => Or.inr h)
    (fun pc ls hd H locs hP1 hD1 hS => W.vret hx hb hr (fun t ht hW => ⟨⟨rfl, by rw [ht]; exact hP1, hD1⟩, hS.F ht⟩) hS.2.2 hd) s.heap [] hP (hD0.self) va_S.rf
/-- the entry's locals -/
theorem en_W {p : Program} {e : Env} {R : Room} {s : State} {m : MethodId} {args : Array Value} {below : List Frame} {meth : Method} {c : Code} {H : Heap} {locs : List Loc} {cells slots : Nat} {Q : State → Prop} {nL : Nat} (vs : List Value) (hn : (lg_sl vs).length ≤ nL) (kk : ∀ ls : Array Slot, lv_has ls nL (lv_args 0 vs) → W p l e R s m args below meth c H locs cells slots Q (F0 m 0 ls [])) : W p l e R s m args below meth c H locs cells slots Q (entryFrame m vs.toArray nL) := by
  have hl := lv_entry vs (n := nL) hn
  rw [lg_entry_eq]
  exact kk _ hl
end CT
