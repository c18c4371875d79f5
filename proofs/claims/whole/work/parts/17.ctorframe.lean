/-! constructors: worlds as lists; a contract from the cells that stand to the cells that stand then, at addresses that come -/
def Cn (E : En) (l : Launch) (y : MethodName) (ws : List Cond) (rm : Room) (win : va_W) (av : List Value) (mc ms : Nat) (wout : (Nat → Nat) → va_W) : Prop :=
  ∀ sz : Nat, Met l y ws rm (va_Pc av (fun U => U.heap.size = sz ∧ va_P E.1 vwCl win U.heap ∧ va_K E.1 vwCl (eT E) U ∧ va_D (fun _ => True) win))
    (fun _ st oc t => (oc = .returned none ∧ ∃ ad : Nat → Nat, va_P E.1 vwCl (wout ad) t.heap ∧ va_D (va_A win sz) (wout ad)) ∧ va_F (va_A win sz) st t) mc ms (va_A win sz)
section CN
variable {E : En} {p : Program} {l : Launch} {e : Env} {R : Room} {s : State} {m : MethodId} {args : Array Value} {below : List Frame} {meth : Method} {c : Code} {H : Heap} {locs : List Loc} {cells slots : Nat} {Q : State → Prop} {A : Nat → Prop}
variable {own : String} {cc : ByteArray} {nL : Nat} {ret : Option FieldType} {pc : Nat} {ls : Array Slot} {rest : List Value} {ws : va_W}
theorem r_newa (F : Fx E p s m args meth c own cc nL ret) (hA : ∀ z : Nat, s.heap.size ≤ z → A z) (hP : va_P E.1 vwCl ws H) (hD : va_D A ws) (hS : va_S A s.heap H locs) {atype : ArrayType} {ty : FieldType} (hw : Cond.arrayClass (newarray.typeOf atype) ∈ lwG) (hty : newarray.typeOf atype = ty) (t : Nat) {ct : ClassId} (ht : (eT E)[t]? = some (ct, ty)) (hprim : ∀ C, ty ≠ .object C) {n : Int32} {N : Nat} {a0 : vp_A} (ha : ∀ cA : ClassId, vp_cell cA a0 = arrV cA N (fun _ => defaultValue ty)) (hn : ¬ n < 0) (hN : n.toNatClampNeg = N) (hbytes : N * componentBytes ty ≤ 536870912) (hcells : cells + 1 ≤ R.cells) (hslots : slots + N ≤ R.slots) (hdg : decode cc pc = .ok (.newarray atype, 2))
    (kk : ∀ (q : Nat) (H1 : Heap), va_P E.1 vwCl (ws ++ [(q, .inl (ct, a0))]) H1 → va_D A (ws ++ [(q, .inl (ct, a0))]) → va_S A s.heap H1 locs → W p l e R s m args below meth c H1 locs (cells + 1) (slots + N) Q (F0 m (pc + 2) ls (.ref q :: rest))) : W p l e R s m args below meth c H locs cells slots Q (F0 m pc ls (.int n :: rest)) := by
  refine va_newa F.1 F.2.1 (F.2.2.2.2.1 _ hw) hty F.2.2.2.2.2.1 hP hD hS hA ha hn hN hbytes hcells hslots hdg (fun q cA H1 hK1 hP1 hD1 hS1 => ?_)
  have h1 := (hK1.2 5 (cA, ty) rfl).2
  have h2 := (F.2.2.2.2.2.1.2 t (ct, ty) ht).2
  have h3 : cA = ct := by
    dsimp only at h1 h2
    cases ty
    all_goals first
      | exact absurd rfl (hprim _)
      | (unfold va_RA at h1 h2; dsimp only at h1 h2; rw [h1] at h2; exact Option.some.inj h2)
  subst h3
  exact kk q H1 hP1 hD1 hS1
theorem r_new (F : Fx E p s m args meth c own cc nL ret) (hA : ∀ z : Nat, s.heap.size ≤ z → A z) (hP : va_P E.1 vwCl ws H) (hD : va_D A ws) (hS : va_S A s.heap H locs) {C : String} {T : u_T} {N ci idx : Nat} (hin : ∀ w ∈ u_ws C T N, w ∈ lwG) {ty : Nat → FieldType} (hty : ∀ k, k < N → parseFieldDescriptor (T k).2.2.1 = some (ty k)) (hcl : Cond.classLink own idx C ∈ lwG) (hinst : Cond.instantiable C N ∈ lwG) (hini : Cond.initialized C ∈ lwG) (hc : vwCl[ci]? = some (C, T, N)) {fs : List Value} (hfs : ∀ j, j < N → defaultValue (ty j) = vp_V fs j) (hcells : cells + 1 ≤ R.cells) (hslots : slots + N ≤ R.slots) (hdg : decode cc pc = .ok (.new idx, 3))
    (kk : ∀ (q : Nat) (H1 : Heap), va_P E.1 vwCl (ws ++ [(q, .inr (ci, fs))]) H1 → va_D A (ws ++ [(q, .inr (ci, fs))]) → va_S A s.heap H1 locs → W p l e R s m args below meth c H1 locs (cells + 1) (slots + N) Q (F0 m (pc + 3) ls (.ref q :: rest))) : W p l e R s m args below meth c H locs cells slots Q (F0 m pc ls rest) :=
  va_new F.1 F.2.1 F.2.2.2.2.1 hin ty hty F.2.2.2.1 (F.2.2.2.2.1 _ hcl) (F.2.2.2.2.1 _ hinst) (F.2.2.2.2.1 _ hini) F.2.2.2.2.2.1 hP hD hS hA hc hfs hcells hslots hdg kk
theorem r_putF (F : Fx E p s m args meth c own cc nL ret) (hnm0 : meth.name = "<init>") (hP : va_P E.1 vwCl ws H) (hD : va_D A ws) (hS : va_S A s.heap H locs) {T : u_T} {N ci idx : Nat} (hin : ∀ w ∈ u_ws own T N, w ∈ lwG) {ty0 : Nat → FieldType} (hty : ∀ k, k < N → parseFieldDescriptor (T k).2.2.1 = some (ty0 k)) (hnm : ∀ a, a < N → ∀ b, b < N → a ≠ b → (T a).2.1 ≠ (T b).2.1) (o : Nat) {a : Nat} {fs : List Value} (he : ws[o]? = some (a, .inr (ci, fs))) (hc : vwCl[ci]? = some (own, T, N)) (k : Nat) (hk : k < N) (hT : (T k).1 = own) (hlink : Cond.fieldLink own idx own (T k).2.1 (T k).2.2.1 ∈ lwG) (hfin : (T k).2.2.2 = true) {ty : FieldType} {v : Value} (hd : parseFieldDescriptor (T k).2.2.1 = some ty) (hn : narrow ty v = v) (hfit : fits ty v = true) (hl : k < fs.length) (hdg : decode cc pc = .ok (.putfield idx, 3))
    (kk : ∀ (H1 : Heap) (locs1 : List Loc), va_P E.1 vwCl (ws.set o (a, .inr (ci, fs.set k v))) H1 → va_D A (ws.set o (a, .inr (ci, fs.set k v))) → va_S A s.heap H1 locs1 → W p l e R s m args below meth c H1 locs1 cells slots Q (F0 m (pc + 3) ls rest)) : W p l e R s m args below meth c H locs cells slots Q (F0 m pc ls (v :: .ref a :: rest)) :=
  va_putF F.1 F.2.1 F.2.2.2.2.1 hin ty0 hty hnm F.2.2.2.1 F.2.2.2.2.2.1 hP hD hS o he hc k hk (F.2.2.2.2.1 _ hlink) (fun x h => by rw [hT] at h; exact h) hfin hnm0 hT hd hn hfit hl hdg kk
theorem r_putL (F : Fx E p s m args meth c own cc nL ret) (hP : va_P E.1 vwCl ws H) (hD : va_D A ws) (hS : va_S A s.heap H locs) {C : String} {T : u_T} {N ci idx : Nat} (hin : ∀ w ∈ u_ws C T N, w ∈ lwG) {ty0 : Nat → FieldType} (hty : ∀ k, k < N → parseFieldDescriptor (T k).2.2.1 = some (ty0 k)) (hnm : ∀ a, a < N → ∀ b, b < N → a ≠ b → (T a).2.1 ≠ (T b).2.1) (o : Nat) {a : Nat} {fs : List Value} (he : ws[o]? = some (a, .inr (ci, fs))) (hc : vwCl[ci]? = some (C, T, N)) (k : Nat) (hk : k < N) (hT : (T k).1 = C) (hlink : Cond.fieldLink own idx C (T k).2.1 (T k).2.2.1 ∈ lwG) (hfin : (T k).2.2.2 = false) {ty : FieldType} {v : Value} (hd : parseFieldDescriptor (T k).2.2.1 = some ty) (hn : narrow ty v = v) (hfit : fits ty v = true) (hl : k < fs.length) (hdg : decode cc pc = .ok (.putfield idx, 3))
    (kk : ∀ (H1 : Heap) (locs1 : List Loc), va_P E.1 vwCl (ws.set o (a, .inr (ci, fs.set k v))) H1 → va_D A (ws.set o (a, .inr (ci, fs.set k v))) → va_S A s.heap H1 locs1 → W p l e R s m args below meth c H1 locs1 cells slots Q (F0 m (pc + 3) ls rest)) : W p l e R s m args below meth c H locs cells slots Q (F0 m pc ls (v :: .ref a :: rest)) :=
  va_put F.1 F.2.1 F.2.2.2.2.1 hin ty0 hty hnm F.2.2.2.1 F.2.2.2.2.2.1 hP hD hS o he hc k hk (F.2.2.2.2.1 _ hlink) (fun x h => by rw [hT] at h; exact h) hfin hd hn hfit hl hdg kk
theorem r_oinit (F : Fx E p s m args meth c own cc nL ret) {idx : Nat} (hl : Cond.methodLink own idx objectInit ∈ lwG) (hi : Cond.instanceMethod objectInit ∈ lwG) (hcd : Cond.code objectInit ⟨#[0xb1]⟩ 1 none ∈ lwG) (hls : ls.size = nL) {a : Nat} (hdg : decode cc pc = .ok (.invokespecial idx, 3)) (hframes : 1 ≤ R.frames) (hlocals : (rest.map fun v => v.category).sum + 12 ≤ R.locals)
    (kk : W p l e R s m args below meth c H locs cells slots Q (F0 m (pc + 3) ls rest)) : W p l e R s m args below meth c H locs cells slots Q (F0 m pc ls (.ref a :: rest)) :=
  W.objInit F.1 F.2.1 F.2.2.2.1 (F.2.2.2.2.1 _ hl) (F.2.2.2.2.1 _ hi) (F.2.2.2.2.1 _ hcd) rfl (by rw [F.2.2.1]; exact hls) rfl hdg hframes (by show 2 * 0 + _ + 12 ≤ _; omega) kk
theorem r_preN {av : List Value} {win : va_W} (hP : va_P E.1 vwCl win H) (hD : va_D A win) (hK : va_K E.1 vwCl (eT E) s) : PreS s H (va_Pc av (fun U => U.heap.size = H.size ∧ va_P E.1 vwCl win U.heap ∧ va_K E.1 vwCl (eT E) U ∧ va_D (fun _ => True) win)) av :=
  ⟨fun a U g mk h => by
    obtain ⟨q0, q1, qP, qK, qD⟩ := h
    exact ⟨q0, q1, qP, va_K.moved (u := U) (U := U.calling g mk a) (Vm.Alike.refl U.vm) qK, qD⟩, fun U hU hW => ⟨rfl, by rw [hU], by rw [hU]; exact hP, va_K.moved hW.alike hK, hD.weaken (fun _ _ _ _ => trivial)⟩⟩
/-- a constructor is called: its cells are cut out, what comes back stands behind the rest -/
theorem q_callI (F : Fx E p s m args meth c own cc nL ret) (hA : ∀ z : Nat, s.heap.size ≤ z → A z) (hP : va_P E.1 vwCl ws H) (hD : va_D A ws) (hS : va_S A s.heap H locs) {y : MethodName} {b : ByteArray} {ml n idx : Nat} {rm : Room} {As st0 : List Value} {b0 mc ms : Nat} {win wr : va_W} {wout : (Nat → Nat) → va_W} (hM : Cn E l y (wy y b ml none) rm win (.ref b0 :: As) mc ms wout) (isC isR : List Nat) (hC : isC.map (fun i => ws[i]?) = win.map some) (hRr : isR.map (fun i => ws[i]?) = wr.map some) (hnC : va_nd isC = true) (hnR : va_nd isR = true) (hdis : ∀ i ∈ isR, i ∉ isC)
    (K : Cf y b ml none n) (hnm : y.name = "<init>") (hin : Cond.instanceMethod y ∈ lwG) (hlink : Cond.methodLink own idx y ∈ lwG) (hrm : rm.cells = mc ∧ rm.slots = ms) (hR : rm.frames + 1 ≤ R.frames ∧ 8 + (ml + 11) + rm.locals ≤ R.locals) (hn : As.length = n) (hls : ls.size = nL) (hstk : st0 = As.reverse ++ .ref b0 :: rest) (hw : (rest.map fun v => v.category).sum ≤ 8) (hdg : decode cc pc = .ok (.invokespecial idx, 3)) (hcs : cells + mc ≤ R.cells ∧ slots + ms ≤ R.slots)
    (kk : ∀ (ad : Nat → Nat) (H1 : Heap) (locs1 : List Loc), va_P E.1 vwCl (wr ++ wout ad) H1 → va_D A (wr ++ wout ad) → va_S A s.heap H1 locs1 → W p l e R s m args below meth c H1 locs1 (cells + mc) (slots + ms) Q (F0 m (pc + 3) ls rest)) : W p l e R s m args below meth c H locs cells slots Q (F0 m pc ls st0) := by
  have hC' : isC.filterMap (fun i => ws[i]?) = win := by
    have h := congrArg (List.filterMap id) hC
    simpa [List.filterMap_map] using h
  have hPc := hP.sub (ws' := win) isC hC'
  have hDc := hD.sub (ws' := win) isC hnC hC
  have hFc := va_free (wc := win) hD hS hA isC hC
  have hrun := va_runI (p := p) (l := l) (e := e) (below := below) (meth := meth) (locs := locs) (cells := cells) (slots := slots) (g := F0 m pc ls st0) (As := As) (rest := rest) ⟨F.1, F.2.1, F.2.2.1, F.2.2.2.1, F.2.2.2.2.1⟩ (hM H.size) ⟨callB_of n F.2.2.2.2.1 (lw_gi K.1) rfl hrm.1 hrm.2 (F.2.2.2.2.1 _ K.2.1) (F.2.2.2.2.1 _ hlink) K.2.2 hR, hnm, F.2.2.2.2.1 _ hin⟩ (r_preN hPc hDc F.2.2.2.2.2.1) rfl hn hls hstk (lv_room hw) hdg hcs
  intro T hT X
  obtain ⟨v, st₀, t, T', L, h0, X', hL, e1, e2, ⟨⟨hv, ad, hp, hd⟩, hz, hk⟩, st⟩ := hrun T hT X
  cases hv
  rw [h0] at hz hk
  obtain ⟨hP1, hD1⟩ := va_join (wr := wr) (w1 := wout ad) (H1 := T'.heap) hP hD isC isR hC hRr hnR hdis (fun z h1 h2 => by rw [e1]; exact hk z h1 h2) hFc (by rw [e1]; exact hp) hd
  obtain ⟨t2, a1, b1⟩ := kk ad T'.heap (locs ++ L) hP1 hD1
    ⟨Nat.le_trans hS.1 (by rw [e1]; exact hz), fun z h1 h2 => by rw [e1, hk z (Nat.lt_of_lt_of_le h1 hS.1) (fun y => h2 (hFc z y))]; exact hS.2.1 z h1 h2, fun z hz2 => by
      rcases List.mem_append.mp hz2 with h | h
      · exact hS.2.2 z h
      · exact hFc _ (hL z h)⟩ T' rfl X'
  exact ⟨t2, st t2 a1, b1⟩
end CN
theorem cn_of {E : En} {l : Launch} {y : MethodName} {cc : ByteArray} {nL : Nat} {rm : Room} {win : va_W} {av : List Value} {mc ms : Nat} {wout : (Nat → Nat) → va_W} (hy : plainName y.cls = true) (hnm : y.name = "<init>")
    (body : ∀ (p : Program) (e : Env) (s : State) (m : MethodId) (below : List Frame) (meth : Method) (c : Code) (A : Nat → Prop) (Q : State → Prop), Fx E p s m av.toArray meth c y.cls cc nL none → meth.name = "<init>" → (∀ z : Nat, s.heap.size ≤ z → A z) →
      (∀ (ad : Nat → Nat) (pc : Nat) (ls : Array Slot) (H : Heap) (locs : List Loc), decode cc pc = .ok (.return_, 1) → va_P E.1 vwCl (wout ad) H → va_D A (wout ad) → va_S A s.heap H locs → W p l e rm s m av.toArray below meth c H locs mc ms Q (F0 m pc ls [])) →
      va_P E.1 vwCl win s.heap → va_D A win → va_S A s.heap s.heap [] → W p l e rm s m av.toArray below meth c s.heap [] 0 0 Q (entryFrame m av.toArray nL)) : Cn E l y (wy y cc nL none) rm win av mc ms wout := by
  intro sz
  refine Met.ofW (cc := cc) (maxL := nL) (ret := none) hy rfl ?_
  intro p e s m args below meth c s₁ B hml hv
  obtain ⟨rfl, hsz, hP, hK, hD0⟩ := hv
  subst hsz
  have hts : ∀ w ∈ lwG, w.before av.toArray s = true := fun v hv => atoms_spec (ws := wy y cc nL none) B.pre v (List.mem_cons_of_mem _ hv)
  have hlocks := B.notSynchronized
  have hx := B.exec
  have hb := B.bytes
  have hr := B.returns
  have hin : meth.name = "<init>" := by rw [(name_of_methodNamed B.named B.method).1]; exact hnm
  exact body p e s m below meth c (va_A win s.heap.size) _ ⟨hx, hb, hml, findClass_of_methodNamed B.named, hts, hK, hlocks, hr⟩ hin (fun z h => Or.inr h)
    (fun ad pc ls H locs hd hP1 hD1 hS => W.vret hx hb hr (fun t ht hW => ⟨⟨rfl, ad, by rw [ht]; exact hP1, hD1⟩, hS.F ht⟩) hS.2.2 hd) hP (hD0.self) va_S.rf
