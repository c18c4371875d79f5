section MF
variable {l : Launch}
theorem ofWF {y : MethodName} {ws ws' : List Cond} {rm : Room} {Pc : Array Value → State → Prop} {Qc : Array Value → State → Outcome → State → Prop} {mc ms : Nat} {free : Addr → Prop} {cc : ByteArray} {maxL : Nat} {ret : Option FieldType}
    (hy : plainFor y = true) (hw : ws = Cond.code y cc maxL ret :: ws')
    (body : ∀ p e s m args below meth c s₁, BodyLoose p l y (headSpec ws rm) cc maxL ret e s m args below meth c s₁ → c.maxLocals = maxL → Pc args s →
      W p l e (headSpec ws rm).room s m args below meth c s.heap [] 0 0 (MQ below Qc args s mc ms free) (entryFrame m args maxL)) : Met l y ws rm Pc Qc mc ms free := by
  refine MetFree.of_bodySF (code := cc) (maxLocals := maxL) (ret := ret) hy ?_ ?_
  · intro args s m h hn
    obtain ⟨meth, c, h1, h2, h3, h4, h5, h6, -, -⟩ := Cond.code_spec hn (atoms_spec (ws := ws) h _ (by rw [hw]; exact List.mem_cons_self))
    exact ⟨meth, c, h1, h2, h3, h4, h5, h6⟩
  · intro p e s m args below meth c s₁ B hml hP _
    have hh0 : s₁.heap = s.heap := by rw [B.state]; rfl
    obtain ⟨t, a1, o, b1, b2, b3⟩ := body p e s m args below meth c s₁ B hml hP s₁ hh0 (Stand.of_body B)
    exact ⟨t, o, a1, b1, b2, ⟨b3.1, b3.2⟩⟩
end MF
section CTF
variable {w : QS → va_W} {E : En} {l : Launch} {own : String} {cc : ByteArray} {nL : Nat} {y : MethodName} {rm : Room} {q q' : QS} {av : List Value}
theorem ct_IF {o : Int32 × QS} (hy : plainFor y = true) (hrm : rm = { frames := rm.frames, cells := 0, slots := 0, locals := rm.locals }) (body : ∀ (p : Program) (e : Env) (s : State) (m : MethodId) (below : List Frame) (meth : Method) (c : Code) (A : Nat → Prop) (Q : State → Prop), Fx E p s m av.toArray meth c y.cls cc nL (some .int) → (∀ z : Nat, s.heap.size ≤ z → A z) → RtI w E p l e rm s m av.toArray below meth c A Q cc o → Wq w E p l e rm s m av.toArray below meth c A 0 0 Q q (entryFrame m av.toArray nL)) : Ct w E l y (wy y cc nL (some .int)) rm q o.2 av (some (.int o.1)) := by
  intro sz
  refine ofWF (cc := cc) (maxL := nL) (ret := some .int) hy rfl ?_
  intro p e s m args below meth c s₁ B hml hv
  obtain ⟨rfl, hsz, hP, hK, hD0⟩ := hv
  subst hsz
  have hts : ∀ w ∈ lwG, w.before av.toArray s = true := fun v hv => atoms_spec (ws := wy y cc nL (some .int)) B.pre v (List.mem_cons_of_mem _ hv)
  have hlocks := B.notSynchronized
  have hx := B.exec
  have hb := B.bytes
  have hr := B.returns
  exact body p e s m below meth c (va_A (w q) s.heap.size) _ ⟨hx, hb, hml, findClass_of_methodNamed B.named, hts, hK, hlocks, hr⟩ (fun z h => Or.inr h)
    (fun pc ls hd H locs hP1 hD1 hS => W.iret hx hb hr (fun t ht hW => ⟨⟨rfl, by rw [ht]; exact hP1, hD1⟩, hS.F ht⟩) hS.2.2 hd) s.heap [] hP (hD0.self) va_S.rf
theorem ct_LF {o : Int64 × QS} (hy : plainFor y = true) (body : ∀ (p : Program) (e : Env) (s : State) (m : MethodId) (below : List Frame) (meth : Method) (c : Code) (A : Nat → Prop) (Q : State → Prop), Fx E p s m av.toArray meth c y.cls cc nL (some .long) → (∀ z : Nat, s.heap.size ≤ z → A z) → RtL w E p l e rm s m av.toArray below meth c A Q cc o → Wq w E p l e rm s m av.toArray below meth c A 0 0 Q q (entryFrame m av.toArray nL)) : Ct w E l y (wy y cc nL (some .long)) rm q o.2 av (some (.long o.1)) := by
  intro sz
  refine ofWF (cc := cc) (maxL := nL) (ret := some .long) hy rfl ?_
  intro p e s m args below meth c s₁ B hml hv
  obtain ⟨rfl, hsz, hP, hK, hD0⟩ := hv
  subst hsz
  have hts : ∀ w ∈ lwG, w.before av.toArray s = true := fun v hv => atoms_spec (ws := wy y cc nL (some .long)) B.pre v (List.mem_cons_of_mem _ hv)
  have hlocks := B.notSynchronized
  have hx := B.exec
  have hb := B.bytes
  have hr := B.returns
  exact body p e s m below meth c (va_A (w q) s.heap.size) _ ⟨hx, hb, hml, findClass_of_methodNamed B.named, hts, hK, hlocks, hr⟩ (fun z h => Or.inr h)
    (fun pc ls hd H locs hP1 hD1 hS => W.lret hx hb hr (fun t ht hW => ⟨⟨rfl, by rw [ht]; exact hP1, hD1⟩, hS.F ht⟩) hS.2.2 hd) s.heap [] hP (hD0.self) va_S.rf
end CTF
def FU : Nat := 100000
theorem zz_0 : zz 0 := by show vp_nar .boolean 0 = 0; rfl
theorem zz_1 : zz 1 := by show vp_nar .boolean 1 = 1; rfl
theorem zz_fit {x : Int32} (h : zz x) : fits .boolean (.int x) = true := by
  have h1 := zz_nar h
  rw [← h1]
  simp [narrow, fits]
  rw [pk_and x (m := 1) 1 (by decide)]
  rcases Nat.mod_two_eq_zero_or_one x.toBitVec.toNat with h | h
  · left; rw [show x.toBitVec.toNat % 2 ^ 1 = 0 from h]; rfl
  · right; rw [show x.toBitVec.toNat % 2 ^ 1 = 1 from h]; rfl
theorem pf_max : plainFor yJ9_max_7cf53 = true := by decide +kernel
theorem pf_min : plainFor yJ9_min_7cf53 = true := by decide +kernel
theorem pf_floorMod : plainFor yJ9_floorMod_f86c9 = true := by decide +kernel
theorem ac_nat : Cond.native arraycopyName ∈ lwG := mg 902 (by decide +kernel) (by decide +kernel)
theorem ac_st : Cond.static arraycopyName ∈ lwG := mg 901 (by decide +kernel) (by decide +kernel)
theorem ac_in : Cond.initialized "java/lang/System" ∈ lwG := mg 75 (by decide +kernel) (by decide +kernel)
theorem lm_X6_288 : Cond.methodLink RX6 288 arraycopyName ∈ lwG := mg 900 (by decide +kernel) (by decide +kernel)
