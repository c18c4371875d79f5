def rmr (j : Nat) : Bool := Nat.beq j 13 || (Nat.ble 50 j && Nat.ble j 57)
/-- the state with a new room of n -/
def newRoom (q : QS) (n : Nat) : QS := (fun j => if rmr j = true then fun _ => 0 else q.1 j, fun j => if j = 14 then fun _ => 0 else q.2.1 j, fun j => if j = 12 then nI n else q.2.2.1 j, n)
def reA (E : En) (ad : Nat → Nat) : En := (E.1, E.2.1, ad)
def rrole (k : Nat) : Bool := Nat.beq k 12 || Nat.beq k 13 || Nat.beq k 14 || (Nat.ble 49 k && Nat.ble k 57)
/-- the contract of a method that may make a room -/
def Ca (E : En) (l : Launch) (y : MethodName) (ws : List Cond) (rm : Room) (q q' : QS) (av : List Value) (rv : Option Value) (mc ms : Nat) : Prop :=
  ∀ sz : Nat, Met l y ws rm (va_Pc av (fun U => U.heap.size = sz ∧ va_P E.1 vwCl (wX E q) U.heap ∧ va_K E.1 vwCl (eT E) U ∧ va_D (fun _ => True) (wX E q)))
    (fun _ st oc t => (oc = .returned rv ∧ ∃ ad : Nat → Nat, (∀ k, rrole k = false → ad k = E.2.2 k) ∧ va_P E.1 vwCl (wX (reA E ad) q') t.heap ∧ va_D (va_A (wX E q) sz) (wX (reA E ad) q')) ∧ va_F (va_A (wX E q) sz) st t) mc ms (va_A (wX E q) sz)
theorem ca_V {E : En} {l : Launch} {y : MethodName} {cc : ByteArray} {nL : Nat} {rm : Room} {q o : QS} {av : List Value} {mc ms : Nat} (hy : plainName y.cls = true)
    (body : ∀ (p : Program) (e : Env) (s : State) (m : MethodId) (below : List Frame) (meth : Method) (c : Code) (A : Nat → Prop) (Q : State → Prop), Fx E p s m av.toArray meth c y.cls cc nL none → (∀ z : Nat, s.heap.size ≤ z → A z) →
      (∀ (ad : Nat → Nat) (pc : Nat) (ls : Array Slot) (H : Heap) (locs : List Loc), (∀ k, rrole k = false → ad k = E.2.2 k) → decode cc pc = .ok (.return_, 1) → va_P E.1 vwCl (wX (reA E ad) o) H → va_D A (wX (reA E ad) o) → va_S A s.heap H locs → W p l e rm s m av.toArray below meth c H locs mc ms Q (F0 m pc ls [])) →
      va_P E.1 vwCl (wX E q) s.heap → va_D A (wX E q) → va_S A s.heap s.heap [] → W p l e rm s m av.toArray below meth c s.heap [] 0 0 Q (entryFrame m av.toArray nL)) : Ca E l y (wy y cc nL none) rm q o av none mc ms := by
  intro sz
  refine Met.ofW (cc := cc) (maxL := nL) (ret := none) hy rfl ?_
  intro p e s m args below meth c s₁ B hml hv
  obtain ⟨rfl, hsz, hP, hK, hD0⟩ := hv
  subst hsz
  have hts : ∀ w ∈ lwG, w.before av.toArray s = true := fun v hv => atoms_spec (ws := wy y cc nL none) B.pre v (List.mem_cons_of_mem _ hv)
  have hlocks := B.notSynchronized
  have hx := B.exec
  have hb := B.bytes
  have hr := B.returns
  exact body p e s m below meth c (va_A (wX E q) s.heap.size) _ ⟨hx, hb, hml, findClass_of_methodNamed B.named, hts, hK, hlocks, hr⟩ (fun z h => Or.inr h)
    (fun ad pc ls H locs had hd hP1 hD1 hS => W.vret hx hb hr (fun t ht hW => ⟨⟨rfl, ad, had, by rw [ht]; exact hP1, hD1⟩, hS.F ht⟩) hS.2.2 hd) hP (hD0.self) va_S.rf
theorem ca_I {E : En} {l : Launch} {y : MethodName} {cc : ByteArray} {nL : Nat} {rm : Room} {q : QS} {o : Int32 × QS} {av : List Value} {mc ms : Nat} (hy : plainName y.cls = true)
    (body : ∀ (p : Program) (e : Env) (s : State) (m : MethodId) (below : List Frame) (meth : Method) (c : Code) (A : Nat → Prop) (Q : State → Prop), Fx E p s m av.toArray meth c y.cls cc nL (some .int) → (∀ z : Nat, s.heap.size ≤ z → A z) →
      (∀ (ad : Nat → Nat) (pc : Nat) (ls : Array Slot) (H : Heap) (locs : List Loc), (∀ k, rrole k = false → ad k = E.2.2 k) → decode cc pc = .ok (.ireturn, 1) → va_P E.1 vwCl (wX (reA E ad) o.2) H → va_D A (wX (reA E ad) o.2) → va_S A s.heap H locs → W p l e rm s m av.toArray below meth c H locs mc ms Q (F0 m pc ls [.int o.1])) →
      va_P E.1 vwCl (wX E q) s.heap → va_D A (wX E q) → va_S A s.heap s.heap [] → W p l e rm s m av.toArray below meth c s.heap [] 0 0 Q (entryFrame m av.toArray nL)) : Ca E l y (wy y cc nL (some .int)) rm q o.2 av (some (.int o.1)) mc ms := by
  intro sz
  refine Met.ofW (cc := cc) (maxL := nL) (ret := some .int) hy rfl ?_
  intro p e s m args below meth c s₁ B hml hv
  obtain ⟨rfl, hsz, hP, hK, hD0⟩ := hv
  subst hsz
  have hts : ∀ w ∈ lwG, w.before av.toArray s = true := fun v hv => atoms_spec (ws := wy y cc nL (some .int)) B.pre v (List.mem_cons_of_mem _ hv)
  have hlocks := B.notSynchronized
  have hx := B.exec
  have hb := B.bytes
  have hr := B.returns
  exact body p e s m below meth c (va_A (wX E q) s.heap.size) _ ⟨hx, hb, hml, findClass_of_methodNamed B.named, hts, hK, hlocks, hr⟩ (fun z h => Or.inr h)
    (fun ad pc ls H locs had hd hP1 hD1 hS => W.iret hx hb hr (fun t ht hW => ⟨⟨rfl, ad, had, by rw [ht]; exact hP1, hD1⟩, hS.F ht⟩) hS.2.2 hd) hP (hD0.self) va_S.rf
/-- a call of a method that may make a room -/
theorem q_callA {E : En} {p : Program} {l : Launch} {e : Env} {R : Room} {s : State} {m : MethodId} {args : Array Value} {below : List Frame} {meth : Method} {c : Code} {H : Heap} {locs : List Loc} {cells slots : Nat} {Q : State → Prop} {A : Nat → Prop} {own : String} {cc : ByteArray} {nL : Nat} {ret : Option FieldType} {pc : Nat} {ls : Array Slot} {rest : List Value} {q q' : QS}
    (F : Fx E p s m args meth c own cc nL ret) (hA : ∀ z : Nat, s.heap.size ≤ z → A z) (hP : va_P E.1 vwCl (wX E q) H) (hD : va_D A (wX E q)) (hS : va_S A s.heap H locs) {y : MethodName} {b : ByteArray} {ml n idx : Nat} {rt : Option FieldType} {rm : Room} {As st0 : List Value} {rv : Option Value} {b0 mc ms : Nat} (hM : Ca E l y (wy y b ml rt) rm q q' (.ref b0 :: As) rv mc ms) (K : Cf y b ml rt n) (hin : Cond.instanceMethod y ∈ lwG) (hse : Cond.selects y.cls y y ∈ lwG) (hlink : Cond.methodLink own idx y ∈ lwG) (o : Nat) {ci : Nat} {fs : List Value} {T : u_T} {N : Nat} (he : (wX E q)[o]? = some (b0, .inr (ci, fs))) (hc : vwCl[ci]? = some (y.cls, T, N)) (hrm : rm.cells = mc ∧ rm.slots = ms) (hR : rm.frames + 1 ≤ R.frames ∧ 8 + (ml + 11) + rm.locals ≤ R.locals) (hn : As.length = n) (hls : ls.size = nL) (hstk : st0 = As.reverse ++ .ref b0 :: rest) (hw : (rest.map fun v => v.category).sum ≤ 8) (hdg : decode cc pc = .ok (.invokevirtual idx, 3)) (hcs : cells + mc ≤ R.cells ∧ slots + ms ≤ R.slots)
    (kk : ∀ ad : Nat → Nat, (∀ k, rrole k = false → ad k = E.2.2 k) → Wq (wX (reA E ad)) (reA E ad) p l e R s m args below meth c A (cells + mc) (slots + ms) Q q' (F0 m (pc + 3) ls (rv.toList ++ rest))) : W p l e R s m args below meth c H locs cells slots Q (F0 m pc ls st0) := by
  have hrun := va_runV (p := p) (l := l) (e := e) (below := below) (meth := meth) (locs := locs) (cells := cells) (slots := slots) (g := F0 m pc ls st0) (As := As) (rest := rest) (C := y.cls) ⟨F.1, F.2.1, F.2.2.1, F.2.2.2.1, F.2.2.2.2.1⟩ (hM H.size) ⟨callB_of n F.2.2.2.2.1 (lw_gi K.1) rfl hrm.1 hrm.2 (F.2.2.2.2.1 _ K.2.1) (F.2.2.2.2.1 _ hlink) K.2.2 hR, F.2.2.2.2.1 _ hin, F.2.2.2.2.1 _ hse⟩ ⟨(r_pre (w := wX E) hP hD F.2.2.2.2.2.1).1, va_recv F.2.2.2.2.2.1 hP hc he, (r_pre (w := wX E) hP hD F.2.2.2.2.2.1).2⟩ rfl hn hls hstk (lv_room hw) hdg hcs
  intro T hT X
  have hF : ∀ z, va_A (wX E q) H.size z → A z := fun z h => by
    rcases h with ⟨k, x, h⟩ | h
    · exact hD.2 k (z, x) h
    · exact hA z (Nat.le_trans hS.1 h)
  obtain ⟨v, st₀, t, T', L, h0, X', hL, e1, e2, ⟨⟨hv, ad, had, hp, hd⟩, hz, hk⟩, st⟩ := hrun T hT X
  cases hv
  rw [h0] at hz hk
  obtain ⟨t2, a1, b1⟩ := kk ad had T'.heap (locs ++ L) (by rw [e1]; exact hp) (hd.weaken (fun _ _ _ h => hF _ h))
    ⟨Nat.le_trans hS.1 (by rw [e1]; exact hz), fun z h1 h2 => by rw [e1, hk z (Nat.lt_of_lt_of_le h1 hS.1) (fun y => h2 (hF z y))]; exact hS.2.1 z h1 h2, fun z hz2 => by
      rcases List.mem_append.mp hz2 with h | h
      · exact hS.2.2 z h
      · exact hF _ (hL z h)⟩ T' rfl X'
  exact ⟨t2, st t2 a1, b1⟩
/-! makeRoomFor -/
def mcap (q : QS) (x1 : Int32) : Int32 := if x1 < (if (2 : Int32) * qF q 12 < 2000 then (2 : Int32) * qF q 12 else 2000) then (if (2 : Int32) * qF q 12 < 2000 then (2 : Int32) * qF q 12 else 2000) else x1
def f_mrf (q : QS) (x1 : Int32) : Option QS := if x1 ≤ qF q 12 then some q else if mcap q x1 < 0 ∨ 2000 < (mcap q x1).toNatClampNeg then none else some (newRoom q (mcap q x1).toNatClampNeg)
def mrf_c (q : QS) (x1 : Int32) : Nat := if x1 ≤ qF q 12 then 0 else 12
def mrf_s (q : QS) (x1 : Int32) : Nat := if x1 ≤ qF q 12 then 0 else 12 + 48 * (mcap q x1).toNatClampNeg
def rm_mrf (q : QS) (x1 : Int32) : Room := { frames := 3, cells := mrf_c q x1, slots := mrf_s q x1, locals := 62 }
theorem mm_c : Cond.code Lib.Math.min.name Lib.Math.min.code 2 (some .int) ∈ lwG := mg 686 (by decide +kernel) (by decide +kernel)
theorem mm_s : Cond.static Lib.Math.min.name ∈ lwG := mg 685 (by decide +kernel) (by decide +kernel)
theorem mm_l : Cond.methodLink RX6 124 Lib.Math.min.name ∈ lwG := mg 684 (by decide +kernel) (by decide +kernel)
theorem mx_c : Cond.code Lib.Math.max.name Lib.Math.max.code 2 (some .int) ∈ lwG := mg 677 (by decide +kernel) (by decide +kernel)
theorem mx_s : Cond.static Lib.Math.max.name ∈ lwG := mg 676 (by decide +kernel) (by decide +kernel)
theorem mx_l : Cond.methodLink RX6 130 Lib.Math.max.name ∈ lwG := mg 691 (by decide +kernel) (by decide +kernel)
set_option maxHeartbeats 4000000 in
set_option maxRecDepth 100000 in
theorem c_mrf {E : En} {l : Launch} (q : QS) (x1 : Int32) {o : QS} (h : f_mrf q x1 = some o) : Ca E l yX6_makeRoomFor (wy yX6_makeRoomFor cX6_makeRoomFor 2 none) (rm_mrf q x1) q o [.ref (eA E 47), .int x1] none (mrf_c q x1) (mrf_s q x1) := by
  refine ca_V (by decide +kernel) ?_
  intro p e s m below meth c A Q F hA hRt hP hD hS
  have hx := F.1
  have hb := F.2.1
  refine en_W _ (Nat.le_of_ble_eq_true rfl) (fun ls hl => ?_)
  have hl : lv_has ls 2 [(0, .ref (eA E 47)), (1, .int x1)] := hl
  refine lv_iload_n hx hb dX6_makeRoomFor_0 rfl (lv_at hl 1 rfl) ?_
  refine lv_aload_n hx hb dX6_makeRoomFor_1 rfl (lv_at hl 0 rfl) ?_
  refine r_get F hP i_X6 47 (xe_47 E q) rfl 9 (by decide) rfl lf_X6_54 rfl dX6_makeRoomFor_2 ?_
  refine r_get F hP i_X5 49 (xe_49 E q) rfl 0 (by decide) rfl lf_X6_121 rfl dX6_makeRoomFor_5 ?_
  unfold f_mrf at h
  refine lv_icmp_le (tgt := 41) hx hb dX6_makeRoomFor_8 (by decide) (fun c1 => ?_) (fun c1 => ?_)
  · rw [if_pos c1] at h
    cases h
    refine W.widen (k := mrf_c q x1) (n := mrf_s q x1) (Nat.zero_le _) (Nat.zero_le _) ?_
    exact hRt E.2.2 _ _ _ _ (fun _ _ => rfl) dX6_makeRoomFor_41 hP hD hS
  · rw [if_neg c1] at h
    have hmc : mrf_c q x1 = 12 := if_neg c1
    have hms : mrf_s q x1 = 12 + 48 * (mcap q x1).toNatClampNeg := if_neg c1
    by_cases hcp : mcap q x1 < 0 ∨ 2000 < (mcap q x1).toNatClampNeg
    · rw [if_pos hcp] at h; cases h
    rw [if_neg hcp] at h
    cases h
    obtain ⟨n, hn31, hn⟩ := nI_of (x := mcap q x1) (fun z => hcp (Or.inl z))
    have hcl : (mcap q x1).toNatClampNeg = n := by rw [hn]; exact nI_clamp hn31
    rw [hcl] at hcp hms
    have hn2 : n ≤ 2000 := by
      rcases Nat.lt_or_ge 2000 n with z | z
      · exact absurd (Or.inr z) hcp
      · exact z
    have hrc : (rm_mrf q x1).cells = 12 := hmc
    have hrs : (rm_mrf q x1).slots = 12 + 48 * n := hms
    refine lv_aload_n hx hb dX6_makeRoomFor_11 rfl (lv_at hl 0 rfl) ?_
    refine r_new (ci := 5) (fs := [.int 0, .null, .null, .null, .null, .null, .null, .null, .null, .null]) F hA hP hD hS i_X5 tyX5_ok lk_X6_49 li_X5 lz_X5 rfl (by decide +kernel) (by rw [hrc]; omega) (by rw [hrs]; omega) dX6_makeRoomFor_12 (fun a H hP hD hS => ?_)
    refine lv_dup hx hb dX6_makeRoomFor_15 rfl ?_
    refine lv_iload_n hx hb dX6_makeRoomFor_16 rfl (lv_at hl 1 rfl) ?_
    refine lv_sipush (v := 2000) hx hb dX6_makeRoomFor_17 (by decide) ?_
    refine lv_iconst (v := 2) hx hb dX6_makeRoomFor_20 (by decide) ?_
    refine lv_aload_n hx hb dX6_makeRoomFor_21 rfl (lv_at hl 0 rfl) ?_
    refine r_get F hP i_X6 47 (show (wX E q ++ _)[47]? = _ from rfl) rfl 9 (by decide) rfl lf_X6_54 rfl dX6_makeRoomFor_22 ?_
    refine r_get F hP i_X5 49 (show (wX E q ++ _)[49]? = _ from rfl) rfl 0 (by decide) rfl lf_X6_121 rfl dX6_makeRoomFor_25 ?_
    refine lv_imul hx hb dX6_makeRoomFor_28 ?_
    refine va_mmin hx hb (by rw [F.2.2.1]; exact hl.1.symm) F.2.2.2.1 (F.2.2.2.2.1 _ mm_l) (F.2.2.2.2.1 _ mm_s) (F.2.2.2.2.1 _ (k_J9_min_7cf53).2.1) (F.2.2.2.2.1 _ mm_c) (Nat.le_of_ble_eq_true rfl) (Nat.le_of_ble_eq_true rfl) (by rw [hrc]; omega) (by rw [hrs]; omega) dX6_makeRoomFor_29 ?_
    refine va_mmax hx hb (by rw [F.2.2.1]; exact hl.1.symm) F.2.2.2.1 (F.2.2.2.2.1 _ mx_l) (F.2.2.2.2.1 _ mx_s) (F.2.2.2.2.1 _ (k_J9_max_7cf53).2.1) (F.2.2.2.2.1 _ mx_c) (Nat.le_of_ble_eq_true rfl) (Nat.le_of_ble_eq_true rfl) (by rw [hrc]; omega) (by rw [hrs]; omega) dX6_makeRoomFor_32 ?_
    refine lv_topi (fun z hz => ?_)
    have hz : z = nI n := hz.trans hn
    subst hz
    refine q_callI (As := [.int (nI n)]) (rest := [.ref a, .ref (eA E 47)]) (win := [(a, .inr (5, [.int 0, .null, .null, .null, .null, .null, .null, .null, .null, .null]))]) (wr := wX E q) F hA hP hD hS (c_X5_init (E := E) (l := l) a n hn2) [58] [0, 1, 2, 3, 4, 5, 6, 7, 8, 9, 10, 11, 12, 13, 14, 15, 16, 17, 18, 19, 20, 21, 22, 23, 24, 25, 26, 27, 28, 29, 30, 31, 32, 33, 34, 35, 36, 37, 38, 39, 40, 41, 42, 43, 44, 45, 46, 47, 48, 49, 50, 51, 52, 53, 54, 55, 56, 57] rfl rfl (by decide) (by decide) (by decide) k_X5_init rfl in_X5_init lm_X6_51 ⟨rfl, rfl⟩ ⟨Nat.le_of_ble_eq_true rfl, Nat.le_of_ble_eq_true rfl⟩ rfl hl.1 rfl (Nat.le_of_ble_eq_true rfl) dX6_makeRoomFor_35 ⟨by rw [hrc]; omega, by rw [hrs]; omega⟩ (fun ad H locs hP hD hS => ?_)
    refine r_putL (ty := .object "QueryRunner$Room") (v := .ref a) F hP hD hS i_X6 tyX6_ok nmX6 47 rfl rfl 9 (by decide) rfl lf_X6_54 rfl (by decide +kernel) rfl rfl (Nat.le_of_ble_eq_true rfl) dX6_makeRoomFor_38 (fun H locs hP hD hS => ?_)
    refine W.widen (k := mrf_c q x1) (n := mrf_s q x1) (by rw [hmc]; omega) (by rw [hms]; omega) ?_
    refine hRt (fun k => if rrole k = true then (match k with | 12 => ad 8 | 13 => ad 9 | 14 => ad 10 | 49 => a | 50 => ad 0 | 51 => ad 1 | 52 => ad 2 | 53 => ad 3 | 54 => ad 4 | 55 => ad 5 | 56 => ad 6 | _ => ad 7) else E.2.2 k) _ _ _ _ ?_ dX6_makeRoomFor_41 ?_ ?_ hS
    · intro k hk
      exact if_neg (by rw [hk]; decide)
    · rw [hcl]
      exact hP.sub [0, 1, 2, 3, 4, 5, 6, 7, 8, 9, 10, 11, 67, 68, 69, 15, 16, 17, 18, 19, 20, 21, 22, 23, 24, 25, 26, 27, 28, 29, 30, 31, 32, 33, 34, 35, 36, 37, 38, 39, 40, 41, 42, 43, 44, 45, 46, 47, 48, 58, 59, 60, 61, 62, 63, 64, 65, 66] rfl
    · rw [hcl]
      exact hD.sub [0, 1, 2, 3, 4, 5, 6, 7, 8, 9, 10, 11, 67, 68, 69, 15, 16, 17, 18, 19, 20, 21, 22, 23, 24, 25, 26, 27, 28, 29, 30, 31, 32, 33, 34, 35, 36, 37, 38, 39, 40, 41, 42, 43, 44, 45, 46, 47, 48, 58, 59, 60, 61, 62, 63, 64, 65, 66] (by decide) rfl
