/-! two sides in one world: the class's cells, then the reference's -/
section SD
variable {D : va_G} {cl : List vw_C} {A : Nat → Prop} {a a' b b' : va_W} {H H1 : Heap}
theorem pw_l (h : va_P D cl (a ++ b) H) : va_P D cl a H := fun k q hk => h k q (by
  rw [List.getElem?_append_left (List.getElem?_eq_some_iff.mp hk).1]; exact hk)
theorem pw_r (h : va_P D cl (a ++ b) H) : va_P D cl b H := fun k q hk => h (a.length + k) q (by
  rw [List.getElem?_append_right (Nat.le_add_right _ _), Nat.add_sub_cancel_left]; exact hk)
theorem dw_l (h : va_D A (a ++ b)) : va_D A a := ⟨fun i j x y hi hj e => h.1 i j x y (by
  rw [List.getElem?_append_left (List.getElem?_eq_some_iff.mp hi).1]; exact hi) (by
  rw [List.getElem?_append_left (List.getElem?_eq_some_iff.mp hj).1]; exact hj) e, fun k q hk => h.2 k q (by
  rw [List.getElem?_append_left (List.getElem?_eq_some_iff.mp hk).1]; exact hk)⟩
theorem dw_r (h : va_D A (a ++ b)) : va_D A b := ⟨fun i j x y hi hj e => by
  have h1 := h.1 (a.length + i) (a.length + j) x y (by
    rw [List.getElem?_append_right (Nat.le_add_right _ _), Nat.add_sub_cancel_left]; exact hi) (by
    rw [List.getElem?_append_right (Nat.le_add_right _ _), Nat.add_sub_cancel_left]; exact hj) e
  omega, fun k q hk => h.2 (a.length + k) q (by
  rw [List.getElem?_append_right (Nat.le_add_right _ _), Nat.add_sub_cancel_left]; exact hk)⟩
theorem dw_x (h : va_D A (a ++ b)) (i j : Nat) (x y : Nat × va_E) (hi : a[i]? = some x) (hj : b[j]? = some y) : x.1 ≠ y.1 := fun e => by
  have hl := (List.getElem?_eq_some_iff.mp hi).1
  have h1 := h.1 i (a.length + j) x y (by
    rw [List.getElem?_append_left hl]; exact hi) (by
    rw [List.getElem?_append_right (Nat.le_add_right _ _), Nat.add_sub_cancel_left]; exact hj) e
  omega
theorem jn1 (hP : va_P D cl (a ++ b) H) (hD : va_D A (a ++ b)) (hk : ∀ z : Nat, z < H.size → ¬ va_A a H.size z → H1[z]? = H[z]?) (hF : ∀ z, va_A a H.size z → A z) (hP1 : va_P D cl a' H1) (hD1 : va_D (va_A a H.size) a') : va_P D cl (a' ++ b) H1 ∧ va_D A (a' ++ b) := by
  have hb : ∀ (k : Nat) (q : Nat × va_E), b[k]? = some q → q.1 < H.size ∧ ¬ va_A a H.size q.1 := fun k q hq => by
    have hl := (pw_r hP k q hq).lt
    refine ⟨hl, fun z => ?_⟩
    rcases z with ⟨i, e, z⟩ | z
    · exact dw_x hD i k (q.1, e) q z hq rfl
    · omega
  refine ⟨va_P.app hP1 (fun k q hq => (pw_r hP k q hq).kept (hk q.1 (hb k q hq).1 (hb k q hq).2)), va_D.app (hD1.weaken (fun k q _ h => hF q.1 h)) (dw_r hD) (fun i j x y hx hy e => ?_)⟩
  exact (hb j y hy).2 (by rw [← e]; exact hD1.2 i x hx)
theorem jn2 (hP : va_P D cl (a ++ b) H) (hD : va_D A (a ++ b)) (hk : ∀ z : Nat, z < H.size → ¬ va_A b H.size z → H1[z]? = H[z]?) (hF : ∀ z, va_A b H.size z → A z) (hP1 : va_P D cl b' H1) (hD1 : va_D (va_A b H.size) b') : va_P D cl (a ++ b') H1 ∧ va_D A (a ++ b') := by
  have hb : ∀ (k : Nat) (q : Nat × va_E), a[k]? = some q → q.1 < H.size ∧ ¬ va_A b H.size q.1 := fun k q hq => by
    have hl := (pw_l hP k q hq).lt
    refine ⟨hl, fun z => ?_⟩
    rcases z with ⟨i, e, z⟩ | z
    · exact dw_x hD k i q (q.1, e) hq z rfl
    · omega
  refine ⟨va_P.app (fun k q hq => (pw_l hP k q hq).kept (hk q.1 (hb k q hq).1 (hb k q hq).2)) hP1, va_D.app (dw_l hD) (hD1.weaken (fun k q _ h => hF q.1 h)) (fun i j x y hx hy e => ?_)⟩
  exact (hb i x hx).2 (by rw [e]; exact hD1.2 j y hy)
end SD
section SC
variable {E : En} {p : Program} {l : Launch} {e : Env} {R : Room} {s : State} {m : MethodId} {args : Array Value} {below : List Frame} {meth : Method} {c : Code} {H : Heap} {locs : List Loc} {cells slots : Nat} {Q : State → Prop} {A : Nat → Prop}
variable {own : String} {cc : ByteArray} {nL : Nat} {ret : Option FieldType} {pc : Nat} {ls : Array Slot} {rest : List Value} {a a' b b' : va_W} {y : MethodName} {by0 : ByteArray} {ml n idx : Nat} {rt : Option FieldType} {rm : Room} {As st0 : List Value} {rv : Option Value} {b0 mc ms : Nat}
theorem q_s1 {ex : (Nat → Nat) → Prop} {wo : (Nat → Nat) → va_W} (F : Fx E p s m args meth c own cc nL ret) (hA : ∀ z : Nat, s.heap.size ≤ z → A z) (hP : va_P E.1 vwCl (a ++ b) H) (hD : va_D A (a ++ b)) (hS : va_S A s.heap H locs)
    (hM : ∀ sz : Nat, Met l y (wy y by0 ml rt) rm (va_Pc (.ref b0 :: As) (fun U => U.heap.size = sz ∧ va_P E.1 vwCl a U.heap ∧ va_K E.1 vwCl (eT E) U ∧ va_D (fun _ => True) a)) (fun _ st oc t => (oc = .returned rv ∧ ∃ ad : Nat → Nat, ex ad ∧ va_P E.1 vwCl (wo ad) t.heap ∧ va_D (va_A a sz) (wo ad)) ∧ va_F (va_A a sz) st t) mc ms (va_A a sz))
    (K : Cf y by0 ml rt n) (hin : Cond.instanceMethod y ∈ lwG) (hse : Cond.selects y.cls y y ∈ lwG) (hlink : Cond.methodLink own idx y ∈ lwG) (o : Nat) {ci : Nat} {fs : List Value} {T : u_T} {N : Nat} (he : a[o]? = some (b0, .inr (ci, fs))) (hc : vwCl[ci]? = some (y.cls, T, N)) (hrm : rm.cells = mc ∧ rm.slots = ms) (hR : rm.frames + 1 ≤ R.frames ∧ 8 + (ml + 11) + rm.locals ≤ R.locals) (hn : As.length = n) (hls : ls.size = nL) (hstk : st0 = As.reverse ++ .ref b0 :: rest) (hw : (rest.map fun v => v.category).sum ≤ 8) (hdg : decode cc pc = .ok (.invokevirtual idx, 3)) (hcs : cells + mc ≤ R.cells ∧ slots + ms ≤ R.slots)
    (kk : ∀ ad : Nat → Nat, ex ad → ∀ (H1 : Heap) (locs1 : List Loc), va_P E.1 vwCl (wo ad ++ b) H1 → va_D A (wo ad ++ b) → va_S A s.heap H1 locs1 → W p l e R s m args below meth c H1 locs1 (cells + mc) (slots + ms) Q (F0 m (pc + 3) ls (rv.toList ++ rest))) : W p l e R s m args below meth c H locs cells slots Q (F0 m pc ls st0) := by
  have hPa := pw_l hP
  have hDa := dw_l hD
  have hrun := va_runV (p := p) (l := l) (e := e) (below := below) (meth := meth) (locs := locs) (cells := cells) (slots := slots) (g := F0 m pc ls st0) (As := As) (rest := rest) (C := y.cls) ⟨F.1, F.2.1, F.2.2.1, F.2.2.2.1, F.2.2.2.2.1⟩ (hM H.size) ⟨callB_of n F.2.2.2.2.1 (lw_gi K.1) rfl hrm.1 hrm.2 (F.2.2.2.2.1 _ K.2.1) (F.2.2.2.2.1 _ hlink) K.2.2 hR, F.2.2.2.2.1 _ hin, F.2.2.2.2.1 _ hse⟩ ⟨(r_preN hPa hDa F.2.2.2.2.2.1).1, va_recv F.2.2.2.2.2.1 hPa hc he, (r_preN hPa hDa F.2.2.2.2.2.1).2⟩ rfl hn hls hstk (lv_room hw) hdg hcs
  intro T hT X
  have hF : ∀ z, va_A a H.size z → A z := fun z h => by
    rcases h with ⟨k, x, h⟩ | h
    · exact hDa.2 k (z, x) h
    · exact hA z (Nat.le_trans hS.1 h)
  obtain ⟨v, st₀, t, T', L, h0, X', hL, e1, e2, ⟨⟨hv, ad, hex, hp, hd⟩, hz, hk⟩, st⟩ := hrun T hT X
  cases hv
  rw [h0] at hz hk
  obtain ⟨hP1, hD1⟩ := jn1 (a' := wo ad) (H1 := T'.heap) hP hD (fun z h1 h2 => by rw [e1]; exact hk z h1 h2) hF (by rw [e1]; exact hp) hd
  obtain ⟨t2, a1, b1⟩ := kk ad hex T'.heap (locs ++ L) hP1 hD1
    ⟨Nat.le_trans hS.1 (by rw [e1]; exact hz), fun z h1 h2 => by rw [e1, hk z (Nat.lt_of_lt_of_le h1 hS.1) (fun y => h2 (hF z y))]; exact hS.2.1 z h1 h2, fun z hz2 => by
      rcases List.mem_append.mp hz2 with h | h
      · exact hS.2.2 z h
      · exact hF _ (hL z h)⟩ T' rfl X'
  exact ⟨t2, st t2 a1, b1⟩
theorem q_s2 (F : Fx E p s m args meth c own cc nL ret) (hA : ∀ z : Nat, s.heap.size ≤ z → A z) (hP : va_P E.1 vwCl (a ++ b) H) (hD : va_D A (a ++ b)) (hS : va_S A s.heap H locs)
    (hM : ∀ sz : Nat, Met l y (wy y by0 ml rt) rm (va_Pc (.ref b0 :: As) (fun U => U.heap.size = sz ∧ va_P E.1 vwCl b U.heap ∧ va_K E.1 vwCl (eT E) U ∧ va_D (fun _ => True) b)) (fun _ st oc t => (oc = .returned rv ∧ va_P E.1 vwCl b' t.heap ∧ va_D (va_A b sz) b') ∧ va_F (va_A b sz) st t) 0 0 (va_A b sz))
    (K : Cf y by0 ml rt n) (hin : Cond.instanceMethod y ∈ lwG) (hse : Cond.selects y.cls y y ∈ lwG) (hlink : Cond.methodLink own idx y ∈ lwG) (o : Nat) {ci : Nat} {fs : List Value} {T : u_T} {N : Nat} (he : b[o]? = some (b0, .inr (ci, fs))) (hc : vwCl[ci]? = some (y.cls, T, N)) (hrm : rm.cells = 0 ∧ rm.slots = 0) (hR : rm.frames + 1 ≤ R.frames ∧ 8 + (ml + 11) + rm.locals ≤ R.locals) (hn : As.length = n) (hls : ls.size = nL) (hstk : st0 = As.reverse ++ .ref b0 :: rest) (hw : (rest.map fun v => v.category).sum ≤ 8) (hdg : decode cc pc = .ok (.invokevirtual idx, 3)) (hcs : cells ≤ R.cells ∧ slots ≤ R.slots)
    (kk : ∀ (H1 : Heap) (locs1 : List Loc), va_P E.1 vwCl (a ++ b') H1 → va_D A (a ++ b') → va_S A s.heap H1 locs1 → W p l e R s m args below meth c H1 locs1 cells slots Q (F0 m (pc + 3) ls (rv.toList ++ rest))) : W p l e R s m args below meth c H locs cells slots Q (F0 m pc ls st0) := by
  have hPa := pw_r hP
  have hDa := dw_r hD
  have hrun := va_runV (p := p) (l := l) (e := e) (below := below) (meth := meth) (locs := locs) (cells := cells) (slots := slots) (g := F0 m pc ls st0) (As := As) (rest := rest) (C := y.cls) ⟨F.1, F.2.1, F.2.2.1, F.2.2.2.1, F.2.2.2.2.1⟩ (hM H.size) ⟨callB_of n F.2.2.2.2.1 (lw_gi K.1) rfl hrm.1 hrm.2 (F.2.2.2.2.1 _ K.2.1) (F.2.2.2.2.1 _ hlink) K.2.2 hR, F.2.2.2.2.1 _ hin, F.2.2.2.2.1 _ hse⟩ ⟨(r_preN hPa hDa F.2.2.2.2.2.1).1, va_recv F.2.2.2.2.2.1 hPa hc he, (r_preN hPa hDa F.2.2.2.2.2.1).2⟩ rfl hn hls hstk (lv_room hw) hdg hcs
  intro T hT X
  have hF : ∀ z, va_A b H.size z → A z := fun z h => by
    rcases h with ⟨k, x, h⟩ | h
    · exact hDa.2 k (z, x) h
    · exact hA z (Nat.le_trans hS.1 h)
  obtain ⟨v, st₀, t, T', L, h0, X', hL, e1, e2, ⟨⟨hv, hp, hd⟩, hz, hk⟩, st⟩ := hrun T hT X
  cases hv
  rw [h0] at hz hk
  obtain ⟨hP1, hD1⟩ := jn2 (b' := b') (H1 := T'.heap) hP hD (fun z h1 h2 => by rw [e1]; exact hk z h1 h2) hF (by rw [e1]; exact hp) hd
  obtain ⟨t2, a1, b1⟩ := kk T'.heap (locs ++ L) hP1 hD1
    ⟨Nat.le_trans hS.1 (by rw [e1]; exact hz), fun z h1 h2 => by rw [e1, hk z (Nat.lt_of_lt_of_le h1 hS.1) (fun y => h2 (hF z y))]; exact hS.2.1 z h1 h2, fun z hz2 => by
      rcases List.mem_append.mp hz2 with h | h
      · exact hS.2.2 z h
      · exact hF _ (hL z h)⟩ T' rfl X'
  exact ⟨t2, st t2 a1, b1⟩
/-- a contract that makes nothing, as one that may -/
theorem ct_ex {w : QS → va_W} {q q' : QS} (h : Ct w E l y (wy y by0 ml rt) rm q q' (.ref b0 :: As) rv) : ∀ sz : Nat, Met l y (wy y by0 ml rt) rm (va_Pc (.ref b0 :: As) (fun U => U.heap.size = sz ∧ va_P E.1 vwCl (w q) U.heap ∧ va_K E.1 vwCl (eT E) U ∧ va_D (fun _ => True) (w q))) (fun _ st oc t => (oc = .returned rv ∧ ∃ ad : Nat → Nat, ad = E.2.2 ∧ va_P E.1 vwCl (w q') t.heap ∧ va_D (va_A (w q) sz) (w q')) ∧ va_F (va_A (w q) sz) st t) 0 0 (va_A (w q) sz) := by
  intro sz
  have h1 := h sz
  intro p e ha hc hk s m args below hf happ hP hK
  obtain ⟨n, o, a1, a2, a3, ⟨⟨a4, a5⟩, a6⟩⟩ := h1 p e ha hc hk s m args below hf happ hP hK
  exact ⟨n, o, a1, a2, a3, ⟨⟨⟨a4.1, E.2.2, rfl, a4.2⟩, a5⟩, a6⟩⟩
end SC
