def rm_J7_fill_53178 : Room := { frames := 0, cells := 0, slots := 0, locals := 0 }
def f_J7_fill_53178_5_b (k : Nat) (nf : QS → Nat) (B5 : QS → Int32 → Int32 → Int32 → Option (QS)) (q : QS) (x1 : Int32) (x2 : Int32) (x3 : Int32) : Option (QS) :=
  if x3 ≤ x2 then
    some q
  else
    (wI q k (nf q) x2 x1).bind fun q2 =>
    B5 q2 x1 (x2 + (1 : Int32)) x3
set_option maxHeartbeats 4000000 in
set_option maxRecDepth 100000 in
theorem g_J7_fill_53178_5_b {E : En} {p : Program} {l : Launch} {e : Env} {s : State} {m : MethodId} {args : Array Value} {below : List Frame} {meth : Method} {c : Code} {A : Nat → Prop} {Q : State → Prop} (F : Fx E p s m args meth c (yJ7_fill_53178).cls cJ7_fill_53178 4 none) (hA : ∀ z : Nat, s.heap.size ≤ z → A z) {o : QS} (hRt : RtV (wX E) E p l e rm_J7_fill_53178 s m args below meth c A Q cJ7_fill_53178 o) {k : Nat} {nf : QS → Nat} (he_k : ∀ q : QS, (wX E q)[k]? = some (eA E k, .inl (E.2.1 0, nf q, .inl (qI q k)))) (hs_k : ∀ (q : QS) (j : Nat) (x : Int32), (wX E q).set k (eA E k, .inl (E.2.1 0, nf q, .inl (upd (qI q k) j x))) = wX E (uI q k j x)) {B5 : QS → Int32 → Int32 → Int32 → Option (QS)} (hB5 : ∀ (q : QS) (x1 : Int32) (x2 : Int32) (x3 : Int32), B5 q x1 x2 x3 = some o → ∀ ls : Array Slot, lv_has ls 4 [(0, .ref (eA E k)), (1, .int x1), (2, .int x2), (3, .int x3)] → Wq (wX E) E p l e rm_J7_fill_53178 s m args below meth c A 0 0 Q q (F0 m 5 ls [])) (q : QS) (x1 : Int32) (x2 : Int32) (x3 : Int32) (h : f_J7_fill_53178_5_b k nf B5 q x1 x2 x3 = some o) (ls : Array Slot) (hl : lv_has ls 4 [(0, .ref (eA E k)), (1, .int x1), (2, .int x2), (3, .int x3)]) : Wq (wX E) E p l e rm_J7_fill_53178 s m args below meth c A 0 0 Q q (F0 m 5 ls []) := by
  intro H locs hP hD hS
  have hx := F.1
  have hb := F.2.1
  unfold f_J7_fill_53178_5_b at h
  refine lv_iload_n hx hb dJ7_fill_53178_5 rfl (lv_at hl 2 rfl) ?_
  refine lv_iload_n hx hb dJ7_fill_53178_6 rfl (lv_at hl 3 rfl) ?_
  refine lv_icmp_ge (tgt := 20) hx hb dJ7_fill_53178_7 (by decide) (fun c1 => ?_) (fun c1 => ?_)
  · rw [if_pos c1] at h
    cases h
    exact hRt _ _ dJ7_fill_53178_20 _ _ hP hD hS
  · rw [if_neg c1] at h
    refine lv_aload_n hx hb dJ7_fill_53178_10 rfl (lv_at hl 0 rfl) ?_
    refine lv_iload_n hx hb dJ7_fill_53178_11 rfl (lv_at hl 2 rfl) ?_
    refine lv_iload_n hx hb dJ7_fill_53178_12 rfl (lv_at hl 1 rfl) ?_
    obtain ⟨q2, e3, h⟩ := Option.bind_eq_some_iff.mp h
    refine r_iast F hP hD hS k (he_k q) (hs_k q) e3 dJ7_fill_53178_13 ?_
    intro H locs hP hD hS
    refine lv_iinc (v := (x2 + (1 : Int32))) (lv' := [(2, .int (x2 + (1 : Int32))), (0, .ref (eA E k)), (1, .int x1), (3, .int x3)]) hx hb dJ7_fill_53178_14 hl (k := 2) rfl rfl (by decide) rfl (fun ls hl => ?_)
    refine lv_goto (tgt := 5) hx hb dJ7_fill_53178_17 (by decide) ?_
    exact hB5 q2 x1 (x2 + (1 : Int32)) x3 h _ (lv_sub hl [1, 2, 0, 3] rfl) _ _ hP hD hS
def f_J7_fill_53178_5 (k : Nat) (nf : QS → Nat) : Nat → QS → Int32 → Int32 → Int32 → Option (QS)
  | 0 => fun _ _ _ _ => none
  | n + 1 => f_J7_fill_53178_5_b k nf (f_J7_fill_53178_5 k nf n)
theorem g_J7_fill_53178_5 {E : En} {p : Program} {l : Launch} {e : Env} {s : State} {m : MethodId} {args : Array Value} {below : List Frame} {meth : Method} {c : Code} {A : Nat → Prop} {Q : State → Prop} (F : Fx E p s m args meth c (yJ7_fill_53178).cls cJ7_fill_53178 4 none) (hA : ∀ z : Nat, s.heap.size ≤ z → A z) {o : QS} (hRt : RtV (wX E) E p l e rm_J7_fill_53178 s m args below meth c A Q cJ7_fill_53178 o) {k : Nat} {nf : QS → Nat} (he_k : ∀ q : QS, (wX E q)[k]? = some (eA E k, .inl (E.2.1 0, nf q, .inl (qI q k)))) (hs_k : ∀ (q : QS) (j : Nat) (x : Int32), (wX E q).set k (eA E k, .inl (E.2.1 0, nf q, .inl (upd (qI q k) j x))) = wX E (uI q k j x)) (n : Nat) : ∀ (q : QS) (x1 : Int32) (x2 : Int32) (x3 : Int32), f_J7_fill_53178_5 k nf n q x1 x2 x3 = some o → ∀ ls : Array Slot, lv_has ls 4 [(0, .ref (eA E k)), (1, .int x1), (2, .int x2), (3, .int x3)] → Wq (wX E) E p l e rm_J7_fill_53178 s m args below meth c A 0 0 Q q (F0 m 5 ls []) := by
  induction n with
  | zero => intro q x1 x2 x3 h; cases h
  | succ n ih => intro q x1 x2 x3 h; exact g_J7_fill_53178_5_b F hA hRt he_k hs_k ih q x1 x2 x3 h
def f_J7_fill_53178_0 (k : Nat) (nf : QS → Nat) (q : QS) (x1 : Int32) : Option (QS) :=
  f_J7_fill_53178_5 k nf FU q x1 (0 : Int32) (Int32.ofNat (nf q))
set_option maxHeartbeats 4000000 in
set_option maxRecDepth 100000 in
theorem g_J7_fill_53178_0 {E : En} {p : Program} {l : Launch} {e : Env} {s : State} {m : MethodId} {args : Array Value} {below : List Frame} {meth : Method} {c : Code} {A : Nat → Prop} {Q : State → Prop} (F : Fx E p s m args meth c (yJ7_fill_53178).cls cJ7_fill_53178 4 none) (hA : ∀ z : Nat, s.heap.size ≤ z → A z) {o : QS} (hRt : RtV (wX E) E p l e rm_J7_fill_53178 s m args below meth c A Q cJ7_fill_53178 o) {k : Nat} {nf : QS → Nat} (he_k : ∀ q : QS, (wX E q)[k]? = some (eA E k, .inl (E.2.1 0, nf q, .inl (qI q k)))) (hs_k : ∀ (q : QS) (j : Nat) (x : Int32), (wX E q).set k (eA E k, .inl (E.2.1 0, nf q, .inl (upd (qI q k) j x))) = wX E (uI q k j x)) (q : QS) (x1 : Int32) (h : f_J7_fill_53178_0 k nf q x1 = some o) (ls : Array Slot) (hl : lv_has ls 4 [(0, .ref (eA E k)), (1, .int x1)]) : Wq (wX E) E p l e rm_J7_fill_53178 s m args below meth c A 0 0 Q q (F0 m 0 ls []) := by
  intro H locs hP hD hS
  have hx := F.1
  have hb := F.2.1
  unfold f_J7_fill_53178_0 at h
  refine lv_iconst (v := 0) hx hb dJ7_fill_53178_0 (by decide) ?_
  refine lv_istore_n (lv' := [(2, .int (0 : Int32)), (0, .ref (eA E k)), (1, .int x1)]) hx hb dJ7_fill_53178_1 rfl hl (by decide) rfl (fun ls hl => ?_)
  refine lv_aload_n hx hb dJ7_fill_53178_2 rfl (lv_at hl 1 rfl) ?_
  refine va_alen (v := (Int32.ofNat (nf q))) hx hb F.2.2.2.2.2.1 hP k 0 (he_k q) rfl rfl dJ7_fill_53178_3 ?_
  refine lv_istore_n (lv' := [(3, .int (Int32.ofNat (nf q))), (2, .int (0 : Int32)), (0, .ref (eA E k)), (1, .int x1)]) hx hb dJ7_fill_53178_4 rfl hl (by decide) rfl (fun ls hl => ?_)
  exact g_J7_fill_53178_5 F hA hRt he_k hs_k FU q x1 (0 : Int32) (Int32.ofNat (nf q)) h _ (lv_sub hl [2, 3, 1, 0] rfl) _ _ hP hD hS
def f_J7_fill_53178 (k : Nat) (nf : QS → Nat) (q : QS) (x1 : Int32) : Option (QS) := f_J7_fill_53178_0 k nf q x1
set_option maxRecDepth 100000 in
theorem c_J7_fill_53178 {E : En} {l : Launch} {k : Nat} {nf : QS → Nat} (he_k : ∀ q : QS, (wX E q)[k]? = some (eA E k, .inl (E.2.1 0, nf q, .inl (qI q k)))) (hs_k : ∀ (q : QS) (j : Nat) (x : Int32), (wX E q).set k (eA E k, .inl (E.2.1 0, nf q, .inl (upd (qI q k) j x))) = wX E (uI q k j x)) (q : QS) (x1 : Int32) {o : QS} (h : f_J7_fill_53178 k nf q x1 = some o) : Ct (wX E) E l yJ7_fill_53178 (wy yJ7_fill_53178 cJ7_fill_53178 4 none) rm_J7_fill_53178 q o [.ref (eA E k), .int x1] none :=
  ct_V (o := o) (by decide +kernel) (fun p e s m below meth c A Q F hA hRt H locs hP hD hS => en_W [.ref (eA E k), .int x1] (Nat.le_of_ble_eq_true rfl) (fun ls hl => g_J7_fill_53178_0 F hA hRt he_k hs_k q x1 h ls (lv_sub hl [0, 1] rfl) H locs hP hD hS))
def rm_J9_max_7cf53 : Room := { frames := 0, cells := 0, slots := 0, locals := 0 }
def f_J9_max_7cf53_0 (x0 : Int32) (x1 : Int32) : Option (Int32) :=
  if x0 < x1 then
    some x1
  else
    some x0
set_option maxHeartbeats 4000000 in
set_option maxRecDepth 100000 in
theorem g_J9_max_7cf53_0 {E : En} {p : Program} {l : Launch} {e : Env} {s : State} {m : MethodId} {args : Array Value} {below : List Frame} {meth : Method} {c : Code} {A : Nat → Prop} {Q : State → Prop} (F : Fx E p s m args meth c (yJ9_max_7cf53).cls cJ9_max_7cf53 2 (some .int)) (hA : ∀ z : Nat, s.heap.size ≤ z → A z) {q : QS} {o : Int32} (hRt : RtI (wX E) E p l e rm_J9_max_7cf53 s m args below meth c A Q cJ9_max_7cf53 (o, q)) (x0 : Int32) (x1 : Int32) (h : f_J9_max_7cf53_0 x0 x1 = some o) (ls : Array Slot) (hl : lv_has ls 2 [(0, .int x0), (1, .int x1)]) : Wq (wX E) E p l e rm_J9_max_7cf53 s m args below meth c A 0 0 Q q (F0 m 0 ls []) := by
  intro H locs hP hD hS
  have hx := F.1
  have hb := F.2.1
  unfold f_J9_max_7cf53_0 at h
  refine lv_iload_n hx hb dJ9_max_7cf53_0 rfl (lv_at hl 0 rfl) ?_
  refine lv_iload_n hx hb dJ9_max_7cf53_1 rfl (lv_at hl 1 rfl) ?_
  refine lv_icmp_lt (tgt := 9) hx hb dJ9_max_7cf53_2 (by decide) (fun c1 => ?_) (fun c1 => ?_)
  · rw [if_pos c1] at h
    refine lv_iload_n hx hb dJ9_max_7cf53_9 rfl (lv_at hl 1 rfl) ?_
    cases h
    exact hRt _ _ dJ9_max_7cf53_10 _ _ hP hD hS
  · rw [if_neg c1] at h
    refine lv_iload_n hx hb dJ9_max_7cf53_5 rfl (lv_at hl 0 rfl) ?_
    refine lv_goto (tgt := 10) hx hb dJ9_max_7cf53_6 (by decide) ?_
    cases h
    exact hRt _ _ dJ9_max_7cf53_10 _ _ hP hD hS
def f_J9_max_7cf53 (x0 : Int32) (x1 : Int32) : Option (Int32) := f_J9_max_7cf53_0 x0 x1
set_option maxRecDepth 100000 in
theorem c_J9_max_7cf53 {E : En} {l : Launch} (q : QS) (x0 : Int32) (x1 : Int32) {o : Int32} (h : f_J9_max_7cf53 x0 x1 = some o) : Ct (wX E) E l yJ9_max_7cf53 (wy yJ9_max_7cf53 cJ9_max_7cf53 2 (some .int)) rm_J9_max_7cf53 q q [.int x0, .int x1] (some (.int o)) :=
  ct_IF (o := (o, q)) pf_max rfl (fun p e s m below meth c A Q F hA hRt H locs hP hD hS => en_W [.int x0, .int x1] (Nat.le_of_ble_eq_true rfl) (fun ls hl => g_J9_max_7cf53_0 F hA hRt x0 x1 h ls (lv_sub hl [0, 1] rfl) H locs hP hD hS))
def rm_J9_min_7cf53 : Room := { frames := 0, cells := 0, slots := 0, locals := 0 }
def f_J9_min_7cf53_0 (x0 : Int32) (x1 : Int32) : Option (Int32) :=
  if x1 < x0 then
    some x1
  else
    some x0
set_option maxHeartbeats 4000000 in
set_option maxRecDepth 100000 in
theorem g_J9_min_7cf53_0 {E : En} {p : Program} {l : Launch} {e : Env} {s : State} {m : MethodId} {args : Array Value} {below : List Frame} {meth : Method} {c : Code} {A : Nat → Prop} {Q : State → Prop} (F : Fx E p s m args meth c (yJ9_min_7cf53).cls cJ9_min_7cf53 2 (some .int)) (hA : ∀ z : Nat, s.heap.size ≤ z → A z) {q : QS} {o : Int32} (hRt : RtI (wX E) E p l e rm_J9_min_7cf53 s m args below meth c A Q cJ9_min_7cf53 (o, q)) (x0 : Int32) (x1 : Int32) (h : f_J9_min_7cf53_0 x0 x1 = some o) (ls : Array Slot) (hl : lv_has ls 2 [(0, .int x0), (1, .int x1)]) : Wq (wX E) E p l e rm_J9_min_7cf53 s m args below meth c A 0 0 Q q (F0 m 0 ls []) := by
  intro H locs hP hD hS
  have hx := F.1
  have hb := F.2.1
  unfold f_J9_min_7cf53_0 at h
  refine lv_iload_n hx hb dJ9_min_7cf53_0 rfl (lv_at hl 0 rfl) ?_
  refine lv_iload_n hx hb dJ9_min_7cf53_1 rfl (lv_at hl 1 rfl) ?_
  refine lv_icmp_gt (tgt := 9) hx hb dJ9_min_7cf53_2 (by decide) (fun c1 => ?_) (fun c1 => ?_)
  · rw [if_pos c1] at h
    refine lv_iload_n hx hb dJ9_min_7cf53_9 rfl (lv_at hl 1 rfl) ?_
    cases h
    exact hRt _ _ dJ9_min_7cf53_10 _ _ hP hD hS
  · rw [if_neg c1] at h
    refine lv_iload_n hx hb dJ9_min_7cf53_5 rfl (lv_at hl 0 rfl) ?_
    refine lv_goto (tgt := 10) hx hb dJ9_min_7cf53_6 (by decide) ?_
    cases h
    exact hRt _ _ dJ9_min_7cf53_10 _ _ hP hD hS
def f_J9_min_7cf53 (x0 : Int32) (x1 : Int32) : Option (Int32) := f_J9_min_7cf53_0 x0 x1
set_option maxRecDepth 100000 in
theorem c_J9_min_7cf53 {E : En} {l : Launch} (q : QS) (x0 : Int32) (x1 : Int32) {o : Int32} (h : f_J9_min_7cf53 x0 x1 = some o) : Ct (wX E) E l yJ9_min_7cf53 (wy yJ9_min_7cf53 cJ9_min_7cf53 2 (some .int)) rm_J9_min_7cf53 q q [.int x0, .int x1] (some (.int o)) :=
  ct_IF (o := (o, q)) pf_min rfl (fun p e s m below meth c A Q F hA hRt H locs hP hD hS => en_W [.int x0, .int x1] (Nat.le_of_ble_eq_true rfl) (fun ls hl => g_J9_min_7cf53_0 F hA hRt x0 x1 h ls (lv_sub hl [0, 1] rfl) H locs hP hD hS))
def rm_J9_floorMod_f86c9 : Room := { frames := 0, cells := 0, slots := 0, locals := 0 }
def f_J9_floorMod_f86c9_0 (x0 : Int64) (x2 : Int64) : Option (Int64) :=
  if x2 = 0 then none else
  if 0 ≤ (lg_cmp (x0 ^^^ x2) (0 : Int64)) then
    some (x0 - x0 / x2 * x2)
  else
    if (lg_cmp (x0 - x0 / x2 * x2) (0 : Int64)) = 0 then
      some (x0 - x0 / x2 * x2)
    else
      some ((x0 - x0 / x2 * x2) + x2)
set_option maxHeartbeats 4000000 in
set_option maxRecDepth 100000 in
theorem g_J9_floorMod_f86c9_0 {E : En} {p : Program} {l : Launch} {e : Env} {s : State} {m : MethodId} {args : Array Value} {below : List Frame} {meth : Method} {c : Code} {A : Nat → Prop} {Q : State → Prop} (F : Fx E p s m args meth c (yJ9_floorMod_f86c9).cls cJ9_floorMod_f86c9 6 (some .long)) (hA : ∀ z : Nat, s.heap.size ≤ z → A z) {q : QS} {o : Int64} (hRt : RtL (wX E) E p l e rm_J9_floorMod_f86c9 s m args below meth c A Q cJ9_floorMod_f86c9 (o, q)) (x0 : Int64) (x2 : Int64) (h : f_J9_floorMod_f86c9_0 x0 x2 = some o) (ls : Array Slot) (hl : lv_has ls 6 [(0, .long x0), (2, .long x2)]) : Wq (wX E) E p l e rm_J9_floorMod_f86c9 s m args below meth c A 0 0 Q q (F0 m 0 ls []) := by
  intro H locs hP hD hS
  have hx := F.1
  have hb := F.2.1
  unfold f_J9_floorMod_f86c9_0 at h
  refine lv_lload_n hx hb dJ9_floorMod_f86c9_0 rfl (lv_at hl 0 rfl) ?_
  refine lv_lload_n hx hb dJ9_floorMod_f86c9_1 rfl (lv_at hl 1 rfl) ?_
  by_cases n1 : x2 = 0
  · rw [if_pos n1] at h; cases h
  rw [if_neg n1] at h
  refine lv_lrem hx hb dJ9_floorMod_f86c9_2 n1 ?_
  refine lv_lstore (lv' := [(4, .long (x0 - x0 / x2 * x2)), (0, .long x0), (2, .long x2)]) hx hb dJ9_floorMod_f86c9_3 hl (by decide) rfl (fun ls hl => ?_)
  refine lv_lload_n hx hb dJ9_floorMod_f86c9_5 rfl (lv_at hl 1 rfl) ?_
  refine lv_lload_n hx hb dJ9_floorMod_f86c9_6 rfl (lv_at hl 2 rfl) ?_
  refine lv_lxor hx hb dJ9_floorMod_f86c9_7 ?_
  refine lv_lconst (v := 0) hx hb dJ9_floorMod_f86c9_8 (by decide) ?_
  refine W.lcmp hx hb dJ9_floorMod_f86c9_9 ?_
  refine lv_if_ge (tgt := 25) hx hb dJ9_floorMod_f86c9_10 (by decide) (fun c2 => ?_) (fun c2 => ?_)
  · rw [if_pos c2] at h
    refine lv_lload hx hb dJ9_floorMod_f86c9_25 (lv_at hl 0 rfl) ?_
    cases h
    exact hRt _ _ dJ9_floorMod_f86c9_27 _ _ hP hD hS
  · rw [if_neg c2] at h
    refine lv_lload hx hb dJ9_floorMod_f86c9_13 (lv_at hl 0 rfl) ?_
    refine lv_lconst (v := 0) hx hb dJ9_floorMod_f86c9_15 (by decide) ?_
    refine W.lcmp hx hb dJ9_floorMod_f86c9_16 ?_
    refine lv_if_eq (tgt := 25) hx hb dJ9_floorMod_f86c9_17 (by decide) (fun c3 => ?_) (fun c3 => ?_)
    · rw [if_pos c3] at h
      refine lv_lload hx hb dJ9_floorMod_f86c9_25 (lv_at hl 0 rfl) ?_
      cases h
      exact hRt _ _ dJ9_floorMod_f86c9_27 _ _ hP hD hS
    · rw [if_neg c3] at h
      refine lv_lload hx hb dJ9_floorMod_f86c9_20 (lv_at hl 0 rfl) ?_
      refine lv_lload_n hx hb dJ9_floorMod_f86c9_22 rfl (lv_at hl 2 rfl) ?_
      refine lv_ladd hx hb dJ9_floorMod_f86c9_23 ?_
      cases h
      exact hRt _ _ dJ9_floorMod_f86c9_24 _ _ hP hD hS
def f_J9_floorMod_f86c9 (x0 : Int64) (x2 : Int64) : Option (Int64) := f_J9_floorMod_f86c9_0 x0 x2
set_option maxRecDepth 100000 in
theorem c_J9_floorMod_f86c9 {E : En} {l : Launch} (q : QS) (x0 : Int64) (x2 : Int64) {o : Int64} (h : f_J9_floorMod_f86c9 x0 x2 = some o) : Ct (wX E) E l yJ9_floorMod_f86c9 (wy yJ9_floorMod_f86c9 cJ9_floorMod_f86c9 6 (some .long)) rm_J9_floorMod_f86c9 q q [.long x0, .long x2] (some (.long o)) :=
  ct_LF (o := (o, q)) pf_floorMod (fun p e s m below meth c A Q F hA hRt H locs hP hD hS => en_W [.long x0, .long x2] (Nat.le_of_ble_eq_true rfl) (fun ls hl => g_J9_floorMod_f86c9_0 F hA hRt x0 x2 h ls (lv_sub hl [0, 1] rfl) H locs hP hD hS))
def rm_X8_wordsInUse : Room := { frames := 0, cells := 0, slots := 0, locals := 0 }
def f_X8_wordsInUse_0 (v : Nat) (q : QS) (x1 : Int32) : Option (Int32) :=
  (rd (qI q (3 * v + 1)) (vN q v) x1).bind fun y1 =>
  if y1 = 0 then
    some (0 : Int32)
  else
  if y1 = 2 then
    some (4 : Int32)
  else
    some (1 : Int32)
set_option maxHeartbeats 4000000 in
set_option maxRecDepth 100000 in
theorem g_X8_wordsInUse_0 {E : En} {p : Program} {l : Launch} {e : Env} {s : State} {m : MethodId} {args : Array Value} {below : List Frame} {meth : Method} {c : Code} {A : Nat → Prop} {Q : State → Prop} (F : Fx E p s m args meth c (yX8_wordsInUse).cls cX8_wordsInUse 2 (some .int)) (hA : ∀ z : Nat, s.heap.size ≤ z → A z) {q : QS} {o : Int32} (hRt : RtI (wX E) E p l e rm_X8_wordsInUse s m args below meth c A Q cX8_wordsInUse (o, q)) {v : Nat} (hv : v < 5) (x1 : Int32) (h : f_X8_wordsInUse_0 v q x1 = some o) (ls : Array Slot) (hl : lv_has ls 2 [(0, .ref (eA E (3 * v))), (1, .int x1)]) : Wq (wX E) E p l e rm_X8_wordsInUse s m args below meth c A 0 0 Q q (F0 m 0 ls []) := by
  intro H locs hP hD hS
  have hx := F.1
  have hb := F.2.1
  unfold f_X8_wordsInUse_0 at h
  refine lv_aload_n hx hb dX8_wordsInUse_0 rfl (lv_at hl 0 rfl) ?_
  refine r_get F hP i_X8 (3 * v) (xvO hv E q) rfl 0 (by decide) rfl lf_X8_9 rfl dX8_wordsInUse_1 ?_
  refine lv_iload_n hx hb dX8_wordsInUse_4 rfl (lv_at hl 1 rfl) ?_
  obtain ⟨y1, e2, h⟩ := Option.bind_eq_some_iff.mp h
  refine r_iald F hP (3 * v + 1) (xvK hv E q) e2 dX8_wordsInUse_5 ?_
  by_cases c3 : y1 = 0
  · rw [if_pos c3] at h
    refine lv_lookup (tgt := 32) (off := 26) hx hb dX8_wordsInUse_6 (by decide) (by rw [c3]; decide) (by decide) ?_
    refine lv_iconst (v := 0) hx hb dX8_wordsInUse_32 (by decide) ?_
    cases h
    exact hRt _ _ dX8_wordsInUse_33 _ _ hP hD hS
  rw [if_neg c3] at h
  by_cases c4 : y1 = 2
  · rw [if_pos c4] at h
    refine lv_lookup (tgt := 34) (off := 28) hx hb dX8_wordsInUse_6 (by decide) (by rw [c4]; decide) (by decide) ?_
    refine lv_iconst (v := 4) hx hb dX8_wordsInUse_34 (by decide) ?_
    cases h
    exact hRt _ _ dX8_wordsInUse_35 _ _ hP hD hS
  rw [if_neg c4] at h
  refine lv_lookup (tgt := 36) (off := 30) hx hb dX8_wordsInUse_6 (by decide) (by rw [show ∀ r o d, Op.lookupswitch.offset ((0, o) :: r) d (y1).toInt = Op.lookupswitch.offset r d (y1).toInt from fun r o d => lv_osw (k := 0) c3 (by decide)]; rw [show ∀ r o d, Op.lookupswitch.offset ((2, o) :: r) d (y1).toInt = Op.lookupswitch.offset r d (y1).toInt from fun r o d => lv_osw (k := 2) c4 (by decide)]; rfl) (by decide) ?_
  refine lv_iconst (v := 1) hx hb dX8_wordsInUse_36 (by decide) ?_
  cases h
  exact hRt _ _ dX8_wordsInUse_37 _ _ hP hD hS
def f_X8_wordsInUse (v : Nat) (q : QS) (x1 : Int32) : Option (Int32) := f_X8_wordsInUse_0 v q x1
set_option maxRecDepth 100000 in
theorem c_X8_wordsInUse {E : En} {l : Launch} {v : Nat} (hv : v < 5) (q : QS) (x1 : Int32) {o : Int32} (h : f_X8_wordsInUse v q x1 = some o) : Ct (wX E) E l yX8_wordsInUse (wy yX8_wordsInUse cX8_wordsInUse 2 (some .int)) rm_X8_wordsInUse q q [.ref (eA E (3 * v)), .int x1] (some (.int o)) :=
  ct_I (o := (o, q)) (by decide +kernel) rfl (fun p e s m below meth c A Q F hA hRt H locs hP hD hS => en_W [.ref (eA E (3 * v)), .int x1] (Nat.le_of_ble_eq_true rfl) (fun ls hl => g_X8_wordsInUse_0 F hA hRt hv x1 h ls (lv_sub hl [0, 1] rfl) H locs hP hD hS))
def rm_X8_setAllNull : Room := { frames := 1, cells := 0, slots := 0, locals := 23 }
def f_X8_setAllNull_0 (v : Nat) (q : QS) : Option (QS) :=
  (f_J7_fill_53178 (3 * v + 1) (fun z => (vN z v)) q (0 : Int32)).bind fun r1 =>
  some r1
set_option maxHeartbeats 4000000 in
set_option maxRecDepth 100000 in
theorem g_X8_setAllNull_0 {E : En} {p : Program} {l : Launch} {e : Env} {s : State} {m : MethodId} {args : Array Value} {below : List Frame} {meth : Method} {c : Code} {A : Nat → Prop} {Q : State → Prop} (F : Fx E p s m args meth c (yX8_setAllNull).cls cX8_setAllNull 1 none) (hA : ∀ z : Nat, s.heap.size ≤ z → A z) {o : QS} (hRt : RtV (wX E) E p l e rm_X8_setAllNull s m args below meth c A Q cX8_setAllNull o) {v : Nat} (hv : v < 5) (q : QS) (h : f_X8_setAllNull_0 v q = some o) (ls : Array Slot) (hl : lv_has ls 1 [(0, .ref (eA E (3 * v)))]) : Wq (wX E) E p l e rm_X8_setAllNull s m args below meth c A 0 0 Q q (F0 m 0 ls []) := by
  intro H locs hP hD hS
  have hx := F.1
  have hb := F.2.1
  unfold f_X8_setAllNull_0 at h
  refine lv_aload_n hx hb dX8_setAllNull_0 rfl (lv_at hl 0 rfl) ?_
  refine r_get F hP i_X8 (3 * v) (xvO hv E q) rfl 0 (by decide) rfl lf_X8_9 rfl dX8_setAllNull_1 ?_
  refine lv_iconst (v := 0) hx hb dX8_setAllNull_4 (by decide) ?_
  obtain ⟨r1, e2, h⟩ := Option.bind_eq_some_iff.mp h
  refine q_callS (As := [.ref (eA E (3 * v + 1)), .int (0 : Int32)]) (rest := []) F hA hP hD hS (c_J7_fill_53178 (E := E) (l := l) (k := (3 * v + 1)) (nf := fun z => (vN z v)) (fun z => (xvK hv E z)) (fun z => (xvKs hv E z)) q (0 : Int32) e2) k_J7_fill_53178 st_J7_fill_53178 lm_X8_19 ⟨rfl, rfl⟩ ⟨by decide, by decide⟩ rfl hl.1 rfl (Nat.le_of_ble_eq_true rfl) dX8_setAllNull_5 ⟨by decide, by decide⟩ ?_
  intro H locs hP hD hS
  cases h
  exact hRt _ _ dX8_setAllNull_8 _ _ hP hD hS
def f_X8_setAllNull (v : Nat) (q : QS) : Option (QS) := f_X8_setAllNull_0 v q
set_option maxRecDepth 100000 in
theorem c_X8_setAllNull {E : En} {l : Launch} {v : Nat} (hv : v < 5) (q : QS) {o : QS} (h : f_X8_setAllNull v q = some o) : Ct (wX E) E l yX8_setAllNull (wy yX8_setAllNull cX8_setAllNull 1 none) rm_X8_setAllNull q o [.ref (eA E (3 * v))] none :=
  ct_V (o := o) (by decide +kernel) (fun p e s m below meth c A Q F hA hRt H locs hP hD hS => en_W [.ref (eA E (3 * v))] (Nat.le_of_ble_eq_true rfl) (fun ls hl => g_X8_setAllNull_0 F hA hRt hv q h ls (lv_sub hl [0] rfl) H locs hP hD hS))
def rm_X8_setNull : Room := { frames := 0, cells := 0, slots := 0, locals := 0 }
def f_X8_setNull_0 (v : Nat) (q : QS) (x1 : Int32) : Option (QS) :=
  (wI q (3 * v + 1) (vN q v) x1 (0 : Int32)).bind fun q1 =>
  some q1
set_option maxHeartbeats 4000000 in
set_option maxRecDepth 100000 in
theorem g_X8_setNull_0 {E : En} {p : Program} {l : Launch} {e : Env} {s : State} {m : MethodId} {args : Array Value} {below : List Frame} {meth : Method} {c : Code} {A : Nat → Prop} {Q : State → Prop} (F : Fx E p s m args meth c (yX8_setNull).cls cX8_setNull 2 none) (hA : ∀ z : Nat, s.heap.size ≤ z → A z) {o : QS} (hRt : RtV (wX E) E p l e rm_X8_setNull s m args below meth c A Q cX8_setNull o) {v : Nat} (hv : v < 5) (q : QS) (x1 : Int32) (h : f_X8_setNull_0 v q x1 = some o) (ls : Array Slot) (hl : lv_has ls 2 [(0, .ref (eA E (3 * v))), (1, .int x1)]) : Wq (wX E) E p l e rm_X8_setNull s m args below meth c A 0 0 Q q (F0 m 0 ls []) := by
  intro H locs hP hD hS
  have hx := F.1
  have hb := F.2.1
  unfold f_X8_setNull_0 at h
  refine lv_aload_n hx hb dX8_setNull_0 rfl (lv_at hl 0 rfl) ?_
  refine r_get F hP i_X8 (3 * v) (xvO hv E q) rfl 0 (by decide) rfl lf_X8_9 rfl dX8_setNull_1 ?_
  refine lv_iload_n hx hb dX8_setNull_4 rfl (lv_at hl 1 rfl) ?_
  refine lv_iconst (v := 0) hx hb dX8_setNull_5 (by decide) ?_
  obtain ⟨q1, e2, h⟩ := Option.bind_eq_some_iff.mp h
  refine r_iast F hP hD hS (3 * v + 1) (xvK hv E q) (xvKs hv E q) e2 dX8_setNull_6 ?_
  intro H locs hP hD hS
  cases h
  exact hRt _ _ dX8_setNull_7 _ _ hP hD hS
def f_X8_setNull (v : Nat) (q : QS) (x1 : Int32) : Option (QS) := f_X8_setNull_0 v q x1
set_option maxRecDepth 100000 in
theorem c_X8_setNull {E : En} {l : Launch} {v : Nat} (hv : v < 5) (q : QS) (x1 : Int32) {o : QS} (h : f_X8_setNull v q x1 = some o) : Ct (wX E) E l yX8_setNull (wy yX8_setNull cX8_setNull 2 none) rm_X8_setNull q o [.ref (eA E (3 * v)), .int x1] none :=
  ct_V (o := o) (by decide +kernel) (fun p e s m below meth c A Q F hA hRt H locs hP hD hS => en_W [.ref (eA E (3 * v)), .int x1] (Nat.le_of_ble_eq_true rfl) (fun ls hl => g_X8_setNull_0 F hA hRt hv q x1 h ls (lv_sub hl [0, 1] rfl) H locs hP hD hS))
def rm_X8_setNumber : Room := { frames := 0, cells := 0, slots := 0, locals := 0 }
def f_X8_setNumber_0 (v : Nat) (q : QS) (x1 : Int32) (x2 : Int64) : Option (QS) :=
  (wI q (3 * v + 1) (vN q v) x1 (1 : Int32)).bind fun q1 =>
  (wL q1 (3 * v + 2) (vN q1 v * 4) (x1 * (4 : Int32)) x2).bind fun q3 =>
  some q3
set_option maxHeartbeats 4000000 in
set_option maxRecDepth 100000 in
theorem g_X8_setNumber_0 {E : En} {p : Program} {l : Launch} {e : Env} {s : State} {m : MethodId} {args : Array Value} {below : List Frame} {meth : Method} {c : Code} {A : Nat → Prop} {Q : State → Prop} (F : Fx E p s m args meth c (yX8_setNumber).cls cX8_setNumber 4 none) (hA : ∀ z : Nat, s.heap.size ≤ z → A z) {o : QS} (hRt : RtV (wX E) E p l e rm_X8_setNumber s m args below meth c A Q cX8_setNumber o) {v : Nat} (hv : v < 5) (q : QS) (x1 : Int32) (x2 : Int64) (h : f_X8_setNumber_0 v q x1 x2 = some o) (ls : Array Slot) (hl : lv_has ls 4 [(0, .ref (eA E (3 * v))), (1, .int x1), (2, .long x2)]) : Wq (wX E) E p l e rm_X8_setNumber s m args below meth c A 0 0 Q q (F0 m 0 ls []) := by
  intro H locs hP hD hS
  have hx := F.1
  have hb := F.2.1
  unfold f_X8_setNumber_0 at h
  refine lv_aload_n hx hb dX8_setNumber_0 rfl (lv_at hl 0 rfl) ?_
  refine r_get F hP i_X8 (3 * v) (xvO hv E q) rfl 0 (by decide) rfl lf_X8_9 rfl dX8_setNumber_1 ?_
  refine lv_iload_n hx hb dX8_setNumber_4 rfl (lv_at hl 1 rfl) ?_
  refine lv_iconst (v := 1) hx hb dX8_setNumber_5 (by decide) ?_
  obtain ⟨q1, e2, h⟩ := Option.bind_eq_some_iff.mp h
  refine r_iast F hP hD hS (3 * v + 1) (xvK hv E q) (xvKs hv E q) e2 dX8_setNumber_6 ?_
  intro H locs hP hD hS
  refine lv_aload_n hx hb dX8_setNumber_7 rfl (lv_at hl 0 rfl) ?_
  refine r_get F hP i_X8 (3 * v) (xvO hv E q1) rfl 1 (by decide) rfl lf_X8_15 rfl dX8_setNumber_8 ?_
  refine lv_iload_n hx hb dX8_setNumber_11 rfl (lv_at hl 1 rfl) ?_
  refine lv_iconst (v := 4) hx hb dX8_setNumber_12 (by decide) ?_
  refine lv_imul hx hb dX8_setNumber_13 ?_
  refine lv_lload_n hx hb dX8_setNumber_14 rfl (lv_at hl 2 rfl) ?_
  obtain ⟨q3, e4, h⟩ := Option.bind_eq_some_iff.mp h
  refine r_last F hP hD hS (3 * v + 2) (xvW hv E q1) (xvWs hv E q1) e4 dX8_setNumber_15 ?_
  intro H locs hP hD hS
  cases h
  exact hRt _ _ dX8_setNumber_16 _ _ hP hD hS
def f_X8_setNumber (v : Nat) (q : QS) (x1 : Int32) (x2 : Int64) : Option (QS) := f_X8_setNumber_0 v q x1 x2
set_option maxRecDepth 100000 in
theorem c_X8_setNumber {E : En} {l : Launch} {v : Nat} (hv : v < 5) (q : QS) (x1 : Int32) (x2 : Int64) {o : QS} (h : f_X8_setNumber v q x1 x2 = some o) : Ct (wX E) E l yX8_setNumber (wy yX8_setNumber cX8_setNumber 4 none) rm_X8_setNumber q o [.ref (eA E (3 * v)), .int x1, .long x2] none :=
  ct_V (o := o) (by decide +kernel) (fun p e s m below meth c A Q F hA hRt H locs hP hD hS => en_W [.ref (eA E (3 * v)), .int x1, .long x2] (Nat.le_of_ble_eq_true rfl) (fun ls hl => g_X8_setNumber_0 F hA hRt hv q x1 x2 h ls (lv_sub hl [0, 1, 2] rfl) H locs hP hD hS))
def rm_X8_setTruth : Room := { frames := 0, cells := 0, slots := 0, locals := 0 }
def f_X8_setTruth_0 (v : Nat) (q : QS) (x1 : Int32) (x2 : Int32) : Option (QS) :=
  (wI q (3 * v + 1) (vN q v) x1 (3 : Int32)).bind fun q1 =>
  if x2 = 0 then
    (wL q1 (3 * v + 2) (vN q1 v * 4) (x1 * (4 : Int32)) (0 : Int64)).bind fun q4 =>
    some q4
  else
    (wL q1 (3 * v + 2) (vN q1 v * 4) (x1 * (4 : Int32)) (1 : Int64)).bind fun q6 =>
    some q6
set_option maxHeartbeats 4000000 in
set_option maxRecDepth 100000 in
theorem g_X8_setTruth_0 {E : En} {p : Program} {l : Launch} {e : Env} {s : State} {m : MethodId} {args : Array Value} {below : List Frame} {meth : Method} {c : Code} {A : Nat → Prop} {Q : State → Prop} (F : Fx E p s m args meth c (yX8_setTruth).cls cX8_setTruth 3 none) (hA : ∀ z : Nat, s.heap.size ≤ z → A z) {o : QS} (hRt : RtV (wX E) E p l e rm_X8_setTruth s m args below meth c A Q cX8_setTruth o) {v : Nat} (hv : v < 5) (q : QS) (x1 : Int32) (x2 : Int32) (h : f_X8_setTruth_0 v q x1 x2 = some o) (ls : Array Slot) (hl : lv_has ls 3 [(0, .ref (eA E (3 * v))), (1, .int x1), (2, .int x2)]) : Wq (wX E) E p l e rm_X8_setTruth s m args below meth c A 0 0 Q q (F0 m 0 ls []) := by
  intro H locs hP hD hS
  have hx := F.1
  have hb := F.2.1
  unfold f_X8_setTruth_0 at h
  refine lv_aload_n hx hb dX8_setTruth_0 rfl (lv_at hl 0 rfl) ?_
  refine r_get F hP i_X8 (3 * v) (xvO hv E q) rfl 0 (by decide) rfl lf_X8_9 rfl dX8_setTruth_1 ?_
  refine lv_iload_n hx hb dX8_setTruth_4 rfl (lv_at hl 1 rfl) ?_
  refine lv_iconst (v := 3) hx hb dX8_setTruth_5 (by decide) ?_
  obtain ⟨q1, e2, h⟩ := Option.bind_eq_some_iff.mp h
  refine r_iast F hP hD hS (3 * v + 1) (xvK hv E q) (xvKs hv E q) e2 dX8_setTruth_6 ?_
  intro H locs hP hD hS
  refine lv_aload_n hx hb dX8_setTruth_7 rfl (lv_at hl 0 rfl) ?_
  refine r_get F hP i_X8 (3 * v) (xvO hv E q1) rfl 1 (by decide) rfl lf_X8_15 rfl dX8_setTruth_8 ?_
  refine lv_iload_n hx hb dX8_setTruth_11 rfl (lv_at hl 1 rfl) ?_
  refine lv_iconst (v := 4) hx hb dX8_setTruth_12 (by decide) ?_
  refine lv_imul hx hb dX8_setTruth_13 ?_
  refine lv_iload_n hx hb dX8_setTruth_14 rfl (lv_at hl 2 rfl) ?_
  refine lv_if_eq (tgt := 22) hx hb dX8_setTruth_15 (by decide) (fun c3 => ?_) (fun c3 => ?_)
  · rw [if_pos c3] at h
    refine lv_lconst (v := 0) hx hb dX8_setTruth_22 (by decide) ?_
    obtain ⟨q4, e5, h⟩ := Option.bind_eq_some_iff.mp h
    refine r_last F hP hD hS (3 * v + 2) (xvW hv E q1) (xvWs hv E q1) e5 dX8_setTruth_23 ?_
    intro H locs hP hD hS
    cases h
    exact hRt _ _ dX8_setTruth_24 _ _ hP hD hS
  · rw [if_neg c3] at h
    refine lv_lconst (v := 1) hx hb dX8_setTruth_18 (by decide) ?_
    refine lv_goto (tgt := 23) hx hb dX8_setTruth_19 (by decide) ?_
    obtain ⟨q6, e7, h⟩ := Option.bind_eq_some_iff.mp h
    refine r_last F hP hD hS (3 * v + 2) (xvW hv E q1) (xvWs hv E q1) e7 dX8_setTruth_23 ?_
    intro H locs hP hD hS
    cases h
    exact hRt _ _ dX8_setTruth_24 _ _ hP hD hS
def f_X8_setTruth (v : Nat) (q : QS) (x1 : Int32) (x2 : Int32) : Option (QS) := f_X8_setTruth_0 v q x1 x2
set_option maxRecDepth 100000 in
theorem c_X8_setTruth {E : En} {l : Launch} {v : Nat} (hv : v < 5) (q : QS) (x1 : Int32) (x2 : Int32) {o : QS} (h : f_X8_setTruth v q x1 x2 = some o) : Ct (wX E) E l yX8_setTruth (wy yX8_setTruth cX8_setTruth 3 none) rm_X8_setTruth q o [.ref (eA E (3 * v)), .int x1, .int x2] none :=
  ct_V (o := o) (by decide +kernel) (fun p e s m below meth c A Q F hA hRt H locs hP hD hS => en_W [.ref (eA E (3 * v)), .int x1, .int x2] (Nat.le_of_ble_eq_true rfl) (fun ls hl => g_X8_setTruth_0 F hA hRt hv q x1 x2 h ls (lv_sub hl [0, 1, 2] rfl) H locs hP hD hS))
def rm_X8_setEmptyText : Room := { frames := 0, cells := 0, slots := 0, locals := 0 }
def f_X8_setEmptyText_9_b (v : Nat) (B9 : QS → Int32 → Int32 → Option (QS)) (q : QS) (x1 : Int32) (x2 : Int32) : Option (QS) :=
  if (4 : Int32) ≤ x2 then
    some q
  else
    (wL q (3 * v + 2) (vN q v * 4) ((x1 * (4 : Int32)) + x2) (0 : Int64)).bind fun q4 =>
    B9 q4 x1 (x2 + (1 : Int32))
set_option maxHeartbeats 4000000 in
set_option maxRecDepth 100000 in
theorem g_X8_setEmptyText_9_b {E : En} {p : Program} {l : Launch} {e : Env} {s : State} {m : MethodId} {args : Array Value} {below : List Frame} {meth : Method} {c : Code} {A : Nat → Prop} {Q : State → Prop} (F : Fx E p s m args meth c (yX8_setEmptyText).cls cX8_setEmptyText 3 none) (hA : ∀ z : Nat, s.heap.size ≤ z → A z) {o : QS} (hRt : RtV (wX E) E p l e rm_X8_setEmptyText s m args below meth c A Q cX8_setEmptyText o) {v : Nat} (hv : v < 5) {B9 : QS → Int32 → Int32 → Option (QS)} (hB9 : ∀ (q : QS) (x1 : Int32) (x2 : Int32), B9 q x1 x2 = some o → ∀ ls : Array Slot, lv_has ls 3 [(0, .ref (eA E (3 * v))), (1, .int x1), (2, .int x2)] → Wq (wX E) E p l e rm_X8_setEmptyText s m args below meth c A 0 0 Q q (F0 m 9 ls [])) (q : QS) (x1 : Int32) (x2 : Int32) (h : f_X8_setEmptyText_9_b v B9 q x1 x2 = some o) (ls : Array Slot) (hl : lv_has ls 3 [(0, .ref (eA E (3 * v))), (1, .int x1), (2, .int x2)]) : Wq (wX E) E p l e rm_X8_setEmptyText s m args below meth c A 0 0 Q q (F0 m 9 ls []) := by
  intro H locs hP hD hS
  have hx := F.1
  have hb := F.2.1
  unfold f_X8_setEmptyText_9_b at h
  refine lv_iload_n hx hb dX8_setEmptyText_9 rfl (lv_at hl 2 rfl) ?_
  refine lv_iconst (v := 4) hx hb dX8_setEmptyText_10 (by decide) ?_
  refine lv_icmp_ge (tgt := 31) hx hb dX8_setEmptyText_11 (by decide) (fun c3 => ?_) (fun c3 => ?_)
  · rw [if_pos c3] at h
    cases h
    exact hRt _ _ dX8_setEmptyText_31 _ _ hP hD hS
  · rw [if_neg c3] at h
    refine lv_aload_n hx hb dX8_setEmptyText_14 rfl (lv_at hl 0 rfl) ?_
    refine r_get F hP i_X8 (3 * v) (xvO hv E q) rfl 1 (by decide) rfl lf_X8_15 rfl dX8_setEmptyText_15 ?_
    refine lv_iload_n hx hb dX8_setEmptyText_18 rfl (lv_at hl 1 rfl) ?_
    refine lv_iconst (v := 4) hx hb dX8_setEmptyText_19 (by decide) ?_
    refine lv_imul hx hb dX8_setEmptyText_20 ?_
    refine lv_iload_n hx hb dX8_setEmptyText_21 rfl (lv_at hl 2 rfl) ?_
    refine lv_iadd hx hb dX8_setEmptyText_22 ?_
    refine lv_lconst (v := 0) hx hb dX8_setEmptyText_23 (by decide) ?_
    obtain ⟨q4, e5, h⟩ := Option.bind_eq_some_iff.mp h
    refine r_last F hP hD hS (3 * v + 2) (xvW hv E q) (xvWs hv E q) e5 dX8_setEmptyText_24 ?_
    intro H locs hP hD hS
    refine lv_iinc (v := (x2 + (1 : Int32))) (lv' := [(2, .int (x2 + (1 : Int32))), (0, .ref (eA E (3 * v))), (1, .int x1)]) hx hb dX8_setEmptyText_25 hl (k := 2) rfl rfl (by decide) rfl (fun ls hl => ?_)
    refine lv_goto (tgt := 9) hx hb dX8_setEmptyText_28 (by decide) ?_
    exact hB9 q4 x1 (x2 + (1 : Int32)) h _ (lv_sub hl [1, 2, 0] rfl) _ _ hP hD hS
def f_X8_setEmptyText_9 (v : Nat) : Nat → QS → Int32 → Int32 → Option (QS)
  | 0 => fun _ _ _ => none
  | n + 1 => f_X8_setEmptyText_9_b v (f_X8_setEmptyText_9 v n)
theorem g_X8_setEmptyText_9 {E : En} {p : Program} {l : Launch} {e : Env} {s : State} {m : MethodId} {args : Array Value} {below : List Frame} {meth : Method} {c : Code} {A : Nat → Prop} {Q : State → Prop} (F : Fx E p s m args meth c (yX8_setEmptyText).cls cX8_setEmptyText 3 none) (hA : ∀ z : Nat, s.heap.size ≤ z → A z) {o : QS} (hRt : RtV (wX E) E p l e rm_X8_setEmptyText s m args below meth c A Q cX8_setEmptyText o) {v : Nat} (hv : v < 5) (n : Nat) : ∀ (q : QS) (x1 : Int32) (x2 : Int32), f_X8_setEmptyText_9 v n q x1 x2 = some o → ∀ ls : Array Slot, lv_has ls 3 [(0, .ref (eA E (3 * v))), (1, .int x1), (2, .int x2)] → Wq (wX E) E p l e rm_X8_setEmptyText s m args below meth c A 0 0 Q q (F0 m 9 ls []) := by
  induction n with
  | zero => intro q x1 x2 h; cases h
  | succ n ih => intro q x1 x2 h; exact g_X8_setEmptyText_9_b F hA hRt hv ih q x1 x2 h
def f_X8_setEmptyText_0 (v : Nat) (q : QS) (x1 : Int32) : Option (QS) :=
  (wI q (3 * v + 1) (vN q v) x1 (2 : Int32)).bind fun q1 =>
  f_X8_setEmptyText_9 v FU q1 x1 (0 : Int32)
set_option maxHeartbeats 4000000 in
set_option maxRecDepth 100000 in
theorem g_X8_setEmptyText_0 {E : En} {p : Program} {l : Launch} {e : Env} {s : State} {m : MethodId} {args : Array Value} {below : List Frame} {meth : Method} {c : Code} {A : Nat → Prop} {Q : State → Prop} (F : Fx E p s m args meth c (yX8_setEmptyText).cls cX8_setEmptyText 3 none) (hA : ∀ z : Nat, s.heap.size ≤ z → A z) {o : QS} (hRt : RtV (wX E) E p l e rm_X8_setEmptyText s m args below meth c A Q cX8_setEmptyText o) {v : Nat} (hv : v < 5) (q : QS) (x1 : Int32) (h : f_X8_setEmptyText_0 v q x1 = some o) (ls : Array Slot) (hl : lv_has ls 3 [(0, .ref (eA E (3 * v))), (1, .int x1)]) : Wq (wX E) E p l e rm_X8_setEmptyText s m args below meth c A 0 0 Q q (F0 m 0 ls []) := by
  intro H locs hP hD hS
  have hx := F.1
  have hb := F.2.1
  unfold f_X8_setEmptyText_0 at h
  refine lv_aload_n hx hb dX8_setEmptyText_0 rfl (lv_at hl 0 rfl) ?_
  refine r_get F hP i_X8 (3 * v) (xvO hv E q) rfl 0 (by decide) rfl lf_X8_9 rfl dX8_setEmptyText_1 ?_
  refine lv_iload_n hx hb dX8_setEmptyText_4 rfl (lv_at hl 1 rfl) ?_
  refine lv_iconst (v := 2) hx hb dX8_setEmptyText_5 (by decide) ?_
  obtain ⟨q1, e2, h⟩ := Option.bind_eq_some_iff.mp h
  refine r_iast F hP hD hS (3 * v + 1) (xvK hv E q) (xvKs hv E q) e2 dX8_setEmptyText_6 ?_
  intro H locs hP hD hS
  refine lv_iconst (v := 0) hx hb dX8_setEmptyText_7 (by decide) ?_
  refine lv_istore_n (lv' := [(2, .int (0 : Int32)), (0, .ref (eA E (3 * v))), (1, .int x1)]) hx hb dX8_setEmptyText_8 rfl hl (by decide) rfl (fun ls hl => ?_)
  exact g_X8_setEmptyText_9 F hA hRt hv FU q1 x1 (0 : Int32) h _ (lv_sub hl [1, 2, 0] rfl) _ _ hP hD hS
def f_X8_setEmptyText (v : Nat) (q : QS) (x1 : Int32) : Option (QS) := f_X8_setEmptyText_0 v q x1
set_option maxRecDepth 100000 in
theorem c_X8_setEmptyText {E : En} {l : Launch} {v : Nat} (hv : v < 5) (q : QS) (x1 : Int32) {o : QS} (h : f_X8_setEmptyText v q x1 = some o) : Ct (wX E) E l yX8_setEmptyText (wy yX8_setEmptyText cX8_setEmptyText 3 none) rm_X8_setEmptyText q o [.ref (eA E (3 * v)), .int x1] none :=
  ct_V (o := o) (by decide +kernel) (fun p e s m below meth c A Q F hA hRt H locs hP hD hS => en_W [.ref (eA E (3 * v)), .int x1] (Nat.le_of_ble_eq_true rfl) (fun ls hl => g_X8_setEmptyText_0 F hA hRt hv q x1 h ls (lv_sub hl [0, 1] rfl) H locs hP hD hS))
def rm_X8_appendByte : Room := { frames := 0, cells := 0, slots := 0, locals := 0 }
def f_X8_appendByte_0 (v : Nat) (q : QS) (x1 : Int32) (x2 : Int32) : Option (QS) :=
  (rd (qL q (3 * v + 2)) (vN q v * 4) ((x1 * (4 : Int32)) + (3 : Int32))).bind fun y1 =>
  if (31 : Int32) ≤ (((y1).toInt32) &&& (255 : Int32)) then
    some q
  else
    (rd (qL q (3 * v + 2)) (vN q v * 4) ((x1 * (4 : Int32)) + ((((y1).toInt32) &&& (255 : Int32)) / (8 : Int32)))).bind fun y4 =>
    (wL q (3 * v + 2) (vN q v * 4) ((x1 * (4 : Int32)) + ((((y1).toInt32) &&& (255 : Int32)) / (8 : Int32))) (y4 ||| (((x2).toInt64) <<< ((((56 : Int32) - ((8 : Int32) * ((((y1).toInt32) &&& (255 : Int32)) - (((y1).toInt32) &&& (255 : Int32)) / (8 : Int32) * (8 : Int32))))).toInt64 &&& 63)))).bind fun q6 =>
    (rd (qL q6 (3 * v + 2)) (vN q6 v * 4) ((x1 * (4 : Int32)) + (3 : Int32))).bind fun y8 =>
    (wL q6 (3 * v + 2) (vN q6 v * 4) ((x1 * (4 : Int32)) + (3 : Int32)) (y8 + (1 : Int64))).bind fun q10 =>
    some q10
set_option maxHeartbeats 4000000 in
set_option maxRecDepth 100000 in
theorem g_X8_appendByte_0 {E : En} {p : Program} {l : Launch} {e : Env} {s : State} {m : MethodId} {args : Array Value} {below : List Frame} {meth : Method} {c : Code} {A : Nat → Prop} {Q : State → Prop} (F : Fx E p s m args meth c (yX8_appendByte).cls cX8_appendByte 5 none) (hA : ∀ z : Nat, s.heap.size ≤ z → A z) {o : QS} (hRt : RtV (wX E) E p l e rm_X8_appendByte s m args below meth c A Q cX8_appendByte o) {v : Nat} (hv : v < 5) (q : QS) (x1 : Int32) (x2 : Int32) (h : f_X8_appendByte_0 v q x1 x2 = some o) (ls : Array Slot) (hl : lv_has ls 5 [(0, .ref (eA E (3 * v))), (1, .int x1), (2, .int x2)]) : Wq (wX E) E p l e rm_X8_appendByte s m args below meth c A 0 0 Q q (F0 m 0 ls []) := by
  intro H locs hP hD hS
  have hx := F.1
  have hb := F.2.1
  unfold f_X8_appendByte_0 at h
  refine lv_iload_n hx hb dX8_appendByte_0 rfl (lv_at hl 1 rfl) ?_
  refine lv_iconst (v := 4) hx hb dX8_appendByte_1 (by decide) ?_
  refine lv_imul hx hb dX8_appendByte_2 ?_
  refine lv_istore_n (lv' := [(3, .int (x1 * (4 : Int32))), (0, .ref (eA E (3 * v))), (1, .int x1), (2, .int x2)]) hx hb dX8_appendByte_3 rfl hl (by decide) rfl (fun ls hl => ?_)
  refine lv_aload_n hx hb dX8_appendByte_4 rfl (lv_at hl 1 rfl) ?_
  refine r_get F hP i_X8 (3 * v) (xvO hv E q) rfl 1 (by decide) rfl lf_X8_15 rfl dX8_appendByte_5 ?_
  refine lv_iload_n hx hb dX8_appendByte_8 rfl (lv_at hl 0 rfl) ?_
  refine lv_iconst (v := 3) hx hb dX8_appendByte_9 (by decide) ?_
  refine lv_iadd hx hb dX8_appendByte_10 ?_
  obtain ⟨y1, e2, h⟩ := Option.bind_eq_some_iff.mp h
  refine r_lald F hP (3 * v + 2) (xvW hv E q) e2 dX8_appendByte_11 ?_
  refine lv_l2i (v := ((y1).toInt32)) hx hb dX8_appendByte_12 rfl ?_
  refine lv_sipush (v := 255) hx hb dX8_appendByte_13 (by decide) ?_
  refine lv_iand hx hb dX8_appendByte_16 ?_
  refine lv_istore (lv' := [(4, .int (((y1).toInt32) &&& (255 : Int32))), (3, .int (x1 * (4 : Int32))), (0, .ref (eA E (3 * v))), (1, .int x1), (2, .int x2)]) hx hb dX8_appendByte_17 hl (by decide) rfl (fun ls hl => ?_)
  refine lv_iload hx hb dX8_appendByte_19 (lv_at hl 0 rfl) ?_
  refine lv_bipush (v := 31) hx hb dX8_appendByte_21 (by decide) ?_
  refine lv_icmp_ge (tgt := 67) hx hb dX8_appendByte_23 (by decide) (fun c3 => ?_) (fun c3 => ?_)
  · rw [if_pos c3] at h
    cases h
    exact hRt _ _ dX8_appendByte_67 _ _ hP hD hS
  · rw [if_neg c3] at h
    refine lv_aload_n hx hb dX8_appendByte_26 rfl (lv_at hl 2 rfl) ?_
    refine r_get F hP i_X8 (3 * v) (xvO hv E q) rfl 1 (by decide) rfl lf_X8_15 rfl dX8_appendByte_27 ?_
    refine lv_iload_n hx hb dX8_appendByte_30 rfl (lv_at hl 1 rfl) ?_
    refine lv_iload hx hb dX8_appendByte_31 (lv_at hl 0 rfl) ?_
    refine lv_bipush (v := 8) hx hb dX8_appendByte_33 (by decide) ?_
    refine lv_idiv hx hb dX8_appendByte_35 (by decide) ?_
    refine lv_iadd hx hb dX8_appendByte_36 ?_
    refine lv_dup2_11 hx hb dX8_appendByte_37 rfl rfl ?_
    obtain ⟨y4, e5, h⟩ := Option.bind_eq_some_iff.mp h
    refine r_lald F hP (3 * v + 2) (xvW hv E q) e5 dX8_appendByte_38 ?_
    refine lv_iload_n hx hb dX8_appendByte_39 rfl (lv_at hl 4 rfl) ?_
    refine lv_i2l (v := ((x2).toInt64)) hx hb dX8_appendByte_40 rfl ?_
    refine lv_bipush (v := 56) hx hb dX8_appendByte_41 (by decide) ?_
    refine lv_bipush (v := 8) hx hb dX8_appendByte_43 (by decide) ?_
    refine lv_iload hx hb dX8_appendByte_45 (lv_at hl 0 rfl) ?_
    refine lv_bipush (v := 8) hx hb dX8_appendByte_47 (by decide) ?_
    refine lv_irem hx hb dX8_appendByte_49 (by decide) ?_
    refine lv_imul hx hb dX8_appendByte_50 ?_
    refine lv_isub hx hb dX8_appendByte_51 ?_
    refine lv_lshl (v := (((x2).toInt64) <<< ((((56 : Int32) - ((8 : Int32) * ((((y1).toInt32) &&& (255 : Int32)) - (((y1).toInt32) &&& (255 : Int32)) / (8 : Int32) * (8 : Int32))))).toInt64 &&& 63))) hx hb dX8_appendByte_52 rfl ?_
    refine lv_lor hx hb dX8_appendByte_53 ?_
    obtain ⟨q6, e7, h⟩ := Option.bind_eq_some_iff.mp h
    refine r_last F hP hD hS (3 * v + 2) (xvW hv E q) (xvWs hv E q) e7 dX8_appendByte_54 ?_
    intro H locs hP hD hS
    refine lv_aload_n hx hb dX8_appendByte_55 rfl (lv_at hl 2 rfl) ?_
    refine r_get F hP i_X8 (3 * v) (xvO hv E q6) rfl 1 (by decide) rfl lf_X8_15 rfl dX8_appendByte_56 ?_
    refine lv_iload_n hx hb dX8_appendByte_59 rfl (lv_at hl 1 rfl) ?_
    refine lv_iconst (v := 3) hx hb dX8_appendByte_60 (by decide) ?_
    refine lv_iadd hx hb dX8_appendByte_61 ?_
    refine lv_dup2_11 hx hb dX8_appendByte_62 rfl rfl ?_
    obtain ⟨y8, e9, h⟩ := Option.bind_eq_some_iff.mp h
    refine r_lald F hP (3 * v + 2) (xvW hv E q6) e9 dX8_appendByte_63 ?_
    refine lv_lconst (v := 1) hx hb dX8_appendByte_64 (by decide) ?_
    refine lv_ladd hx hb dX8_appendByte_65 ?_
    obtain ⟨q10, e11, h⟩ := Option.bind_eq_some_iff.mp h
    refine r_last F hP hD hS (3 * v + 2) (xvW hv E q6) (xvWs hv E q6) e11 dX8_appendByte_66 ?_
    intro H locs hP hD hS
    cases h
    exact hRt _ _ dX8_appendByte_67 _ _ hP hD hS
def f_X8_appendByte (v : Nat) (q : QS) (x1 : Int32) (x2 : Int32) : Option (QS) := f_X8_appendByte_0 v q x1 x2
set_option maxRecDepth 100000 in
theorem c_X8_appendByte {E : En} {l : Launch} {v : Nat} (hv : v < 5) (q : QS) (x1 : Int32) (x2 : Int32) {o : QS} (h : f_X8_appendByte v q x1 x2 = some o) : Ct (wX E) E l yX8_appendByte (wy yX8_appendByte cX8_appendByte 5 none) rm_X8_appendByte q o [.ref (eA E (3 * v)), .int x1, .int x2] none :=
  ct_V (o := o) (by decide +kernel) (fun p e s m below meth c A Q F hA hRt H locs hP hD hS => en_W [.ref (eA E (3 * v)), .int x1, .int x2] (Nat.le_of_ble_eq_true rfl) (fun ls hl => g_X8_appendByte_0 F hA hRt hv q x1 x2 h ls (lv_sub hl [0, 1, 2] rfl) H locs hP hD hS))
def rm_X8_lengthOf : Room := { frames := 0, cells := 0, slots := 0, locals := 0 }
def f_X8_lengthOf_0 (v : Nat) (q : QS) (x1 : Int32) : Option (Int32) :=
  (rd (qL q (3 * v + 2)) (vN q v * 4) ((x1 * (4 : Int32)) + (3 : Int32))).bind fun y1 =>
  some (((y1 &&& (255 : Int64))).toInt32)
set_option maxHeartbeats 4000000 in
set_option maxRecDepth 100000 in
theorem g_X8_lengthOf_0 {E : En} {p : Program} {l : Launch} {e : Env} {s : State} {m : MethodId} {args : Array Value} {below : List Frame} {meth : Method} {c : Code} {A : Nat → Prop} {Q : State → Prop} (F : Fx E p s m args meth c (yX8_lengthOf).cls cX8_lengthOf 2 (some .int)) (hA : ∀ z : Nat, s.heap.size ≤ z → A z) {q : QS} {o : Int32} (hRt : RtI (wX E) E p l e rm_X8_lengthOf s m args below meth c A Q cX8_lengthOf (o, q)) {v : Nat} (hv : v < 5) (x1 : Int32) (h : f_X8_lengthOf_0 v q x1 = some o) (ls : Array Slot) (hl : lv_has ls 2 [(0, .ref (eA E (3 * v))), (1, .int x1)]) : Wq (wX E) E p l e rm_X8_lengthOf s m args below meth c A 0 0 Q q (F0 m 0 ls []) := by
  intro H locs hP hD hS
  have hx := F.1
  have hb := F.2.1
  unfold f_X8_lengthOf_0 at h
  refine lv_aload_n hx hb dX8_lengthOf_0 rfl (lv_at hl 0 rfl) ?_
  refine r_get F hP i_X8 (3 * v) (xvO hv E q) rfl 1 (by decide) rfl lf_X8_15 rfl dX8_lengthOf_1 ?_
  refine lv_iload_n hx hb dX8_lengthOf_4 rfl (lv_at hl 1 rfl) ?_
  refine lv_iconst (v := 4) hx hb dX8_lengthOf_5 (by decide) ?_
  refine lv_imul hx hb dX8_lengthOf_6 ?_
  refine lv_iconst (v := 3) hx hb dX8_lengthOf_7 (by decide) ?_
  refine lv_iadd hx hb dX8_lengthOf_8 ?_
  obtain ⟨y1, e2, h⟩ := Option.bind_eq_some_iff.mp h
  refine r_lald F hP (3 * v + 2) (xvW hv E q) e2 dX8_lengthOf_9 ?_
  refine lv_ldc2 (v := 255) hx hb F.2.2.2.1 (F.2.2.2.2.1 _ lc_X8_41) dX8_lengthOf_10 ?_
  refine lv_land hx hb dX8_lengthOf_13 ?_
  refine lv_l2i (v := (((y1 &&& (255 : Int64))).toInt32)) hx hb dX8_lengthOf_14 rfl ?_
  cases h
  exact hRt _ _ dX8_lengthOf_15 _ _ hP hD hS
def f_X8_lengthOf (v : Nat) (q : QS) (x1 : Int32) : Option (Int32) := f_X8_lengthOf_0 v q x1
set_option maxRecDepth 100000 in
theorem c_X8_lengthOf {E : En} {l : Launch} {v : Nat} (hv : v < 5) (q : QS) (x1 : Int32) {o : Int32} (h : f_X8_lengthOf v q x1 = some o) : Ct (wX E) E l yX8_lengthOf (wy yX8_lengthOf cX8_lengthOf 2 (some .int)) rm_X8_lengthOf q q [.ref (eA E (3 * v)), .int x1] (some (.int o)) :=
  ct_I (o := (o, q)) (by decide +kernel) rfl (fun p e s m below meth c A Q F hA hRt H locs hP hD hS => en_W [.ref (eA E (3 * v)), .int x1] (Nat.le_of_ble_eq_true rfl) (fun ls hl => g_X8_lengthOf_0 F hA hRt hv x1 h ls (lv_sub hl [0, 1] rfl) H locs hP hD hS))
def rm_X8_byteOf : Room := { frames := 0, cells := 0, slots := 0, locals := 0 }
def f_X8_byteOf_0 (v : Nat) (q : QS) (x1 : Int32) (x2 : Int32) : Option (Int32) :=
  (rd (qL q (3 * v + 2)) (vN q v * 4) ((x1 * (4 : Int32)) + (x2 / (8 : Int32)))).bind fun y1 =>
  some ((((((y1).toUInt64 >>> ((((56 : Int32) - ((8 : Int32) * (x2 - x2 / (8 : Int32) * (8 : Int32))))).toInt64.toUInt64 &&& Int64.toUInt64 63)).toInt64)).toInt32) &&& (255 : Int32))
set_option maxHeartbeats 4000000 in
set_option maxRecDepth 100000 in
theorem g_X8_byteOf_0 {E : En} {p : Program} {l : Launch} {e : Env} {s : State} {m : MethodId} {args : Array Value} {below : List Frame} {meth : Method} {c : Code} {A : Nat → Prop} {Q : State → Prop} (F : Fx E p s m args meth c (yX8_byteOf).cls cX8_byteOf 3 (some .int)) (hA : ∀ z : Nat, s.heap.size ≤ z → A z) {q : QS} {o : Int32} (hRt : RtI (wX E) E p l e rm_X8_byteOf s m args below meth c A Q cX8_byteOf (o, q)) {v : Nat} (hv : v < 5) (x1 : Int32) (x2 : Int32) (h : f_X8_byteOf_0 v q x1 x2 = some o) (ls : Array Slot) (hl : lv_has ls 3 [(0, .ref (eA E (3 * v))), (1, .int x1), (2, .int x2)]) : Wq (wX E) E p l e rm_X8_byteOf s m args below meth c A 0 0 Q q (F0 m 0 ls []) := by
  intro H locs hP hD hS
  have hx := F.1
  have hb := F.2.1
  unfold f_X8_byteOf_0 at h
  refine lv_aload_n hx hb dX8_byteOf_0 rfl (lv_at hl 0 rfl) ?_
  refine r_get F hP i_X8 (3 * v) (xvO hv E q) rfl 1 (by decide) rfl lf_X8_15 rfl dX8_byteOf_1 ?_
  refine lv_iload_n hx hb dX8_byteOf_4 rfl (lv_at hl 1 rfl) ?_
  refine lv_iconst (v := 4) hx hb dX8_byteOf_5 (by decide) ?_
  refine lv_imul hx hb dX8_byteOf_6 ?_
  refine lv_iload_n hx hb dX8_byteOf_7 rfl (lv_at hl 2 rfl) ?_
  refine lv_bipush (v := 8) hx hb dX8_byteOf_8 (by decide) ?_
  refine lv_idiv hx hb dX8_byteOf_10 (by decide) ?_
  refine lv_iadd hx hb dX8_byteOf_11 ?_
  obtain ⟨y1, e2, h⟩ := Option.bind_eq_some_iff.mp h
  refine r_lald F hP (3 * v + 2) (xvW hv E q) e2 dX8_byteOf_12 ?_
  refine lv_bipush (v := 56) hx hb dX8_byteOf_13 (by decide) ?_
  refine lv_bipush (v := 8) hx hb dX8_byteOf_15 (by decide) ?_
  refine lv_iload_n hx hb dX8_byteOf_17 rfl (lv_at hl 2 rfl) ?_
  refine lv_bipush (v := 8) hx hb dX8_byteOf_18 (by decide) ?_
  refine lv_irem hx hb dX8_byteOf_20 (by decide) ?_
  refine lv_imul hx hb dX8_byteOf_21 ?_
  refine lv_isub hx hb dX8_byteOf_22 ?_
  refine lv_lushr (v := (((y1).toUInt64 >>> ((((56 : Int32) - ((8 : Int32) * (x2 - x2 / (8 : Int32) * (8 : Int32))))).toInt64.toUInt64 &&& Int64.toUInt64 63)).toInt64)) hx hb dX8_byteOf_23 rfl ?_
  refine lv_l2i (v := (((((y1).toUInt64 >>> ((((56 : Int32) - ((8 : Int32) * (x2 - x2 / (8 : Int32) * (8 : Int32))))).toInt64.toUInt64 &&& Int64.toUInt64 63)).toInt64)).toInt32)) hx hb dX8_byteOf_24 rfl ?_
  refine lv_sipush (v := 255) hx hb dX8_byteOf_25 (by decide) ?_
  refine lv_iand hx hb dX8_byteOf_28 ?_
  cases h
  exact hRt _ _ dX8_byteOf_29 _ _ hP hD hS
def f_X8_byteOf (v : Nat) (q : QS) (x1 : Int32) (x2 : Int32) : Option (Int32) := f_X8_byteOf_0 v q x1 x2
set_option maxRecDepth 100000 in
theorem c_X8_byteOf {E : En} {l : Launch} {v : Nat} (hv : v < 5) (q : QS) (x1 : Int32) (x2 : Int32) {o : Int32} (h : f_X8_byteOf v q x1 x2 = some o) : Ct (wX E) E l yX8_byteOf (wy yX8_byteOf cX8_byteOf 3 (some .int)) rm_X8_byteOf q q [.ref (eA E (3 * v)), .int x1, .int x2] (some (.int o)) :=
  ct_I (o := (o, q)) (by decide +kernel) rfl (fun p e s m below meth c A Q F hA hRt H locs hP hD hS => en_W [.ref (eA E (3 * v)), .int x1, .int x2] (Nat.le_of_ble_eq_true rfl) (fun ls hl => g_X8_byteOf_0 F hA hRt hv x1 x2 h ls (lv_sub hl [0, 1, 2] rfl) H locs hP hD hS))
def rm_X8_numberOf : Room := { frames := 0, cells := 0, slots := 0, locals := 0 }
def f_X8_numberOf_0 (v : Nat) (q : QS) (x1 : Int32) : Option (Int64) :=
  (rd (qL q (3 * v + 2)) (vN q v * 4) (x1 * (4 : Int32))).bind fun y1 =>
  some y1
set_option maxHeartbeats 4000000 in
set_option maxRecDepth 100000 in
theorem g_X8_numberOf_0 {E : En} {p : Program} {l : Launch} {e : Env} {s : State} {m : MethodId} {args : Array Value} {below : List Frame} {meth : Method} {c : Code} {A : Nat → Prop} {Q : State → Prop} (F : Fx E p s m args meth c (yX8_numberOf).cls cX8_numberOf 2 (some .long)) (hA : ∀ z : Nat, s.heap.size ≤ z → A z) {q : QS} {o : Int64} (hRt : RtL (wX E) E p l e rm_X8_numberOf s m args below meth c A Q cX8_numberOf (o, q)) {v : Nat} (hv : v < 5) (x1 : Int32) (h : f_X8_numberOf_0 v q x1 = some o) (ls : Array Slot) (hl : lv_has ls 2 [(0, .ref (eA E (3 * v))), (1, .int x1)]) : Wq (wX E) E p l e rm_X8_numberOf s m args below meth c A 0 0 Q q (F0 m 0 ls []) := by
  intro H locs hP hD hS
  have hx := F.1
  have hb := F.2.1
  unfold f_X8_numberOf_0 at h
  refine lv_aload_n hx hb dX8_numberOf_0 rfl (lv_at hl 0 rfl) ?_
  refine r_get F hP i_X8 (3 * v) (xvO hv E q) rfl 1 (by decide) rfl lf_X8_15 rfl dX8_numberOf_1 ?_
  refine lv_iload_n hx hb dX8_numberOf_4 rfl (lv_at hl 1 rfl) ?_
  refine lv_iconst (v := 4) hx hb dX8_numberOf_5 (by decide) ?_
  refine lv_imul hx hb dX8_numberOf_6 ?_
  obtain ⟨y1, e2, h⟩ := Option.bind_eq_some_iff.mp h
  refine r_lald F hP (3 * v + 2) (xvW hv E q) e2 dX8_numberOf_7 ?_
  cases h
  exact hRt _ _ dX8_numberOf_8 _ _ hP hD hS
def f_X8_numberOf (v : Nat) (q : QS) (x1 : Int32) : Option (Int64) := f_X8_numberOf_0 v q x1
set_option maxRecDepth 100000 in
theorem c_X8_numberOf {E : En} {l : Launch} {v : Nat} (hv : v < 5) (q : QS) (x1 : Int32) {o : Int64} (h : f_X8_numberOf v q x1 = some o) : Ct (wX E) E l yX8_numberOf (wy yX8_numberOf cX8_numberOf 2 (some .long)) rm_X8_numberOf q q [.ref (eA E (3 * v)), .int x1] (some (.long o)) :=
  ct_L (o := (o, q)) (by decide +kernel) (fun p e s m below meth c A Q F hA hRt H locs hP hD hS => en_W [.ref (eA E (3 * v)), .int x1] (Nat.le_of_ble_eq_true rfl) (fun ls hl => g_X8_numberOf_0 F hA hRt hv x1 h ls (lv_sub hl [0, 1] rfl) H locs hP hD hS))
def rm_X8_appendText : Room := { frames := 1, cells := 0, slots := 0, locals := 24 }
def f_X8_appendText_9_b (v : Nat) (B9 : QS → Int32 → Int32 → Int32 → Int32 → Option (QS)) (q : QS) (x1 : Int32) (x2 : Int32) (x3 : Int32) (x4 : Int32) : Option (QS) :=
  if x3 ≤ x4 then
    some q
  else
    (f_X8_byteOf v q x2 x4).bind fun r4 =>
    (f_X8_appendByte v q x1 r4).bind fun r6 =>
    B9 r6 x1 x2 x3 (x4 + (1 : Int32))
set_option maxHeartbeats 4000000 in
set_option maxRecDepth 100000 in
theorem g_X8_appendText_9_b {E : En} {p : Program} {l : Launch} {e : Env} {s : State} {m : MethodId} {args : Array Value} {below : List Frame} {meth : Method} {c : Code} {A : Nat → Prop} {Q : State → Prop} (F : Fx E p s m args meth c (yX8_appendText).cls cX8_appendText 5 none) (hA : ∀ z : Nat, s.heap.size ≤ z → A z) {o : QS} (hRt : RtV (wX E) E p l e rm_X8_appendText s m args below meth c A Q cX8_appendText o) {v : Nat} (hv : v < 5) {B9 : QS → Int32 → Int32 → Int32 → Int32 → Option (QS)} (hB9 : ∀ (q : QS) (x1 : Int32) (x2 : Int32) (x3 : Int32) (x4 : Int32), B9 q x1 x2 x3 x4 = some o → ∀ ls : Array Slot, lv_has ls 5 [(0, .ref (eA E (3 * v))), (1, .int x1), (2, .int x2), (3, .int x3), (4, .int x4)] → Wq (wX E) E p l e rm_X8_appendText s m args below meth c A 0 0 Q q (F0 m 9 ls [])) (q : QS) (x1 : Int32) (x2 : Int32) (x3 : Int32) (x4 : Int32) (h : f_X8_appendText_9_b v B9 q x1 x2 x3 x4 = some o) (ls : Array Slot) (hl : lv_has ls 5 [(0, .ref (eA E (3 * v))), (1, .int x1), (2, .int x2), (3, .int x3), (4, .int x4)]) : Wq (wX E) E p l e rm_X8_appendText s m args below meth c A 0 0 Q q (F0 m 9 ls []) := by
  intro H locs hP hD hS
  have hx := F.1
  have hb := F.2.1
  unfold f_X8_appendText_9_b at h
  refine lv_iload hx hb dX8_appendText_9 (lv_at hl 4 rfl) ?_
  refine lv_iload_n hx hb dX8_appendText_11 rfl (lv_at hl 3 rfl) ?_
  refine lv_icmp_ge (tgt := 33) hx hb dX8_appendText_12 (by decide) (fun c3 => ?_) (fun c3 => ?_)
  · rw [if_pos c3] at h
    cases h
    exact hRt _ _ dX8_appendText_33 _ _ hP hD hS
  · rw [if_neg c3] at h
    refine lv_aload_n hx hb dX8_appendText_15 rfl (lv_at hl 0 rfl) ?_
    refine lv_iload_n hx hb dX8_appendText_16 rfl (lv_at hl 1 rfl) ?_
    refine lv_aload_n hx hb dX8_appendText_17 rfl (lv_at hl 0 rfl) ?_
    refine lv_iload_n hx hb dX8_appendText_18 rfl (lv_at hl 2 rfl) ?_
    refine lv_iload hx hb dX8_appendText_19 (lv_at hl 4 rfl) ?_
    obtain ⟨r4, e5, h⟩ := Option.bind_eq_some_iff.mp h
    refine q_callV (As := [.int x2, .int x4]) (rest := [.int x1, .ref (eA E (3 * v))]) F hA hP hD hS (c_X8_byteOf (E := E) (l := l) hv q x2 x4 e5) k_X8_byteOf in_X8_byteOf se_X8_byteOf lm_X8_29 (3 * v) (xvO hv E q) rfl ⟨rfl, rfl⟩ ⟨by decide, by decide⟩ rfl hl.1 rfl (Nat.le_of_ble_eq_true rfl) dX8_appendText_21 ⟨by decide, by decide⟩ ?_
    intro H locs hP hD hS
    obtain ⟨r6, e7, h⟩ := Option.bind_eq_some_iff.mp h
    refine q_callV (As := [.int x1, .int r4]) (rest := []) F hA hP hD hS (c_X8_appendByte (E := E) (l := l) hv q x1 r4 e7) k_X8_appendByte in_X8_appendByte se_X8_appendByte lm_X8_33 (3 * v) (xvO hv E q) rfl ⟨rfl, rfl⟩ ⟨by decide, by decide⟩ rfl hl.1 rfl (Nat.le_of_ble_eq_true rfl) dX8_appendText_24 ⟨by decide, by decide⟩ ?_
    intro H locs hP hD hS
    refine lv_iinc (v := (x4 + (1 : Int32))) (lv' := [(4, .int (x4 + (1 : Int32))), (0, .ref (eA E (3 * v))), (1, .int x1), (2, .int x2), (3, .int x3)]) hx hb dX8_appendText_27 hl (k := 4) rfl rfl (by decide) rfl (fun ls hl => ?_)
    refine lv_goto (tgt := 9) hx hb dX8_appendText_30 (by decide) ?_
    exact hB9 r6 x1 x2 x3 (x4 + (1 : Int32)) h _ (lv_sub hl [1, 2, 3, 4, 0] rfl) _ _ hP hD hS
def f_X8_appendText_9 (v : Nat) : Nat → QS → Int32 → Int32 → Int32 → Int32 → Option (QS)
  | 0 => fun _ _ _ _ _ => none
  | n + 1 => f_X8_appendText_9_b v (f_X8_appendText_9 v n)
theorem g_X8_appendText_9 {E : En} {p : Program} {l : Launch} {e : Env} {s : State} {m : MethodId} {args : Array Value} {below : List Frame} {meth : Method} {c : Code} {A : Nat → Prop} {Q : State → Prop} (F : Fx E p s m args meth c (yX8_appendText).cls cX8_appendText 5 none) (hA : ∀ z : Nat, s.heap.size ≤ z → A z) {o : QS} (hRt : RtV (wX E) E p l e rm_X8_appendText s m args below meth c A Q cX8_appendText o) {v : Nat} (hv : v < 5) (n : Nat) : ∀ (q : QS) (x1 : Int32) (x2 : Int32) (x3 : Int32) (x4 : Int32), f_X8_appendText_9 v n q x1 x2 x3 x4 = some o → ∀ ls : Array Slot, lv_has ls 5 [(0, .ref (eA E (3 * v))), (1, .int x1), (2, .int x2), (3, .int x3), (4, .int x4)] → Wq (wX E) E p l e rm_X8_appendText s m args below meth c A 0 0 Q q (F0 m 9 ls []) := by
  induction n with
  | zero => intro q x1 x2 x3 x4 h; cases h
  | succ n ih => intro q x1 x2 x3 x4 h; exact g_X8_appendText_9_b F hA hRt hv ih q x1 x2 x3 x4 h
def f_X8_appendText_0 (v : Nat) (q : QS) (x1 : Int32) (x2 : Int32) : Option (QS) :=
  (f_X8_lengthOf v q x2).bind fun r1 =>
  f_X8_appendText_9 v FU q x1 x2 r1 (0 : Int32)
set_option maxHeartbeats 4000000 in
set_option maxRecDepth 100000 in
theorem g_X8_appendText_0 {E : En} {p : Program} {l : Launch} {e : Env} {s : State} {m : MethodId} {args : Array Value} {below : List Frame} {meth : Method} {c : Code} {A : Nat → Prop} {Q : State → Prop} (F : Fx E p s m args meth c (yX8_appendText).cls cX8_appendText 5 none) (hA : ∀ z : Nat, s.heap.size ≤ z → A z) {o : QS} (hRt : RtV (wX E) E p l e rm_X8_appendText s m args below meth c A Q cX8_appendText o) {v : Nat} (hv : v < 5) (q : QS) (x1 : Int32) (x2 : Int32) (h : f_X8_appendText_0 v q x1 x2 = some o) (ls : Array Slot) (hl : lv_has ls 5 [(0, .ref (eA E (3 * v))), (1, .int x1), (2, .int x2)]) : Wq (wX E) E p l e rm_X8_appendText s m args below meth c A 0 0 Q q (F0 m 0 ls []) := by
  intro H locs hP hD hS
  have hx := F.1
  have hb := F.2.1
  unfold f_X8_appendText_0 at h
  refine lv_aload_n hx hb dX8_appendText_0 rfl (lv_at hl 0 rfl) ?_
  refine lv_iload_n hx hb dX8_appendText_1 rfl (lv_at hl 2 rfl) ?_
  obtain ⟨r1, e2, h⟩ := Option.bind_eq_some_iff.mp h
  refine q_callV (As := [.int x2]) (rest := []) F hA hP hD hS (c_X8_lengthOf (E := E) (l := l) hv q x2 e2) k_X8_lengthOf in_X8_lengthOf se_X8_lengthOf lm_X8_25 (3 * v) (xvO hv E q) rfl ⟨rfl, rfl⟩ ⟨by decide, by decide⟩ rfl hl.1 rfl (Nat.le_of_ble_eq_true rfl) dX8_appendText_2 ⟨by decide, by decide⟩ ?_
  intro H locs hP hD hS
  refine lv_istore_n (lv' := [(3, .int r1), (0, .ref (eA E (3 * v))), (1, .int x1), (2, .int x2)]) hx hb dX8_appendText_5 rfl hl (by decide) rfl (fun ls hl => ?_)
  refine lv_iconst (v := 0) hx hb dX8_appendText_6 (by decide) ?_
  refine lv_istore (lv' := [(4, .int (0 : Int32)), (3, .int r1), (0, .ref (eA E (3 * v))), (1, .int x1), (2, .int x2)]) hx hb dX8_appendText_7 hl (by decide) rfl (fun ls hl => ?_)
  exact g_X8_appendText_9 F hA hRt hv FU q x1 x2 r1 (0 : Int32) h _ (lv_sub hl [2, 3, 4, 1, 0] rfl) _ _ hP hD hS
def f_X8_appendText (v : Nat) (q : QS) (x1 : Int32) (x2 : Int32) : Option (QS) := f_X8_appendText_0 v q x1 x2
set_option maxRecDepth 100000 in
theorem c_X8_appendText {E : En} {l : Launch} {v : Nat} (hv : v < 5) (q : QS) (x1 : Int32) (x2 : Int32) {o : QS} (h : f_X8_appendText v q x1 x2 = some o) : Ct (wX E) E l yX8_appendText (wy yX8_appendText cX8_appendText 5 none) rm_X8_appendText q o [.ref (eA E (3 * v)), .int x1, .int x2] none :=
  ct_V (o := o) (by decide +kernel) (fun p e s m below meth c A Q F hA hRt H locs hP hD hS => en_W [.ref (eA E (3 * v)), .int x1, .int x2] (Nat.le_of_ble_eq_true rfl) (fun ls hl => g_X8_appendText_0 F hA hRt hv q x1 x2 h ls (lv_sub hl [0, 1, 2] rfl) H locs hP hD hS))
def rm_X8_isNull : Room := { frames := 0, cells := 0, slots := 0, locals := 0 }
def f_X8_isNull_0 (v : Nat) (q : QS) (x1 : Int32) : Option (Int32) :=
  (rd (qI q (3 * v + 1)) (vN q v) x1).bind fun y1 =>
  if y1 = 0 then
    some (1 : Int32)
  else
    some (0 : Int32)
set_option maxHeartbeats 4000000 in
set_option maxRecDepth 100000 in
theorem g_X8_isNull_0 {E : En} {p : Program} {l : Launch} {e : Env} {s : State} {m : MethodId} {args : Array Value} {below : List Frame} {meth : Method} {c : Code} {A : Nat → Prop} {Q : State → Prop} (F : Fx E p s m args meth c (yX8_isNull).cls cX8_isNull 2 (some .boolean)) (hA : ∀ z : Nat, s.heap.size ≤ z → A z) {q : QS} {o : Int32} (hRt : RtZ (wX E) E p l e rm_X8_isNull s m args below meth c A Q cX8_isNull (o, q)) {v : Nat} (hv : v < 5) (x1 : Int32) (h : f_X8_isNull_0 v q x1 = some o) (ls : Array Slot) (hl : lv_has ls 2 [(0, .ref (eA E (3 * v))), (1, .int x1)]) : Wq (wX E) E p l e rm_X8_isNull s m args below meth c A 0 0 Q q (F0 m 0 ls []) := by
  intro H locs hP hD hS
  have hx := F.1
  have hb := F.2.1
  unfold f_X8_isNull_0 at h
  refine lv_aload_n hx hb dX8_isNull_0 rfl (lv_at hl 0 rfl) ?_
  refine r_get F hP i_X8 (3 * v) (xvO hv E q) rfl 0 (by decide) rfl lf_X8_9 rfl dX8_isNull_1 ?_
  refine lv_iload_n hx hb dX8_isNull_4 rfl (lv_at hl 1 rfl) ?_
  obtain ⟨y1, e2, h⟩ := Option.bind_eq_some_iff.mp h
  refine r_iald F hP (3 * v + 1) (xvK hv E q) e2 dX8_isNull_5 ?_
  refine lv_if_ne (tgt := 13) hx hb dX8_isNull_6 (by decide) (fun c3 => ?_) (fun c3 => ?_)
  · rw [if_neg c3] at h
    refine lv_iconst (v := 0) hx hb dX8_isNull_13 (by decide) ?_
    cases h
    exact hRt _ _ zz_0 dX8_isNull_14 _ _ hP hD hS
  · rw [if_pos c3] at h
    refine lv_iconst (v := 1) hx hb dX8_isNull_9 (by decide) ?_
    refine lv_goto (tgt := 14) hx hb dX8_isNull_10 (by decide) ?_
    cases h
    exact hRt _ _ zz_1 dX8_isNull_14 _ _ hP hD hS
def f_X8_isNull (v : Nat) (q : QS) (x1 : Int32) : Option (Int32) := f_X8_isNull_0 v q x1
set_option maxRecDepth 100000 in
theorem c_X8_isNull {E : En} {l : Launch} {v : Nat} (hv : v < 5) (q : QS) (x1 : Int32) {o : Int32} (h : f_X8_isNull v q x1 = some o) : Ct (wX E) E l yX8_isNull (wy yX8_isNull cX8_isNull 2 (some .boolean)) rm_X8_isNull q q [.ref (eA E (3 * v)), .int x1] (some (.int o)) :=
  ct_Z (o := (o, q)) (by decide +kernel) (fun p e s m below meth c A Q F hA hRt H locs hP hD hS => en_W [.ref (eA E (3 * v)), .int x1] (Nat.le_of_ble_eq_true rfl) (fun ls hl => g_X8_isNull_0 F hA hRt hv x1 h ls (lv_sub hl [0, 1] rfl) H locs hP hD hS))
def rm_X8_isTruth : Room := { frames := 1, cells := 0, slots := 0, locals := 21 }
def f_X8_isTruth_0 (v : Nat) (q : QS) (x1 : Int32) (x2 : Int32) : Option (Int32) :=
  (rd (qI q (3 * v + 1)) (vN q v) x1).bind fun y1 =>
  if y1 = (3 : Int32) then
    (f_X8_numberOf v q x1).bind fun r4 =>
    if (lg_cmp r4 (0 : Int64)) = 0 then
      if (0 : Int32) = x2 then
        some (1 : Int32)
      else
        some (0 : Int32)
    else
      if (1 : Int32) = x2 then
        some (1 : Int32)
      else
        some (0 : Int32)
  else
    some (0 : Int32)
set_option maxHeartbeats 4000000 in
set_option maxRecDepth 100000 in
theorem g_X8_isTruth_0 {E : En} {p : Program} {l : Launch} {e : Env} {s : State} {m : MethodId} {args : Array Value} {below : List Frame} {meth : Method} {c : Code} {A : Nat → Prop} {Q : State → Prop} (F : Fx E p s m args meth c (yX8_isTruth).cls cX8_isTruth 3 (some .boolean)) (hA : ∀ z : Nat, s.heap.size ≤ z → A z) {q : QS} {o : Int32} (hRt : RtZ (wX E) E p l e rm_X8_isTruth s m args below meth c A Q cX8_isTruth (o, q)) {v : Nat} (hv : v < 5) (x1 : Int32) (x2 : Int32) (h : f_X8_isTruth_0 v q x1 x2 = some o) (ls : Array Slot) (hl : lv_has ls 3 [(0, .ref (eA E (3 * v))), (1, .int x1), (2, .int x2)]) : Wq (wX E) E p l e rm_X8_isTruth s m args below meth c A 0 0 Q q (F0 m 0 ls []) := by
  intro H locs hP hD hS
  have hx := F.1
  have hb := F.2.1
  unfold f_X8_isTruth_0 at h
  refine lv_aload_n hx hb dX8_isTruth_0 rfl (lv_at hl 0 rfl) ?_
  refine r_get F hP i_X8 (3 * v) (xvO hv E q) rfl 0 (by decide) rfl lf_X8_9 rfl dX8_isTruth_1 ?_
  refine lv_iload_n hx hb dX8_isTruth_4 rfl (lv_at hl 1 rfl) ?_
  obtain ⟨y1, e2, h⟩ := Option.bind_eq_some_iff.mp h
  refine r_iald F hP (3 * v + 1) (xvK hv E q) e2 dX8_isTruth_5 ?_
  refine lv_iconst (v := 3) hx hb dX8_isTruth_6 (by decide) ?_
  refine lv_icmp_ne (tgt := 33) hx hb dX8_isTruth_7 (by decide) (fun c3 => ?_) (fun c3 => ?_)
  · rw [if_neg c3] at h
    refine lv_iconst (v := 0) hx hb dX8_isTruth_33 (by decide) ?_
    cases h
    exact hRt _ _ zz_0 dX8_isTruth_34 _ _ hP hD hS
  · rw [if_pos c3] at h
    refine lv_aload_n hx hb dX8_isTruth_10 rfl (lv_at hl 0 rfl) ?_
    refine lv_iload_n hx hb dX8_isTruth_11 rfl (lv_at hl 1 rfl) ?_
    obtain ⟨r4, e5, h⟩ := Option.bind_eq_some_iff.mp h
    refine q_callV (As := [.int x1]) (rest := []) F hA hP hD hS (c_X8_numberOf (E := E) (l := l) hv q x1 e5) k_X8_numberOf in_X8_numberOf se_X8_numberOf lm_X8_37 (3 * v) (xvO hv E q) rfl ⟨rfl, rfl⟩ ⟨by decide, by decide⟩ rfl hl.1 rfl (Nat.le_of_ble_eq_true rfl) dX8_isTruth_12 ⟨by decide, by decide⟩ ?_
    intro H locs hP hD hS
    refine lv_lconst (v := 0) hx hb dX8_isTruth_15 (by decide) ?_
    refine W.lcmp hx hb dX8_isTruth_16 ?_
    refine lv_if_eq (tgt := 24) hx hb dX8_isTruth_17 (by decide) (fun c6 => ?_) (fun c6 => ?_)
    · rw [if_pos c6] at h
      refine lv_iconst (v := 0) hx hb dX8_isTruth_24 (by decide) ?_
      refine lv_iload_n hx hb dX8_isTruth_25 rfl (lv_at hl 2 rfl) ?_
      refine lv_icmp_ne (tgt := 33) hx hb dX8_isTruth_26 (by decide) (fun c7 => ?_) (fun c7 => ?_)
      · rw [if_neg c7] at h
        refine lv_iconst (v := 0) hx hb dX8_isTruth_33 (by decide) ?_
        cases h
        exact hRt _ _ zz_0 dX8_isTruth_34 _ _ hP hD hS
      · rw [if_pos c7] at h
        refine lv_iconst (v := 1) hx hb dX8_isTruth_29 (by decide) ?_
        refine lv_goto (tgt := 34) hx hb dX8_isTruth_30 (by decide) ?_
        cases h
        exact hRt _ _ zz_1 dX8_isTruth_34 _ _ hP hD hS
    · rw [if_neg c6] at h
      refine lv_iconst (v := 1) hx hb dX8_isTruth_20 (by decide) ?_
      refine lv_goto (tgt := 25) hx hb dX8_isTruth_21 (by decide) ?_
      refine lv_iload_n hx hb dX8_isTruth_25 rfl (lv_at hl 2 rfl) ?_
      refine lv_icmp_ne (tgt := 33) hx hb dX8_isTruth_26 (by decide) (fun c8 => ?_) (fun c8 => ?_)
      · rw [if_neg c8] at h
        refine lv_iconst (v := 0) hx hb dX8_isTruth_33 (by decide) ?_
        cases h
        exact hRt _ _ zz_0 dX8_isTruth_34 _ _ hP hD hS
      · rw [if_pos c8] at h
        refine lv_iconst (v := 1) hx hb dX8_isTruth_29 (by decide) ?_
        refine lv_goto (tgt := 34) hx hb dX8_isTruth_30 (by decide) ?_
        cases h
        exact hRt _ _ zz_1 dX8_isTruth_34 _ _ hP hD hS
def f_X8_isTruth (v : Nat) (q : QS) (x1 : Int32) (x2 : Int32) : Option (Int32) := f_X8_isTruth_0 v q x1 x2
set_option maxRecDepth 100000 in
theorem c_X8_isTruth {E : En} {l : Launch} {v : Nat} (hv : v < 5) (q : QS) (x1 : Int32) (x2 : Int32) {o : Int32} (h : f_X8_isTruth v q x1 x2 = some o) : Ct (wX E) E l yX8_isTruth (wy yX8_isTruth cX8_isTruth 3 (some .boolean)) rm_X8_isTruth q q [.ref (eA E (3 * v)), .int x1, .int x2] (some (.int o)) :=
  ct_Z (o := (o, q)) (by decide +kernel) (fun p e s m below meth c A Q F hA hRt H locs hP hD hS => en_W [.ref (eA E (3 * v)), .int x1, .int x2] (Nat.le_of_ble_eq_true rfl) (fun ls hl => g_X8_isTruth_0 F hA hRt hv x1 x2 h ls (lv_sub hl [0, 1, 2] rfl) H locs hP hD hS))
def rm_X8_copy : Room := { frames := 1, cells := 0, slots := 0, locals := 21 }
def f_X8_copy_22_b (v : Nat) (u : Nat) (B22 : QS → Int32 → Int32 → Int32 → Int32 → Option (QS)) (q : QS) (x1 : Int32) (x3 : Int32) (x4 : Int32) (x5 : Int32) : Option (QS) :=
  if x4 ≤ x5 then
    some q
  else
    (rd (qL q (3 * u + 2)) (vN q u * 4) ((x3 * (4 : Int32)) + x5)).bind fun y8 =>
    (wL q (3 * v + 2) (vN q v * 4) ((x1 * (4 : Int32)) + x5) y8).bind fun q10 =>
    B22 q10 x1 x3 x4 (x5 + (1 : Int32))
set_option maxHeartbeats 4000000 in
set_option maxRecDepth 100000 in
theorem g_X8_copy_22_b {E : En} {p : Program} {l : Launch} {e : Env} {s : State} {m : MethodId} {args : Array Value} {below : List Frame} {meth : Method} {c : Code} {A : Nat → Prop} {Q : State → Prop} (F : Fx E p s m args meth c (yX8_copy).cls cX8_copy 6 none) (hA : ∀ z : Nat, s.heap.size ≤ z → A z) {o : QS} (hRt : RtV (wX E) E p l e rm_X8_copy s m args below meth c A Q cX8_copy o) {v : Nat} (hv : v < 5) {u : Nat} (hu : u < 5) {B22 : QS → Int32 → Int32 → Int32 → Int32 → Option (QS)} (hB22 : ∀ (q : QS) (x1 : Int32) (x3 : Int32) (x4 : Int32) (x5 : Int32), B22 q x1 x3 x4 x5 = some o → ∀ ls : Array Slot, lv_has ls 6 [(0, .ref (eA E (3 * v))), (1, .int x1), (2, .ref (eA E (3 * u))), (3, .int x3), (4, .int x4), (5, .int x5)] → Wq (wX E) E p l e rm_X8_copy s m args below meth c A 0 0 Q q (F0 m 22 ls [])) (q : QS) (x1 : Int32) (x3 : Int32) (x4 : Int32) (x5 : Int32) (h : f_X8_copy_22_b v u B22 q x1 x3 x4 x5 = some o) (ls : Array Slot) (hl : lv_has ls 6 [(0, .ref (eA E (3 * v))), (1, .int x1), (2, .ref (eA E (3 * u))), (3, .int x3), (4, .int x4), (5, .int x5)]) : Wq (wX E) E p l e rm_X8_copy s m args below meth c A 0 0 Q q (F0 m 22 ls []) := by
  intro H locs hP hD hS
  have hx := F.1
  have hb := F.2.1
  unfold f_X8_copy_22_b at h
  refine lv_iload hx hb dX8_copy_22 (lv_at hl 5 rfl) ?_
  refine lv_iload hx hb dX8_copy_24 (lv_at hl 4 rfl) ?_
  refine lv_icmp_ge (tgt := 57) hx hb dX8_copy_26 (by decide) (fun c7 => ?_) (fun c7 => ?_)
  · rw [if_pos c7] at h
    cases h
    exact hRt _ _ dX8_copy_57 _ _ hP hD hS
  · rw [if_neg c7] at h
    refine lv_aload_n hx hb dX8_copy_29 rfl (lv_at hl 0 rfl) ?_
    refine r_get F hP i_X8 (3 * v) (xvO hv E q) rfl 1 (by decide) rfl lf_X8_15 rfl dX8_copy_30 ?_
    refine lv_iload_n hx hb dX8_copy_33 rfl (lv_at hl 1 rfl) ?_
    refine lv_iconst (v := 4) hx hb dX8_copy_34 (by decide) ?_
    refine lv_imul hx hb dX8_copy_35 ?_
    refine lv_iload hx hb dX8_copy_36 (lv_at hl 5 rfl) ?_
    refine lv_iadd hx hb dX8_copy_38 ?_
    refine lv_aload_n hx hb dX8_copy_39 rfl (lv_at hl 2 rfl) ?_
    refine r_get F hP i_X8 (3 * u) (xvO hu E q) rfl 1 (by decide) rfl lf_X8_15 rfl dX8_copy_40 ?_
    refine lv_iload_n hx hb dX8_copy_43 rfl (lv_at hl 3 rfl) ?_
    refine lv_iconst (v := 4) hx hb dX8_copy_44 (by decide) ?_
    refine lv_imul hx hb dX8_copy_45 ?_
    refine lv_iload hx hb dX8_copy_46 (lv_at hl 5 rfl) ?_
    refine lv_iadd hx hb dX8_copy_48 ?_
    obtain ⟨y8, e9, h⟩ := Option.bind_eq_some_iff.mp h
    refine r_lald F hP (3 * u + 2) (xvW hu E q) e9 dX8_copy_49 ?_
    obtain ⟨q10, e11, h⟩ := Option.bind_eq_some_iff.mp h
    refine r_last F hP hD hS (3 * v + 2) (xvW hv E q) (xvWs hv E q) e11 dX8_copy_50 ?_
    intro H locs hP hD hS
    refine lv_iinc (v := (x5 + (1 : Int32))) (lv' := [(5, .int (x5 + (1 : Int32))), (0, .ref (eA E (3 * v))), (1, .int x1), (2, .ref (eA E (3 * u))), (3, .int x3), (4, .int x4)]) hx hb dX8_copy_51 hl (k := 5) rfl rfl (by decide) rfl (fun ls hl => ?_)
    refine lv_goto (tgt := 22) hx hb dX8_copy_54 (by decide) ?_
    exact hB22 q10 x1 x3 x4 (x5 + (1 : Int32)) h _ (lv_sub hl [1, 2, 3, 4, 5, 0] rfl) _ _ hP hD hS
def f_X8_copy_22 (v : Nat) (u : Nat) : Nat → QS → Int32 → Int32 → Int32 → Int32 → Option (QS)
  | 0 => fun _ _ _ _ _ => none
  | n + 1 => f_X8_copy_22_b v u (f_X8_copy_22 v u n)
theorem g_X8_copy_22 {E : En} {p : Program} {l : Launch} {e : Env} {s : State} {m : MethodId} {args : Array Value} {below : List Frame} {meth : Method} {c : Code} {A : Nat → Prop} {Q : State → Prop} (F : Fx E p s m args meth c (yX8_copy).cls cX8_copy 6 none) (hA : ∀ z : Nat, s.heap.size ≤ z → A z) {o : QS} (hRt : RtV (wX E) E p l e rm_X8_copy s m args below meth c A Q cX8_copy o) {v : Nat} (hv : v < 5) {u : Nat} (hu : u < 5) (n : Nat) : ∀ (q : QS) (x1 : Int32) (x3 : Int32) (x4 : Int32) (x5 : Int32), f_X8_copy_22 v u n q x1 x3 x4 x5 = some o → ∀ ls : Array Slot, lv_has ls 6 [(0, .ref (eA E (3 * v))), (1, .int x1), (2, .ref (eA E (3 * u))), (3, .int x3), (4, .int x4), (5, .int x5)] → Wq (wX E) E p l e rm_X8_copy s m args below meth c A 0 0 Q q (F0 m 22 ls []) := by
  induction n with
  | zero => intro q x1 x3 x4 x5 h; cases h
  | succ n ih => intro q x1 x3 x4 x5 h; exact g_X8_copy_22_b F hA hRt hv hu ih q x1 x3 x4 x5 h
def f_X8_copy_0 (v : Nat) (u : Nat) (q : QS) (x1 : Int32) (x3 : Int32) : Option (QS) :=
  (f_X8_wordsInUse u q x3).bind fun r1 =>
  (rd (qI q (3 * u + 1)) (vN q u) x3).bind fun y3 =>
  (wI q (3 * v + 1) (vN q v) x1 y3).bind fun q5 =>
  f_X8_copy_22 v u FU q5 x1 x3 r1 (0 : Int32)
set_option maxHeartbeats 4000000 in
set_option maxRecDepth 100000 in
theorem g_X8_copy_0 {E : En} {p : Program} {l : Launch} {e : Env} {s : State} {m : MethodId} {args : Array Value} {below : List Frame} {meth : Method} {c : Code} {A : Nat → Prop} {Q : State → Prop} (F : Fx E p s m args meth c (yX8_copy).cls cX8_copy 6 none) (hA : ∀ z : Nat, s.heap.size ≤ z → A z) {o : QS} (hRt : RtV (wX E) E p l e rm_X8_copy s m args below meth c A Q cX8_copy o) {v : Nat} (hv : v < 5) {u : Nat} (hu : u < 5) (q : QS) (x1 : Int32) (x3 : Int32) (h : f_X8_copy_0 v u q x1 x3 = some o) (ls : Array Slot) (hl : lv_has ls 6 [(0, .ref (eA E (3 * v))), (1, .int x1), (2, .ref (eA E (3 * u))), (3, .int x3)]) : Wq (wX E) E p l e rm_X8_copy s m args below meth c A 0 0 Q q (F0 m 0 ls []) := by
  intro H locs hP hD hS
  have hx := F.1
  have hb := F.2.1
  unfold f_X8_copy_0 at h
  refine lv_aload_n hx hb dX8_copy_0 rfl (lv_at hl 2 rfl) ?_
  refine lv_iload_n hx hb dX8_copy_1 rfl (lv_at hl 3 rfl) ?_
  obtain ⟨r1, e2, h⟩ := Option.bind_eq_some_iff.mp h
  refine q_callV (As := [.int x3]) (rest := []) F hA hP hD hS (c_X8_wordsInUse (E := E) (l := l) hu q x3 e2) k_X8_wordsInUse in_X8_wordsInUse se_X8_wordsInUse lm_X8_43 (3 * u) (xvO hu E q) rfl ⟨rfl, rfl⟩ ⟨by decide, by decide⟩ rfl hl.1 rfl (Nat.le_of_ble_eq_true rfl) dX8_copy_2 ⟨by decide, by decide⟩ ?_
  intro H locs hP hD hS
  refine lv_istore (lv' := [(4, .int r1), (0, .ref (eA E (3 * v))), (1, .int x1), (2, .ref (eA E (3 * u))), (3, .int x3)]) hx hb dX8_copy_5 hl (by decide) rfl (fun ls hl => ?_)
  refine lv_aload_n hx hb dX8_copy_7 rfl (lv_at hl 1 rfl) ?_
  refine r_get F hP i_X8 (3 * v) (xvO hv E q) rfl 0 (by decide) rfl lf_X8_9 rfl dX8_copy_8 ?_
  refine lv_iload_n hx hb dX8_copy_11 rfl (lv_at hl 2 rfl) ?_
  refine lv_aload_n hx hb dX8_copy_12 rfl (lv_at hl 3 rfl) ?_
  refine r_get F hP i_X8 (3 * u) (xvO hu E q) rfl 0 (by decide) rfl lf_X8_9 rfl dX8_copy_13 ?_
  refine lv_iload_n hx hb dX8_copy_16 rfl (lv_at hl 4 rfl) ?_
  obtain ⟨y3, e4, h⟩ := Option.bind_eq_some_iff.mp h
  refine r_iald F hP (3 * u + 1) (xvK hu E q) e4 dX8_copy_17 ?_
  obtain ⟨q5, e6, h⟩ := Option.bind_eq_some_iff.mp h
  refine r_iast F hP hD hS (3 * v + 1) (xvK hv E q) (xvKs hv E q) e6 dX8_copy_18 ?_
  intro H locs hP hD hS
  refine lv_iconst (v := 0) hx hb dX8_copy_19 (by decide) ?_
  refine lv_istore (lv' := [(5, .int (0 : Int32)), (4, .int r1), (0, .ref (eA E (3 * v))), (1, .int x1), (2, .ref (eA E (3 * u))), (3, .int x3)]) hx hb dX8_copy_20 hl (by decide) rfl (fun ls hl => ?_)
  exact g_X8_copy_22 F hA hRt hv hu FU q5 x1 x3 r1 (0 : Int32) h _ (lv_sub hl [2, 3, 4, 5, 1, 0] rfl) _ _ hP hD hS
def f_X8_copy (v : Nat) (u : Nat) (q : QS) (x1 : Int32) (x3 : Int32) : Option (QS) := f_X8_copy_0 v u q x1 x3
set_option maxRecDepth 100000 in
theorem c_X8_copy {E : En} {l : Launch} {v : Nat} (hv : v < 5) {u : Nat} (hu : u < 5) (q : QS) (x1 : Int32) (x3 : Int32) {o : QS} (h : f_X8_copy v u q x1 x3 = some o) : Ct (wX E) E l yX8_copy (wy yX8_copy cX8_copy 6 none) rm_X8_copy q o [.ref (eA E (3 * v)), .int x1, .ref (eA E (3 * u)), .int x3] none :=
  ct_V (o := o) (by decide +kernel) (fun p e s m below meth c A Q F hA hRt H locs hP hD hS => en_W [.ref (eA E (3 * v)), .int x1, .ref (eA E (3 * u)), .int x3] (Nat.le_of_ble_eq_true rfl) (fun ls hl => g_X8_copy_0 F hA hRt hv hu q x1 x3 h ls (lv_sub hl [0, 1, 2, 3] rfl) H locs hP hD hS))
def rm_X8_areLike : Room := { frames := 1, cells := 0, slots := 0, locals := 21 }
def f_X8_areLike_26_b (v : Nat) (q : QS) (B26 : Int32 → Int32 → Int32 → Int32 → Option (Int32)) (x1 : Int32) (x2 : Int32) (x3 : Int32) (x4 : Int32) : Option (Int32) :=
  if x3 ≤ x4 then
    some (1 : Int32)
  else
    (rd (qL q (3 * v + 2)) (vN q v * 4) ((x1 * (4 : Int32)) + x4)).bind fun y9 =>
    (rd (qL q (3 * v + 2)) (vN q v * 4) ((x2 * (4 : Int32)) + x4)).bind fun y11 =>
    if (lg_cmp y9 y11) = 0 then
      B26 x1 x2 x3 (x4 + (1 : Int32))
    else
      some (0 : Int32)
set_option maxHeartbeats 4000000 in
set_option maxRecDepth 100000 in
theorem g_X8_areLike_26_b {E : En} {p : Program} {l : Launch} {e : Env} {s : State} {m : MethodId} {args : Array Value} {below : List Frame} {meth : Method} {c : Code} {A : Nat → Prop} {Q : State → Prop} (F : Fx E p s m args meth c (yX8_areLike).cls cX8_areLike 5 (some .boolean)) (hA : ∀ z : Nat, s.heap.size ≤ z → A z) {q : QS} {o : Int32} (hRt : RtZ (wX E) E p l e rm_X8_areLike s m args below meth c A Q cX8_areLike (o, q)) {v : Nat} (hv : v < 5) {B26 : Int32 → Int32 → Int32 → Int32 → Option (Int32)} (hB26 : ∀ (x1 : Int32) (x2 : Int32) (x3 : Int32) (x4 : Int32), B26 x1 x2 x3 x4 = some o → ∀ ls : Array Slot, lv_has ls 5 [(0, .ref (eA E (3 * v))), (1, .int x1), (2, .int x2), (3, .int x3), (4, .int x4)] → Wq (wX E) E p l e rm_X8_areLike s m args below meth c A 0 0 Q q (F0 m 26 ls [])) (x1 : Int32) (x2 : Int32) (x3 : Int32) (x4 : Int32) (h : f_X8_areLike_26_b v q B26 x1 x2 x3 x4 = some o) (ls : Array Slot) (hl : lv_has ls 5 [(0, .ref (eA E (3 * v))), (1, .int x1), (2, .int x2), (3, .int x3), (4, .int x4)]) : Wq (wX E) E p l e rm_X8_areLike s m args below meth c A 0 0 Q q (F0 m 26 ls []) := by
  intro H locs hP hD hS
  have hx := F.1
  have hb := F.2.1
  unfold f_X8_areLike_26_b at h
  refine lv_iload hx hb dX8_areLike_26 (lv_at hl 4 rfl) ?_
  refine lv_iload_n hx hb dX8_areLike_28 rfl (lv_at hl 3 rfl) ?_
  refine lv_icmp_ge (tgt := 66) hx hb dX8_areLike_29 (by decide) (fun c8 => ?_) (fun c8 => ?_)
  · rw [if_pos c8] at h
    refine lv_iconst (v := 1) hx hb dX8_areLike_66 (by decide) ?_
    cases h
    exact hRt _ _ zz_1 dX8_areLike_67 _ _ hP hD hS
  · rw [if_neg c8] at h
    refine lv_aload_n hx hb dX8_areLike_32 rfl (lv_at hl 0 rfl) ?_
    refine r_get F hP i_X8 (3 * v) (xvO hv E q) rfl 1 (by decide) rfl lf_X8_15 rfl dX8_areLike_33 ?_
    refine lv_iload_n hx hb dX8_areLike_36 rfl (lv_at hl 1 rfl) ?_
    refine lv_iconst (v := 4) hx hb dX8_areLike_37 (by decide) ?_
    refine lv_imul hx hb dX8_areLike_38 ?_
    refine lv_iload hx hb dX8_areLike_39 (lv_at hl 4 rfl) ?_
    refine lv_iadd hx hb dX8_areLike_41 ?_
    obtain ⟨y9, e10, h⟩ := Option.bind_eq_some_iff.mp h
    refine r_lald F hP (3 * v + 2) (xvW hv E q) e10 dX8_areLike_42 ?_
    refine lv_aload_n hx hb dX8_areLike_43 rfl (lv_at hl 0 rfl) ?_
    refine r_get F hP i_X8 (3 * v) (xvO hv E q) rfl 1 (by decide) rfl lf_X8_15 rfl dX8_areLike_44 ?_
    refine lv_iload_n hx hb dX8_areLike_47 rfl (lv_at hl 2 rfl) ?_
    refine lv_iconst (v := 4) hx hb dX8_areLike_48 (by decide) ?_
    refine lv_imul hx hb dX8_areLike_49 ?_
    refine lv_iload hx hb dX8_areLike_50 (lv_at hl 4 rfl) ?_
    refine lv_iadd hx hb dX8_areLike_52 ?_
    obtain ⟨y11, e12, h⟩ := Option.bind_eq_some_iff.mp h
    refine r_lald F hP (3 * v + 2) (xvW hv E q) e12 dX8_areLike_53 ?_
    refine W.lcmp hx hb dX8_areLike_54 ?_
    refine lv_if_eq (tgt := 60) hx hb dX8_areLike_55 (by decide) (fun c13 => ?_) (fun c13 => ?_)
    · rw [if_pos c13] at h
      refine lv_iinc (v := (x4 + (1 : Int32))) (lv' := [(4, .int (x4 + (1 : Int32))), (0, .ref (eA E (3 * v))), (1, .int x1), (2, .int x2), (3, .int x3)]) hx hb dX8_areLike_60 hl (k := 4) rfl rfl (by decide) rfl (fun ls hl => ?_)
      refine lv_goto (tgt := 26) hx hb dX8_areLike_63 (by decide) ?_
      exact hB26 x1 x2 x3 (x4 + (1 : Int32)) h _ (lv_sub hl [1, 2, 3, 4, 0] rfl) _ _ hP hD hS
    · rw [if_neg c13] at h
      refine lv_iconst (v := 0) hx hb dX8_areLike_58 (by decide) ?_
      cases h
      exact hRt _ _ zz_0 dX8_areLike_59 _ _ hP hD hS
def f_X8_areLike_26 (v : Nat) (q : QS) : Nat → Int32 → Int32 → Int32 → Int32 → Option (Int32)
  | 0 => fun _ _ _ _ => none
  | n + 1 => f_X8_areLike_26_b v q (f_X8_areLike_26 v q n)
theorem g_X8_areLike_26 {E : En} {p : Program} {l : Launch} {e : Env} {s : State} {m : MethodId} {args : Array Value} {below : List Frame} {meth : Method} {c : Code} {A : Nat → Prop} {Q : State → Prop} (F : Fx E p s m args meth c (yX8_areLike).cls cX8_areLike 5 (some .boolean)) (hA : ∀ z : Nat, s.heap.size ≤ z → A z) {q : QS} {o : Int32} (hRt : RtZ (wX E) E p l e rm_X8_areLike s m args below meth c A Q cX8_areLike (o, q)) {v : Nat} (hv : v < 5) (n : Nat) : ∀ (x1 : Int32) (x2 : Int32) (x3 : Int32) (x4 : Int32), f_X8_areLike_26 v q n x1 x2 x3 x4 = some o → ∀ ls : Array Slot, lv_has ls 5 [(0, .ref (eA E (3 * v))), (1, .int x1), (2, .int x2), (3, .int x3), (4, .int x4)] → Wq (wX E) E p l e rm_X8_areLike s m args below meth c A 0 0 Q q (F0 m 26 ls []) := by
  induction n with
  | zero => intro x1 x2 x3 x4 h; cases h
  | succ n ih => intro x1 x2 x3 x4 h; exact g_X8_areLike_26_b F hA hRt hv ih x1 x2 x3 x4 h
def f_X8_areLike_0 (v : Nat) (q : QS) (x1 : Int32) (x2 : Int32) : Option (Int32) :=
  (rd (qI q (3 * v + 1)) (vN q v) x1).bind fun y1 =>
  (rd (qI q (3 * v + 1)) (vN q v) x2).bind fun y3 =>
  if y1 = y3 then
    (f_X8_wordsInUse v q x1).bind fun r6 =>
    f_X8_areLike_26 v q FU x1 x2 r6 (0 : Int32)
  else
    some (0 : Int32)
set_option maxHeartbeats 4000000 in
set_option maxRecDepth 100000 in
theorem g_X8_areLike_0 {E : En} {p : Program} {l : Launch} {e : Env} {s : State} {m : MethodId} {args : Array Value} {below : List Frame} {meth : Method} {c : Code} {A : Nat → Prop} {Q : State → Prop} (F : Fx E p s m args meth c (yX8_areLike).cls cX8_areLike 5 (some .boolean)) (hA : ∀ z : Nat, s.heap.size ≤ z → A z) {q : QS} {o : Int32} (hRt : RtZ (wX E) E p l e rm_X8_areLike s m args below meth c A Q cX8_areLike (o, q)) {v : Nat} (hv : v < 5) (x1 : Int32) (x2 : Int32) (h : f_X8_areLike_0 v q x1 x2 = some o) (ls : Array Slot) (hl : lv_has ls 5 [(0, .ref (eA E (3 * v))), (1, .int x1), (2, .int x2)]) : Wq (wX E) E p l e rm_X8_areLike s m args below meth c A 0 0 Q q (F0 m 0 ls []) := by
  intro H locs hP hD hS
  have hx := F.1
  have hb := F.2.1
  unfold f_X8_areLike_0 at h
  refine lv_aload_n hx hb dX8_areLike_0 rfl (lv_at hl 0 rfl) ?_
  refine r_get F hP i_X8 (3 * v) (xvO hv E q) rfl 0 (by decide) rfl lf_X8_9 rfl dX8_areLike_1 ?_
  refine lv_iload_n hx hb dX8_areLike_4 rfl (lv_at hl 1 rfl) ?_
  obtain ⟨y1, e2, h⟩ := Option.bind_eq_some_iff.mp h
  refine r_iald F hP (3 * v + 1) (xvK hv E q) e2 dX8_areLike_5 ?_
  refine lv_aload_n hx hb dX8_areLike_6 rfl (lv_at hl 0 rfl) ?_
  refine r_get F hP i_X8 (3 * v) (xvO hv E q) rfl 0 (by decide) rfl lf_X8_9 rfl dX8_areLike_7 ?_
  refine lv_iload_n hx hb dX8_areLike_10 rfl (lv_at hl 2 rfl) ?_
  obtain ⟨y3, e4, h⟩ := Option.bind_eq_some_iff.mp h
  refine r_iald F hP (3 * v + 1) (xvK hv E q) e4 dX8_areLike_11 ?_
  refine lv_icmp_eq (tgt := 17) hx hb dX8_areLike_12 (by decide) (fun c5 => ?_) (fun c5 => ?_)
  · rw [if_pos c5] at h
    refine lv_aload_n hx hb dX8_areLike_17 rfl (lv_at hl 0 rfl) ?_
    refine lv_iload_n hx hb dX8_areLike_18 rfl (lv_at hl 1 rfl) ?_
    obtain ⟨r6, e7, h⟩ := Option.bind_eq_some_iff.mp h
    refine q_callV (As := [.int x1]) (rest := []) F hA hP hD hS (c_X8_wordsInUse (E := E) (l := l) hv q x1 e7) k_X8_wordsInUse in_X8_wordsInUse se_X8_wordsInUse lm_X8_43 (3 * v) (xvO hv E q) rfl ⟨rfl, rfl⟩ ⟨by decide, by decide⟩ rfl hl.1 rfl (Nat.le_of_ble_eq_true rfl) dX8_areLike_19 ⟨by decide, by decide⟩ ?_
    intro H locs hP hD hS
    refine lv_istore_n (lv' := [(3, .int r6), (0, .ref (eA E (3 * v))), (1, .int x1), (2, .int x2)]) hx hb dX8_areLike_22 rfl hl (by decide) rfl (fun ls hl => ?_)
    refine lv_iconst (v := 0) hx hb dX8_areLike_23 (by decide) ?_
    refine lv_istore (lv' := [(4, .int (0 : Int32)), (3, .int r6), (0, .ref (eA E (3 * v))), (1, .int x1), (2, .int x2)]) hx hb dX8_areLike_24 hl (by decide) rfl (fun ls hl => ?_)
    exact g_X8_areLike_26 F hA hRt hv FU x1 x2 r6 (0 : Int32) h _ (lv_sub hl [2, 3, 4, 1, 0] rfl) _ _ hP hD hS
  · rw [if_neg c5] at h
    refine lv_iconst (v := 0) hx hb dX8_areLike_15 (by decide) ?_
    cases h
    exact hRt _ _ zz_0 dX8_areLike_16 _ _ hP hD hS
def f_X8_areLike (v : Nat) (q : QS) (x1 : Int32) (x2 : Int32) : Option (Int32) := f_X8_areLike_0 v q x1 x2
set_option maxRecDepth 100000 in
theorem c_X8_areLike {E : En} {l : Launch} {v : Nat} (hv : v < 5) (q : QS) (x1 : Int32) (x2 : Int32) {o : Int32} (h : f_X8_areLike v q x1 x2 = some o) : Ct (wX E) E l yX8_areLike (wy yX8_areLike cX8_areLike 5 (some .boolean)) rm_X8_areLike q q [.ref (eA E (3 * v)), .int x1, .int x2] (some (.int o)) :=
  ct_Z (o := (o, q)) (by decide +kernel) (fun p e s m below meth c A Q F hA hRt H locs hP hD hS => en_W [.ref (eA E (3 * v)), .int x1, .int x2] (Nat.le_of_ble_eq_true rfl) (fun ls hl => g_X8_areLike_0 F hA hRt hv x1 x2 h ls (lv_sub hl [0, 1, 2] rfl) H locs hP hD hS))
def rm_X8_compare : Room := { frames := 0, cells := 0, slots := 0, locals := 0 }
def f_X8_compare_43_b (v : Nat) (q : QS) (B43 : Int32 → Int32 → Int32 → Int64 → Int32 → Option (Int32)) (x1 : Int32) (x2 : Int32) (x4 : Int32) (x5 : Int64) (x7 : Int32) : Option (Int32) :=
  if x4 ≤ x7 then
    some (0 : Int32)
  else
    (rd (qL q (3 * v + 2)) (vN q v * 4) ((x1 * (4 : Int32)) + x7)).bind fun y7 =>
    (rd (qL q (3 * v + 2)) (vN q v * 4) ((x2 * (4 : Int32)) + x7)).bind fun y9 =>
    if (lg_cmp (y7 ^^^ x5) (y9 ^^^ x5)) = 0 then
      B43 x1 x2 x4 x5 (x7 + (1 : Int32))
    else
      if 0 ≤ (lg_cmp (y7 ^^^ x5) (y9 ^^^ x5)) then
        some (1 : Int32)
      else
        some (-1 : Int32)
set_option maxHeartbeats 4000000 in
set_option maxRecDepth 100000 in
theorem g_X8_compare_43_b {E : En} {p : Program} {l : Launch} {e : Env} {s : State} {m : MethodId} {args : Array Value} {below : List Frame} {meth : Method} {c : Code} {A : Nat → Prop} {Q : State → Prop} (F : Fx E p s m args meth c (yX8_compare).cls cX8_compare 12 (some .int)) (hA : ∀ z : Nat, s.heap.size ≤ z → A z) {q : QS} {o : Int32} (hRt : RtI (wX E) E p l e rm_X8_compare s m args below meth c A Q cX8_compare (o, q)) {v : Nat} (hv : v < 5) {B43 : Int32 → Int32 → Int32 → Int64 → Int32 → Option (Int32)} (hB43 : ∀ (x1 : Int32) (x2 : Int32) (x4 : Int32) (x5 : Int64) (x7 : Int32), B43 x1 x2 x4 x5 x7 = some o → ∀ ls : Array Slot, lv_has ls 12 [(0, .ref (eA E (3 * v))), (1, .int x1), (2, .int x2), (4, .int x4), (5, .long x5), (7, .int x7)] → Wq (wX E) E p l e rm_X8_compare s m args below meth c A 0 0 Q q (F0 m 43 ls [])) (x1 : Int32) (x2 : Int32) (x4 : Int32) (x5 : Int64) (x7 : Int32) (h : f_X8_compare_43_b v q B43 x1 x2 x4 x5 x7 = some o) (ls : Array Slot) (hl : lv_has ls 12 [(0, .ref (eA E (3 * v))), (1, .int x1), (2, .int x2), (4, .int x4), (5, .long x5), (7, .int x7)]) : Wq (wX E) E p l e rm_X8_compare s m args below meth c A 0 0 Q q (F0 m 43 ls []) := by
  intro H locs hP hD hS
  have hx := F.1
  have hb := F.2.1
  unfold f_X8_compare_43_b at h
  refine lv_iload hx hb dX8_compare_43 (lv_at hl 5 rfl) ?_
  refine lv_iload hx hb dX8_compare_45 (lv_at hl 3 rfl) ?_
  refine lv_icmp_ge (tgt := 110) hx hb dX8_compare_47 (by decide) (fun c6 => ?_) (fun c6 => ?_)
  · rw [if_pos c6] at h
    refine lv_iconst (v := 0) hx hb dX8_compare_110 (by decide) ?_
    cases h
    exact hRt _ _ dX8_compare_111 _ _ hP hD hS
  · rw [if_neg c6] at h
    refine lv_aload_n hx hb dX8_compare_50 rfl (lv_at hl 0 rfl) ?_
    refine r_get F hP i_X8 (3 * v) (xvO hv E q) rfl 1 (by decide) rfl lf_X8_15 rfl dX8_compare_51 ?_
    refine lv_iload_n hx hb dX8_compare_54 rfl (lv_at hl 1 rfl) ?_
    refine lv_iconst (v := 4) hx hb dX8_compare_55 (by decide) ?_
    refine lv_imul hx hb dX8_compare_56 ?_
    refine lv_iload hx hb dX8_compare_57 (lv_at hl 5 rfl) ?_
    refine lv_iadd hx hb dX8_compare_59 ?_
    obtain ⟨y7, e8, h⟩ := Option.bind_eq_some_iff.mp h
    refine r_lald F hP (3 * v + 2) (xvW hv E q) e8 dX8_compare_60 ?_
    refine lv_lload hx hb dX8_compare_61 (lv_at hl 4 rfl) ?_
    refine lv_lxor hx hb dX8_compare_63 ?_
    refine lv_lstore (lv' := [(8, .long (y7 ^^^ x5)), (0, .ref (eA E (3 * v))), (1, .int x1), (2, .int x2), (4, .int x4), (5, .long x5), (7, .int x7)]) hx hb dX8_compare_64 hl (by decide) rfl (fun ls hl => ?_)
    refine lv_aload_n hx hb dX8_compare_66 rfl (lv_at hl 1 rfl) ?_
    refine r_get F hP i_X8 (3 * v) (xvO hv E q) rfl 1 (by decide) rfl lf_X8_15 rfl dX8_compare_67 ?_
    refine lv_iload_n hx hb dX8_compare_70 rfl (lv_at hl 3 rfl) ?_
    refine lv_iconst (v := 4) hx hb dX8_compare_71 (by decide) ?_
    refine lv_imul hx hb dX8_compare_72 ?_
    refine lv_iload hx hb dX8_compare_73 (lv_at hl 6 rfl) ?_
    refine lv_iadd hx hb dX8_compare_75 ?_
    obtain ⟨y9, e10, h⟩ := Option.bind_eq_some_iff.mp h
    refine r_lald F hP (3 * v + 2) (xvW hv E q) e10 dX8_compare_76 ?_
    refine lv_lload hx hb dX8_compare_77 (lv_at hl 5 rfl) ?_
    refine lv_lxor hx hb dX8_compare_79 ?_
    refine lv_lstore (lv' := [(10, .long (y9 ^^^ x5)), (8, .long (y7 ^^^ x5)), (0, .ref (eA E (3 * v))), (1, .int x1), (2, .int x2), (4, .int x4), (5, .long x5), (7, .int x7)]) hx hb dX8_compare_80 hl (by decide) rfl (fun ls hl => ?_)
    refine lv_lload hx hb dX8_compare_82 (lv_at hl 1 rfl) ?_
    refine lv_lload hx hb dX8_compare_84 (lv_at hl 0 rfl) ?_
    refine W.lcmp hx hb dX8_compare_86 ?_
    refine lv_if_eq (tgt := 104) hx hb dX8_compare_87 (by decide) (fun c11 => ?_) (fun c11 => ?_)
    · rw [if_pos c11] at h
      refine lv_iinc (v := (x7 + (1 : Int32))) (lv' := [(7, .int (x7 + (1 : Int32))), (10, .long (y9 ^^^ x5)), (8, .long (y7 ^^^ x5)), (0, .ref (eA E (3 * v))), (1, .int x1), (2, .int x2), (4, .int x4), (5, .long x5)]) hx hb dX8_compare_104 hl (k := 7) rfl rfl (by decide) rfl (fun ls hl => ?_)
      refine lv_goto (tgt := 43) hx hb dX8_compare_107 (by decide) ?_
      exact hB43 x1 x2 x4 x5 (x7 + (1 : Int32)) h _ (lv_sub hl [3, 4, 5, 6, 7, 0] rfl) _ _ hP hD hS
    · rw [if_neg c11] at h
      refine lv_lload hx hb dX8_compare_90 (lv_at hl 1 rfl) ?_
      refine lv_lload hx hb dX8_compare_92 (lv_at hl 0 rfl) ?_
      refine W.lcmp hx hb dX8_compare_94 ?_
      refine lv_if_ge (tgt := 102) hx hb dX8_compare_95 (by decide) (fun c12 => ?_) (fun c12 => ?_)
      · rw [if_pos c12] at h
        refine lv_iconst (v := 1) hx hb dX8_compare_102 (by decide) ?_
        cases h
        exact hRt _ _ dX8_compare_103 _ _ hP hD hS
      · rw [if_neg c12] at h
        refine lv_iconst (v := (-1)) hx hb dX8_compare_98 (by decide) ?_
        refine lv_goto (tgt := 103) hx hb dX8_compare_99 (by decide) ?_
        cases h
        exact hRt _ _ dX8_compare_103 _ _ hP hD hS
def f_X8_compare_43 (v : Nat) (q : QS) : Nat → Int32 → Int32 → Int32 → Int64 → Int32 → Option (Int32)
  | 0 => fun _ _ _ _ _ => none
  | n + 1 => f_X8_compare_43_b v q (f_X8_compare_43 v q n)
theorem g_X8_compare_43 {E : En} {p : Program} {l : Launch} {e : Env} {s : State} {m : MethodId} {args : Array Value} {below : List Frame} {meth : Method} {c : Code} {A : Nat → Prop} {Q : State → Prop} (F : Fx E p s m args meth c (yX8_compare).cls cX8_compare 12 (some .int)) (hA : ∀ z : Nat, s.heap.size ≤ z → A z) {q : QS} {o : Int32} (hRt : RtI (wX E) E p l e rm_X8_compare s m args below meth c A Q cX8_compare (o, q)) {v : Nat} (hv : v < 5) (n : Nat) : ∀ (x1 : Int32) (x2 : Int32) (x4 : Int32) (x5 : Int64) (x7 : Int32), f_X8_compare_43 v q n x1 x2 x4 x5 x7 = some o → ∀ ls : Array Slot, lv_has ls 12 [(0, .ref (eA E (3 * v))), (1, .int x1), (2, .int x2), (4, .int x4), (5, .long x5), (7, .int x7)] → Wq (wX E) E p l e rm_X8_compare s m args below meth c A 0 0 Q q (F0 m 43 ls []) := by
  induction n with
  | zero => intro x1 x2 x4 x5 x7 h; cases h
  | succ n ih => intro x1 x2 x4 x5 x7 h; exact g_X8_compare_43_b F hA hRt hv ih x1 x2 x4 x5 x7 h
def f_X8_compare_38 (v : Nat) (q : QS) (x1 : Int32) (x2 : Int32) (x4 : Int32) (t0 : Int64) : Option (Int32) :=
  f_X8_compare_43 v q FU x1 x2 x4 t0 (0 : Int32)
set_option maxHeartbeats 4000000 in
set_option maxRecDepth 100000 in
theorem g_X8_compare_38 {E : En} {p : Program} {l : Launch} {e : Env} {s : State} {m : MethodId} {args : Array Value} {below : List Frame} {meth : Method} {c : Code} {A : Nat → Prop} {Q : State → Prop} (F : Fx E p s m args meth c (yX8_compare).cls cX8_compare 12 (some .int)) (hA : ∀ z : Nat, s.heap.size ≤ z → A z) {q : QS} {o : Int32} (hRt : RtI (wX E) E p l e rm_X8_compare s m args below meth c A Q cX8_compare (o, q)) {v : Nat} (hv : v < 5) (x1 : Int32) (x2 : Int32) (x4 : Int32) (t0 : Int64) (h : f_X8_compare_38 v q x1 x2 x4 t0 = some o) (ls : Array Slot) (hl : lv_has ls 12 [(0, .ref (eA E (3 * v))), (1, .int x1), (2, .int x2), (4, .int x4)]) : Wq (wX E) E p l e rm_X8_compare s m args below meth c A 0 0 Q q (F0 m 38 ls [.long t0]) := by
  intro H locs hP hD hS
  have hx := F.1
  have hb := F.2.1
  unfold f_X8_compare_38 at h
  refine lv_lstore (lv' := [(5, .long t0), (0, .ref (eA E (3 * v))), (1, .int x1), (2, .int x2), (4, .int x4)]) hx hb dX8_compare_38 hl (by decide) rfl (fun ls hl => ?_)
  refine lv_iconst (v := 0) hx hb dX8_compare_40 (by decide) ?_
  refine lv_istore (lv' := [(7, .int (0 : Int32)), (5, .long t0), (0, .ref (eA E (3 * v))), (1, .int x1), (2, .int x2), (4, .int x4)]) hx hb dX8_compare_41 hl (by decide) rfl (fun ls hl => ?_)
  exact g_X8_compare_43 F hA hRt hv FU x1 x2 x4 t0 (0 : Int32) h _ (lv_sub hl [2, 3, 4, 5, 1, 0] rfl) _ _ hP hD hS
def f_X8_compare_25 (v : Nat) (q : QS) (x1 : Int32) (x2 : Int32) (x3 : Int32) (t0 : Int32) : Option (Int32) :=
  if x3 = 0 then
    f_X8_compare_38 v q x1 x2 t0 (0 : Int64)
  else
    f_X8_compare_38 v q x1 x2 t0 (-9223372036854775808 : Int64)
set_option maxHeartbeats 4000000 in
set_option maxRecDepth 100000 in
theorem g_X8_compare_25 {E : En} {p : Program} {l : Launch} {e : Env} {s : State} {m : MethodId} {args : Array Value} {below : List Frame} {meth : Method} {c : Code} {A : Nat → Prop} {Q : State → Prop} (F : Fx E p s m args meth c (yX8_compare).cls cX8_compare 12 (some .int)) (hA : ∀ z : Nat, s.heap.size ≤ z → A z) {q : QS} {o : Int32} (hRt : RtI (wX E) E p l e rm_X8_compare s m args below meth c A Q cX8_compare (o, q)) {v : Nat} (hv : v < 5) (x1 : Int32) (x2 : Int32) (x3 : Int32) (t0 : Int32) (h : f_X8_compare_25 v q x1 x2 x3 t0 = some o) (ls : Array Slot) (hl : lv_has ls 12 [(0, .ref (eA E (3 * v))), (1, .int x1), (2, .int x2), (3, .int x3)]) : Wq (wX E) E p l e rm_X8_compare s m args below meth c A 0 0 Q q (F0 m 25 ls [.int t0]) := by
  intro H locs hP hD hS
  have hx := F.1
  have hb := F.2.1
  unfold f_X8_compare_25 at h
  refine lv_istore (lv' := [(4, .int t0), (0, .ref (eA E (3 * v))), (1, .int x1), (2, .int x2), (3, .int x3)]) hx hb dX8_compare_25 hl (by decide) rfl (fun ls hl => ?_)
  refine lv_iload_n hx hb dX8_compare_27 rfl (lv_at hl 4 rfl) ?_
  refine lv_if_eq (tgt := 37) hx hb dX8_compare_28 (by decide) (fun c5 => ?_) (fun c5 => ?_)
  · rw [if_pos c5] at h
    refine lv_lconst (v := 0) hx hb dX8_compare_37 (by decide) ?_
    exact g_X8_compare_38 F hA hRt hv x1 x2 t0 (0 : Int64) h _ (lv_sub hl [1, 2, 3, 0] rfl) _ _ hP hD hS
  · rw [if_neg c5] at h
    refine lv_ldc2 (v := (-9223372036854775808)) hx hb F.2.2.2.1 (F.2.2.2.2.1 _ lc_X8_48) dX8_compare_31 ?_
    refine lv_goto (tgt := 38) hx hb dX8_compare_34 (by decide) ?_
    exact g_X8_compare_38 F hA hRt hv x1 x2 t0 (-9223372036854775808 : Int64) h _ (lv_sub hl [1, 2, 3, 0] rfl) _ _ hP hD hS
def f_X8_compare_15 (v : Nat) (q : QS) (x1 : Int32) (x2 : Int32) (t0 : Int32) : Option (Int32) :=
  if t0 = 0 then
    f_X8_compare_25 v q x1 x2 t0 (1 : Int32)
  else
    f_X8_compare_25 v q x1 x2 t0 (4 : Int32)
set_option maxHeartbeats 4000000 in
set_option maxRecDepth 100000 in
theorem g_X8_compare_15 {E : En} {p : Program} {l : Launch} {e : Env} {s : State} {m : MethodId} {args : Array Value} {below : List Frame} {meth : Method} {c : Code} {A : Nat → Prop} {Q : State → Prop} (F : Fx E p s m args meth c (yX8_compare).cls cX8_compare 12 (some .int)) (hA : ∀ z : Nat, s.heap.size ≤ z → A z) {q : QS} {o : Int32} (hRt : RtI (wX E) E p l e rm_X8_compare s m args below meth c A Q cX8_compare (o, q)) {v : Nat} (hv : v < 5) (x1 : Int32) (x2 : Int32) (t0 : Int32) (h : f_X8_compare_15 v q x1 x2 t0 = some o) (ls : Array Slot) (hl : lv_has ls 12 [(0, .ref (eA E (3 * v))), (1, .int x1), (2, .int x2)]) : Wq (wX E) E p l e rm_X8_compare s m args below meth c A 0 0 Q q (F0 m 15 ls [.int t0]) := by
  intro H locs hP hD hS
  have hx := F.1
  have hb := F.2.1
  unfold f_X8_compare_15 at h
  refine lv_istore_n (lv' := [(3, .int t0), (0, .ref (eA E (3 * v))), (1, .int x1), (2, .int x2)]) hx hb dX8_compare_15 rfl hl (by decide) rfl (fun ls hl => ?_)
  refine lv_iload_n hx hb dX8_compare_16 rfl (lv_at hl 0 rfl) ?_
  refine lv_if_eq (tgt := 24) hx hb dX8_compare_17 (by decide) (fun c4 => ?_) (fun c4 => ?_)
  · rw [if_pos c4] at h
    refine lv_iconst (v := 1) hx hb dX8_compare_24 (by decide) ?_
    exact g_X8_compare_25 F hA hRt hv x1 x2 t0 (1 : Int32) h _ (lv_sub hl [1, 2, 3, 0] rfl) _ _ hP hD hS
  · rw [if_neg c4] at h
    refine lv_iconst (v := 4) hx hb dX8_compare_20 (by decide) ?_
    refine lv_goto (tgt := 25) hx hb dX8_compare_21 (by decide) ?_
    exact g_X8_compare_25 F hA hRt hv x1 x2 t0 (4 : Int32) h _ (lv_sub hl [1, 2, 3, 0] rfl) _ _ hP hD hS
def f_X8_compare_0 (v : Nat) (q : QS) (x1 : Int32) (x2 : Int32) : Option (Int32) :=
  (rd (qI q (3 * v + 1)) (vN q v) x1).bind fun y1 =>
  if y1 = (2 : Int32) then
    f_X8_compare_15 v q x1 x2 (1 : Int32)
  else
    f_X8_compare_15 v q x1 x2 (0 : Int32)
set_option maxHeartbeats 4000000 in
set_option maxRecDepth 100000 in
theorem g_X8_compare_0 {E : En} {p : Program} {l : Launch} {e : Env} {s : State} {m : MethodId} {args : Array Value} {below : List Frame} {meth : Method} {c : Code} {A : Nat → Prop} {Q : State → Prop} (F : Fx E p s m args meth c (yX8_compare).cls cX8_compare 12 (some .int)) (hA : ∀ z : Nat, s.heap.size ≤ z → A z) {q : QS} {o : Int32} (hRt : RtI (wX E) E p l e rm_X8_compare s m args below meth c A Q cX8_compare (o, q)) {v : Nat} (hv : v < 5) (x1 : Int32) (x2 : Int32) (h : f_X8_compare_0 v q x1 x2 = some o) (ls : Array Slot) (hl : lv_has ls 12 [(0, .ref (eA E (3 * v))), (1, .int x1), (2, .int x2)]) : Wq (wX E) E p l e rm_X8_compare s m args below meth c A 0 0 Q q (F0 m 0 ls []) := by
  intro H locs hP hD hS
  have hx := F.1
  have hb := F.2.1
  unfold f_X8_compare_0 at h
  refine lv_aload_n hx hb dX8_compare_0 rfl (lv_at hl 0 rfl) ?_
  refine r_get F hP i_X8 (3 * v) (xvO hv E q) rfl 0 (by decide) rfl lf_X8_9 rfl dX8_compare_1 ?_
  refine lv_iload_n hx hb dX8_compare_4 rfl (lv_at hl 1 rfl) ?_
  obtain ⟨y1, e2, h⟩ := Option.bind_eq_some_iff.mp h
  refine r_iald F hP (3 * v + 1) (xvK hv E q) e2 dX8_compare_5 ?_
  refine lv_iconst (v := 2) hx hb dX8_compare_6 (by decide) ?_
  refine lv_icmp_ne (tgt := 14) hx hb dX8_compare_7 (by decide) (fun c3 => ?_) (fun c3 => ?_)
  · rw [if_neg c3] at h
    refine lv_iconst (v := 0) hx hb dX8_compare_14 (by decide) ?_
    exact g_X8_compare_15 F hA hRt hv x1 x2 (0 : Int32) h _ (lv_sub hl [0, 1, 2] rfl) _ _ hP hD hS
  · rw [if_pos c3] at h
    refine lv_iconst (v := 1) hx hb dX8_compare_10 (by decide) ?_
    refine lv_goto (tgt := 15) hx hb dX8_compare_11 (by decide) ?_
    exact g_X8_compare_15 F hA hRt hv x1 x2 (1 : Int32) h _ (lv_sub hl [0, 1, 2] rfl) _ _ hP hD hS
def f_X8_compare (v : Nat) (q : QS) (x1 : Int32) (x2 : Int32) : Option (Int32) := f_X8_compare_0 v q x1 x2
set_option maxRecDepth 100000 in
theorem c_X8_compare {E : En} {l : Launch} {v : Nat} (hv : v < 5) (q : QS) (x1 : Int32) (x2 : Int32) {o : Int32} (h : f_X8_compare v q x1 x2 = some o) : Ct (wX E) E l yX8_compare (wy yX8_compare cX8_compare 12 (some .int)) rm_X8_compare q q [.ref (eA E (3 * v)), .int x1, .int x2] (some (.int o)) :=
  ct_I (o := (o, q)) (by decide +kernel) rfl (fun p e s m below meth c A Q F hA hRt H locs hP hD hS => en_W [.ref (eA E (3 * v)), .int x1, .int x2] (Nat.le_of_ble_eq_true rfl) (fun ls hl => g_X8_compare_0 F hA hRt hv x1 x2 h ls (lv_sub hl [0, 1, 2] rfl) H locs hP hD hS))
def rm_X8_compareNullsLast : Room := { frames := 1, cells := 0, slots := 0, locals := 31 }
def f_X8_compareNullsLast_16 (v : Nat) (q : QS) (x1 : Int32) (x2 : Int32) : Option (Int32) :=
  (f_X8_isNull v q x1).bind fun r4 =>
  if r4 = 0 then
    (f_X8_isNull v q x2).bind fun r7 =>
    if r7 = 0 then
      some ((0 : Int32) - (0 : Int32))
    else
      some ((0 : Int32) - (1 : Int32))
  else
    (f_X8_isNull v q x2).bind fun r10 =>
    if r10 = 0 then
      some ((1 : Int32) - (0 : Int32))
    else
      some ((1 : Int32) - (1 : Int32))
set_option maxHeartbeats 4000000 in
set_option maxRecDepth 100000 in
theorem g_X8_compareNullsLast_16 {E : En} {p : Program} {l : Launch} {e : Env} {s : State} {m : MethodId} {args : Array Value} {below : List Frame} {meth : Method} {c : Code} {A : Nat → Prop} {Q : State → Prop} (F : Fx E p s m args meth c (yX8_compareNullsLast).cls cX8_compareNullsLast 3 (some .int)) (hA : ∀ z : Nat, s.heap.size ≤ z → A z) {q : QS} {o : Int32} (hRt : RtI (wX E) E p l e rm_X8_compareNullsLast s m args below meth c A Q cX8_compareNullsLast (o, q)) {v : Nat} (hv : v < 5) (x1 : Int32) (x2 : Int32) (h : f_X8_compareNullsLast_16 v q x1 x2 = some o) (ls : Array Slot) (hl : lv_has ls 3 [(0, .ref (eA E (3 * v))), (1, .int x1), (2, .int x2)]) : Wq (wX E) E p l e rm_X8_compareNullsLast s m args below meth c A 0 0 Q q (F0 m 16 ls []) := by
  intro H locs hP hD hS
  have hx := F.1
  have hb := F.2.1
  unfold f_X8_compareNullsLast_16 at h
  refine lv_aload_n hx hb dX8_compareNullsLast_16 rfl (lv_at hl 0 rfl) ?_
  refine lv_iload_n hx hb dX8_compareNullsLast_17 rfl (lv_at hl 1 rfl) ?_
  obtain ⟨r4, e5, h⟩ := Option.bind_eq_some_iff.mp h
  refine q_callV (As := [.int x1]) (rest := []) F hA hP hD hS (c_X8_isNull (E := E) (l := l) hv q x1 e5) k_X8_isNull in_X8_isNull se_X8_isNull lm_X8_50 (3 * v) (xvO hv E q) rfl ⟨rfl, rfl⟩ ⟨by decide, by decide⟩ rfl hl.1 rfl (Nat.le_of_ble_eq_true rfl) dX8_compareNullsLast_18 ⟨by decide, by decide⟩ ?_
  intro H locs hP hD hS
  refine lv_if_eq (tgt := 28) hx hb dX8_compareNullsLast_21 (by decide) (fun c6 => ?_) (fun c6 => ?_)
  · rw [if_pos c6] at h
    refine lv_iconst (v := 0) hx hb dX8_compareNullsLast_28 (by decide) ?_
    refine lv_aload_n hx hb dX8_compareNullsLast_29 rfl (lv_at hl 0 rfl) ?_
    refine lv_iload_n hx hb dX8_compareNullsLast_30 rfl (lv_at hl 2 rfl) ?_
    obtain ⟨r7, e8, h⟩ := Option.bind_eq_some_iff.mp h
    refine q_callV (As := [.int x2]) (rest := [.int (0 : Int32)]) F hA hP hD hS (c_X8_isNull (E := E) (l := l) hv q x2 e8) k_X8_isNull in_X8_isNull se_X8_isNull lm_X8_50 (3 * v) (xvO hv E q) rfl ⟨rfl, rfl⟩ ⟨by decide, by decide⟩ rfl hl.1 rfl (Nat.le_of_ble_eq_true rfl) dX8_compareNullsLast_31 ⟨by decide, by decide⟩ ?_
    intro H locs hP hD hS
    refine lv_if_eq (tgt := 41) hx hb dX8_compareNullsLast_34 (by decide) (fun c9 => ?_) (fun c9 => ?_)
    · rw [if_pos c9] at h
      refine lv_iconst (v := 0) hx hb dX8_compareNullsLast_41 (by decide) ?_
      refine lv_isub hx hb dX8_compareNullsLast_42 ?_
      cases h
      exact hRt _ _ dX8_compareNullsLast_43 _ _ hP hD hS
    · rw [if_neg c9] at h
      refine lv_iconst (v := 1) hx hb dX8_compareNullsLast_37 (by decide) ?_
      refine lv_goto (tgt := 42) hx hb dX8_compareNullsLast_38 (by decide) ?_
      refine lv_isub hx hb dX8_compareNullsLast_42 ?_
      cases h
      exact hRt _ _ dX8_compareNullsLast_43 _ _ hP hD hS
  · rw [if_neg c6] at h
    refine lv_iconst (v := 1) hx hb dX8_compareNullsLast_24 (by decide) ?_
    refine lv_goto (tgt := 29) hx hb dX8_compareNullsLast_25 (by decide) ?_
    refine lv_aload_n hx hb dX8_compareNullsLast_29 rfl (lv_at hl 0 rfl) ?_
    refine lv_iload_n hx hb dX8_compareNullsLast_30 rfl (lv_at hl 2 rfl) ?_
    obtain ⟨r10, e11, h⟩ := Option.bind_eq_some_iff.mp h
    refine q_callV (As := [.int x2]) (rest := [.int (1 : Int32)]) F hA hP hD hS (c_X8_isNull (E := E) (l := l) hv q x2 e11) k_X8_isNull in_X8_isNull se_X8_isNull lm_X8_50 (3 * v) (xvO hv E q) rfl ⟨rfl, rfl⟩ ⟨by decide, by decide⟩ rfl hl.1 rfl (Nat.le_of_ble_eq_true rfl) dX8_compareNullsLast_31 ⟨by decide, by decide⟩ ?_
    intro H locs hP hD hS
    refine lv_if_eq (tgt := 41) hx hb dX8_compareNullsLast_34 (by decide) (fun c12 => ?_) (fun c12 => ?_)
    · rw [if_pos c12] at h
      refine lv_iconst (v := 0) hx hb dX8_compareNullsLast_41 (by decide) ?_
      refine lv_isub hx hb dX8_compareNullsLast_42 ?_
      cases h
      exact hRt _ _ dX8_compareNullsLast_43 _ _ hP hD hS
    · rw [if_neg c12] at h
      refine lv_iconst (v := 1) hx hb dX8_compareNullsLast_37 (by decide) ?_
      refine lv_goto (tgt := 42) hx hb dX8_compareNullsLast_38 (by decide) ?_
      refine lv_isub hx hb dX8_compareNullsLast_42 ?_
      cases h
      exact hRt _ _ dX8_compareNullsLast_43 _ _ hP hD hS
def f_X8_compareNullsLast_0 (v : Nat) (q : QS) (x1 : Int32) (x2 : Int32) : Option (Int32) :=
  (f_X8_isNull v q x1).bind fun r1 =>
  if r1 = 0 then
    (f_X8_isNull v q x2).bind fun r13 =>
    if r13 = 0 then
      (f_X8_compare v q x1 x2).bind fun r16 =>
      some r16
    else
      f_X8_compareNullsLast_16 v q x1 x2
  else
    f_X8_compareNullsLast_16 v q x1 x2
set_option maxHeartbeats 4000000 in
set_option maxRecDepth 100000 in
theorem g_X8_compareNullsLast_0 {E : En} {p : Program} {l : Launch} {e : Env} {s : State} {m : MethodId} {args : Array Value} {below : List Frame} {meth : Method} {c : Code} {A : Nat → Prop} {Q : State → Prop} (F : Fx E p s m args meth c (yX8_compareNullsLast).cls cX8_compareNullsLast 3 (some .int)) (hA : ∀ z : Nat, s.heap.size ≤ z → A z) {q : QS} {o : Int32} (hRt : RtI (wX E) E p l e rm_X8_compareNullsLast s m args below meth c A Q cX8_compareNullsLast (o, q)) {v : Nat} (hv : v < 5) (x1 : Int32) (x2 : Int32) (h : f_X8_compareNullsLast_0 v q x1 x2 = some o) (ls : Array Slot) (hl : lv_has ls 3 [(0, .ref (eA E (3 * v))), (1, .int x1), (2, .int x2)]) : Wq (wX E) E p l e rm_X8_compareNullsLast s m args below meth c A 0 0 Q q (F0 m 0 ls []) := by
  intro H locs hP hD hS
  have hx := F.1
  have hb := F.2.1
  unfold f_X8_compareNullsLast_0 at h
  refine lv_aload_n hx hb dX8_compareNullsLast_0 rfl (lv_at hl 0 rfl) ?_
  refine lv_iload_n hx hb dX8_compareNullsLast_1 rfl (lv_at hl 1 rfl) ?_
  obtain ⟨r1, e2, h⟩ := Option.bind_eq_some_iff.mp h
  refine q_callV (As := [.int x1]) (rest := []) F hA hP hD hS (c_X8_isNull (E := E) (l := l) hv q x1 e2) k_X8_isNull in_X8_isNull se_X8_isNull lm_X8_50 (3 * v) (xvO hv E q) rfl ⟨rfl, rfl⟩ ⟨by decide, by decide⟩ rfl hl.1 rfl (Nat.le_of_ble_eq_true rfl) dX8_compareNullsLast_2 ⟨by decide, by decide⟩ ?_
  intro H locs hP hD hS
  refine lv_if_ne (tgt := 16) hx hb dX8_compareNullsLast_5 (by decide) (fun c3 => ?_) (fun c3 => ?_)
  · rw [if_neg c3] at h
    exact g_X8_compareNullsLast_16 F hA hRt hv x1 x2 h _ (lv_sub hl [0, 1, 2] rfl) _ _ hP hD hS
  · rw [if_pos c3] at h
    refine lv_aload_n hx hb dX8_compareNullsLast_8 rfl (lv_at hl 0 rfl) ?_
    refine lv_iload_n hx hb dX8_compareNullsLast_9 rfl (lv_at hl 2 rfl) ?_
    obtain ⟨r13, e14, h⟩ := Option.bind_eq_some_iff.mp h
    refine q_callV (As := [.int x2]) (rest := []) F hA hP hD hS (c_X8_isNull (E := E) (l := l) hv q x2 e14) k_X8_isNull in_X8_isNull se_X8_isNull lm_X8_50 (3 * v) (xvO hv E q) rfl ⟨rfl, rfl⟩ ⟨by decide, by decide⟩ rfl hl.1 rfl (Nat.le_of_ble_eq_true rfl) dX8_compareNullsLast_10 ⟨by decide, by decide⟩ ?_
    intro H locs hP hD hS
    refine lv_if_eq (tgt := 44) hx hb dX8_compareNullsLast_13 (by decide) (fun c15 => ?_) (fun c15 => ?_)
    · rw [if_pos c15] at h
      refine lv_aload_n hx hb dX8_compareNullsLast_44 rfl (lv_at hl 0 rfl) ?_
      refine lv_iload_n hx hb dX8_compareNullsLast_45 rfl (lv_at hl 1 rfl) ?_
      refine lv_iload_n hx hb dX8_compareNullsLast_46 rfl (lv_at hl 2 rfl) ?_
      obtain ⟨r16, e17, h⟩ := Option.bind_eq_some_iff.mp h
      refine q_callV (As := [.int x1, .int x2]) (rest := []) F hA hP hD hS (c_X8_compare (E := E) (l := l) hv q x1 x2 e17) k_X8_compare in_X8_compare se_X8_compare lm_X8_54 (3 * v) (xvO hv E q) rfl ⟨rfl, rfl⟩ ⟨by decide, by decide⟩ rfl hl.1 rfl (Nat.le_of_ble_eq_true rfl) dX8_compareNullsLast_47 ⟨by decide, by decide⟩ ?_
      intro H locs hP hD hS
      cases h
      exact hRt _ _ dX8_compareNullsLast_50 _ _ hP hD hS
    · rw [if_neg c15] at h
      exact g_X8_compareNullsLast_16 F hA hRt hv x1 x2 h _ (lv_sub hl [0, 1, 2] rfl) _ _ hP hD hS
def f_X8_compareNullsLast (v : Nat) (q : QS) (x1 : Int32) (x2 : Int32) : Option (Int32) := f_X8_compareNullsLast_0 v q x1 x2
set_option maxRecDepth 100000 in
theorem c_X8_compareNullsLast {E : En} {l : Launch} {v : Nat} (hv : v < 5) (q : QS) (x1 : Int32) (x2 : Int32) {o : Int32} (h : f_X8_compareNullsLast v q x1 x2 = some o) : Ct (wX E) E l yX8_compareNullsLast (wy yX8_compareNullsLast cX8_compareNullsLast 3 (some .int)) rm_X8_compareNullsLast q q [.ref (eA E (3 * v)), .int x1, .int x2] (some (.int o)) :=
  ct_I (o := (o, q)) (by decide +kernel) rfl (fun p e s m below meth c A Q F hA hRt H locs hP hD hS => en_W [.ref (eA E (3 * v)), .int x1, .int x2] (Nat.le_of_ble_eq_true rfl) (fun ls hl => g_X8_compareNullsLast_0 F hA hRt hv x1 x2 h ls (lv_sub hl [0, 1, 2] rfl) H locs hP hD hS))
def rm_X8_hashOnto : Room := { frames := 1, cells := 0, slots := 0, locals := 21 }
def f_X8_hashOnto_25_b (v : Nat) (q : QS) (B25 : Int32 → Int64 → Int32 → Int32 → Option (Int64)) (x3 : Int32) (x4 : Int64) (x6 : Int32) (x7 : Int32) : Option (Int64) :=
  if x6 ≤ x7 then
    some x4
  else
    (rd (qL q (3 * v + 2)) (vN q v * 4) ((x3 * (4 : Int32)) + x7)).bind fun y6 =>
    B25 x3 (((x4 ^^^ y6) * (-7046029254386353131 : Int64)) ^^^ (((((x4 ^^^ y6) * (-7046029254386353131 : Int64))).toUInt64 >>> (((32 : Int32)).toInt64.toUInt64 &&& Int64.toUInt64 63)).toInt64)) x6 (x7 + (1 : Int32))
set_option maxHeartbeats 4000000 in
set_option maxRecDepth 100000 in
theorem g_X8_hashOnto_25_b {E : En} {p : Program} {l : Launch} {e : Env} {s : State} {m : MethodId} {args : Array Value} {below : List Frame} {meth : Method} {c : Code} {A : Nat → Prop} {Q : State → Prop} (F : Fx E p s m args meth c (yX8_hashOnto).cls cX8_hashOnto 8 (some .long)) (hA : ∀ z : Nat, s.heap.size ≤ z → A z) {q : QS} {o : Int64} (hRt : RtL (wX E) E p l e rm_X8_hashOnto s m args below meth c A Q cX8_hashOnto (o, q)) {v : Nat} (hv : v < 5) {B25 : Int32 → Int64 → Int32 → Int32 → Option (Int64)} (hB25 : ∀ (x3 : Int32) (x4 : Int64) (x6 : Int32) (x7 : Int32), B25 x3 x4 x6 x7 = some o → ∀ ls : Array Slot, lv_has ls 8 [(0, .ref (eA E (3 * v))), (3, .int x3), (4, .long x4), (6, .int x6), (7, .int x7)] → Wq (wX E) E p l e rm_X8_hashOnto s m args below meth c A 0 0 Q q (F0 m 25 ls [])) (x3 : Int32) (x4 : Int64) (x6 : Int32) (x7 : Int32) (h : f_X8_hashOnto_25_b v q B25 x3 x4 x6 x7 = some o) (ls : Array Slot) (hl : lv_has ls 8 [(0, .ref (eA E (3 * v))), (3, .int x3), (4, .long x4), (6, .int x6), (7, .int x7)]) : Wq (wX E) E p l e rm_X8_hashOnto s m args below meth c A 0 0 Q q (F0 m 25 ls []) := by
  intro H locs hP hD hS
  have hx := F.1
  have hb := F.2.1
  unfold f_X8_hashOnto_25_b at h
  refine lv_iload hx hb dX8_hashOnto_25 (lv_at hl 4 rfl) ?_
  refine lv_iload hx hb dX8_hashOnto_27 (lv_at hl 3 rfl) ?_
  refine lv_icmp_ge (tgt := 68) hx hb dX8_hashOnto_29 (by decide) (fun c5 => ?_) (fun c5 => ?_)
  · rw [if_pos c5] at h
    refine lv_lload hx hb dX8_hashOnto_68 (lv_at hl 2 rfl) ?_
    cases h
    exact hRt _ _ dX8_hashOnto_70 _ _ hP hD hS
  · rw [if_neg c5] at h
    refine lv_lload hx hb dX8_hashOnto_32 (lv_at hl 2 rfl) ?_
    refine lv_aload_n hx hb dX8_hashOnto_34 rfl (lv_at hl 0 rfl) ?_
    refine r_get F hP i_X8 (3 * v) (xvO hv E q) rfl 1 (by decide) rfl lf_X8_15 rfl dX8_hashOnto_35 ?_
    refine lv_iload_n hx hb dX8_hashOnto_38 rfl (lv_at hl 1 rfl) ?_
    refine lv_iconst (v := 4) hx hb dX8_hashOnto_39 (by decide) ?_
    refine lv_imul hx hb dX8_hashOnto_40 ?_
    refine lv_iload hx hb dX8_hashOnto_41 (lv_at hl 4 rfl) ?_
    refine lv_iadd hx hb dX8_hashOnto_43 ?_
    obtain ⟨y6, e7, h⟩ := Option.bind_eq_some_iff.mp h
    refine r_lald F hP (3 * v + 2) (xvW hv E q) e7 dX8_hashOnto_44 ?_
    refine lv_lxor hx hb dX8_hashOnto_45 ?_
    refine lv_ldc2 (v := (-7046029254386353131)) hx hb F.2.2.2.1 (F.2.2.2.2.1 _ lc_X8_59) dX8_hashOnto_46 ?_
    refine lv_lmul hx hb dX8_hashOnto_49 ?_
    refine lv_lstore (lv' := [(4, .long ((x4 ^^^ y6) * (-7046029254386353131 : Int64))), (0, .ref (eA E (3 * v))), (3, .int x3), (6, .int x6), (7, .int x7)]) hx hb dX8_hashOnto_50 hl (by decide) rfl (fun ls hl => ?_)
    refine lv_lload hx hb dX8_hashOnto_52 (lv_at hl 0 rfl) ?_
    refine lv_lload hx hb dX8_hashOnto_54 (lv_at hl 0 rfl) ?_
    refine lv_bipush (v := 32) hx hb dX8_hashOnto_56 (by decide) ?_
    refine lv_lushr (v := (((((x4 ^^^ y6) * (-7046029254386353131 : Int64))).toUInt64 >>> (((32 : Int32)).toInt64.toUInt64 &&& Int64.toUInt64 63)).toInt64)) hx hb dX8_hashOnto_58 rfl ?_
    refine lv_lxor hx hb dX8_hashOnto_59 ?_
    refine lv_lstore (lv' := [(4, .long (((x4 ^^^ y6) * (-7046029254386353131 : Int64)) ^^^ (((((x4 ^^^ y6) * (-7046029254386353131 : Int64))).toUInt64 >>> (((32 : Int32)).toInt64.toUInt64 &&& Int64.toUInt64 63)).toInt64))), (0, .ref (eA E (3 * v))), (3, .int x3), (6, .int x6), (7, .int x7)]) hx hb dX8_hashOnto_60 hl (by decide) rfl (fun ls hl => ?_)
    refine lv_iinc (v := (x7 + (1 : Int32))) (lv' := [(7, .int (x7 + (1 : Int32))), (4, .long (((x4 ^^^ y6) * (-7046029254386353131 : Int64)) ^^^ (((((x4 ^^^ y6) * (-7046029254386353131 : Int64))).toUInt64 >>> (((32 : Int32)).toInt64.toUInt64 &&& Int64.toUInt64 63)).toInt64))), (0, .ref (eA E (3 * v))), (3, .int x3), (6, .int x6)]) hx hb dX8_hashOnto_62 hl (k := 4) rfl rfl (by decide) rfl (fun ls hl => ?_)
    refine lv_goto (tgt := 25) hx hb dX8_hashOnto_65 (by decide) ?_
    exact hB25 x3 (((x4 ^^^ y6) * (-7046029254386353131 : Int64)) ^^^ (((((x4 ^^^ y6) * (-7046029254386353131 : Int64))).toUInt64 >>> (((32 : Int32)).toInt64.toUInt64 &&& Int64.toUInt64 63)).toInt64)) x6 (x7 + (1 : Int32)) h _ (lv_sub hl [2, 3, 1, 4, 0] rfl) _ _ hP hD hS
def f_X8_hashOnto_25 (v : Nat) (q : QS) : Nat → Int32 → Int64 → Int32 → Int32 → Option (Int64)
  | 0 => fun _ _ _ _ => none
  | n + 1 => f_X8_hashOnto_25_b v q (f_X8_hashOnto_25 v q n)
theorem g_X8_hashOnto_25 {E : En} {p : Program} {l : Launch} {e : Env} {s : State} {m : MethodId} {args : Array Value} {below : List Frame} {meth : Method} {c : Code} {A : Nat → Prop} {Q : State → Prop} (F : Fx E p s m args meth c (yX8_hashOnto).cls cX8_hashOnto 8 (some .long)) (hA : ∀ z : Nat, s.heap.size ≤ z → A z) {q : QS} {o : Int64} (hRt : RtL (wX E) E p l e rm_X8_hashOnto s m args below meth c A Q cX8_hashOnto (o, q)) {v : Nat} (hv : v < 5) (n : Nat) : ∀ (x3 : Int32) (x4 : Int64) (x6 : Int32) (x7 : Int32), f_X8_hashOnto_25 v q n x3 x4 x6 x7 = some o → ∀ ls : Array Slot, lv_has ls 8 [(0, .ref (eA E (3 * v))), (3, .int x3), (4, .long x4), (6, .int x6), (7, .int x7)] → Wq (wX E) E p l e rm_X8_hashOnto s m args below meth c A 0 0 Q q (F0 m 25 ls []) := by
  induction n with
  | zero => intro x3 x4 x6 x7 h; cases h
  | succ n ih => intro x3 x4 x6 x7 h; exact g_X8_hashOnto_25_b F hA hRt hv ih x3 x4 x6 x7 h
def f_X8_hashOnto_0 (v : Nat) (q : QS) (x1 : Int64) (x3 : Int32) : Option (Int64) :=
  (rd (qI q (3 * v + 1)) (vN q v) x3).bind fun y1 =>
  (f_X8_wordsInUse v q x3).bind fun r3 =>
  f_X8_hashOnto_25 v q FU x3 ((x1 * (31 : Int64)) + ((y1).toInt64)) r3 (0 : Int32)
set_option maxHeartbeats 4000000 in
set_option maxRecDepth 100000 in
theorem g_X8_hashOnto_0 {E : En} {p : Program} {l : Launch} {e : Env} {s : State} {m : MethodId} {args : Array Value} {below : List Frame} {meth : Method} {c : Code} {A : Nat → Prop} {Q : State → Prop} (F : Fx E p s m args meth c (yX8_hashOnto).cls cX8_hashOnto 8 (some .long)) (hA : ∀ z : Nat, s.heap.size ≤ z → A z) {q : QS} {o : Int64} (hRt : RtL (wX E) E p l e rm_X8_hashOnto s m args below meth c A Q cX8_hashOnto (o, q)) {v : Nat} (hv : v < 5) (x1 : Int64) (x3 : Int32) (h : f_X8_hashOnto_0 v q x1 x3 = some o) (ls : Array Slot) (hl : lv_has ls 8 [(0, .ref (eA E (3 * v))), (1, .long x1), (3, .int x3)]) : Wq (wX E) E p l e rm_X8_hashOnto s m args below meth c A 0 0 Q q (F0 m 0 ls []) := by
  intro H locs hP hD hS
  have hx := F.1
  have hb := F.2.1
  unfold f_X8_hashOnto_0 at h
  refine lv_lload_n hx hb dX8_hashOnto_0 rfl (lv_at hl 1 rfl) ?_
  refine lv_ldc2 (v := 31) hx hb F.2.2.2.1 (F.2.2.2.2.1 _ lc_X8_57) dX8_hashOnto_1 ?_
  refine lv_lmul hx hb dX8_hashOnto_4 ?_
  refine lv_aload_n hx hb dX8_hashOnto_5 rfl (lv_at hl 0 rfl) ?_
  refine r_get F hP i_X8 (3 * v) (xvO hv E q) rfl 0 (by decide) rfl lf_X8_9 rfl dX8_hashOnto_6 ?_
  refine lv_iload_n hx hb dX8_hashOnto_9 rfl (lv_at hl 2 rfl) ?_
  obtain ⟨y1, e2, h⟩ := Option.bind_eq_some_iff.mp h
  refine r_iald F hP (3 * v + 1) (xvK hv E q) e2 dX8_hashOnto_10 ?_
  refine lv_i2l (v := ((y1).toInt64)) hx hb dX8_hashOnto_11 rfl ?_
  refine lv_ladd hx hb dX8_hashOnto_12 ?_
  refine lv_lstore (lv' := [(4, .long ((x1 * (31 : Int64)) + ((y1).toInt64))), (0, .ref (eA E (3 * v))), (1, .long x1), (3, .int x3)]) hx hb dX8_hashOnto_13 hl (by decide) rfl (fun ls hl => ?_)
  refine lv_aload_n hx hb dX8_hashOnto_15 rfl (lv_at hl 1 rfl) ?_
  refine lv_iload_n hx hb dX8_hashOnto_16 rfl (lv_at hl 3 rfl) ?_
  obtain ⟨r3, e4, h⟩ := Option.bind_eq_some_iff.mp h
  refine q_callV (As := [.int x3]) (rest := []) F hA hP hD hS (c_X8_wordsInUse (E := E) (l := l) hv q x3 e4) k_X8_wordsInUse in_X8_wordsInUse se_X8_wordsInUse lm_X8_43 (3 * v) (xvO hv E q) rfl ⟨rfl, rfl⟩ ⟨by decide, by decide⟩ rfl hl.1 rfl (Nat.le_of_ble_eq_true rfl) dX8_hashOnto_17 ⟨by decide, by decide⟩ ?_
  intro H locs hP hD hS
  refine lv_istore (lv' := [(6, .int r3), (4, .long ((x1 * (31 : Int64)) + ((y1).toInt64))), (0, .ref (eA E (3 * v))), (1, .long x1), (3, .int x3)]) hx hb dX8_hashOnto_20 hl (by decide) rfl (fun ls hl => ?_)
  refine lv_iconst (v := 0) hx hb dX8_hashOnto_22 (by decide) ?_
  refine lv_istore (lv' := [(7, .int (0 : Int32)), (6, .int r3), (4, .long ((x1 * (31 : Int64)) + ((y1).toInt64))), (0, .ref (eA E (3 * v))), (1, .long x1), (3, .int x3)]) hx hb dX8_hashOnto_23 hl (by decide) rfl (fun ls hl => ?_)
  exact g_X8_hashOnto_25 F hA hRt hv FU x3 ((x1 * (31 : Int64)) + ((y1).toInt64)) r3 (0 : Int32) h _ (lv_sub hl [3, 5, 2, 1, 0] rfl) _ _ hP hD hS
def f_X8_hashOnto (v : Nat) (q : QS) (x1 : Int64) (x3 : Int32) : Option (Int64) := f_X8_hashOnto_0 v q x1 x3
set_option maxRecDepth 100000 in
theorem c_X8_hashOnto {E : En} {l : Launch} {v : Nat} (hv : v < 5) (q : QS) (x1 : Int64) (x3 : Int32) {o : Int64} (h : f_X8_hashOnto v q x1 x3 = some o) : Ct (wX E) E l yX8_hashOnto (wy yX8_hashOnto cX8_hashOnto 8 (some .long)) rm_X8_hashOnto q q [.ref (eA E (3 * v)), .long x1, .int x3] (some (.long o)) :=
  ct_L (o := (o, q)) (by decide +kernel) (fun p e s m below meth c A Q F hA hRt H locs hP hD hS => en_W [.ref (eA E (3 * v)), .long x1, .int x3] (Nat.le_of_ble_eq_true rfl) (fun ls hl => g_X8_hashOnto_0 F hA hRt hv x1 x3 h ls (lv_sub hl [0, 1, 2] rfl) H locs hP hD hS))
