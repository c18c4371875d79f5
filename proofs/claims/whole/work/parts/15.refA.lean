def rm_X10_in : Room := { frames := 0, cells := 0, slots := 0, locals := 0 }
def f_X10_in_0 (x0 : Int32) (x1 : Int32) (x2 : Int32) : Option (Int32) :=
  if x0 < x1 then
    some (0 : Int32)
  else
    if x2 < x0 then
      some (0 : Int32)
    else
      some (1 : Int32)
set_option maxHeartbeats 4000000 in
set_option maxRecDepth 100000 in
theorem g_X10_in_0 {E : En} {p : Program} {l : Launch} {e : Env} {s : State} {m : MethodId} {args : Array Value} {below : List Frame} {meth : Method} {c : Code} {A : Nat → Prop} {Q : State → Prop} (F : Fx E p s m args meth c (yX10_in).cls cX10_in 3 (some .boolean)) (hA : ∀ z : Nat, s.heap.size ≤ z → A z) {q : QS} {o : Int32} (hRt : RtZ (wM E) E p l e rm_X10_in s m args below meth c A Q cX10_in (o, q)) (x0 : Int32) (x1 : Int32) (x2 : Int32) (h : f_X10_in_0 x0 x1 x2 = some o) (ls : Array Slot) (hl : lv_has ls 3 [(0, .int x0), (1, .int x1), (2, .int x2)]) : Wq (wM E) E p l e rm_X10_in s m args below meth c A 0 0 Q q (F0 m 0 ls []) := by
  intro H locs hP hD hS
  have hx := F.1
  have hb := F.2.1
  unfold f_X10_in_0 at h
  refine lv_iload_n hx hb dX10_in_0 rfl (lv_at hl 0 rfl) ?_
  refine lv_iload_n hx hb dX10_in_1 rfl (lv_at hl 1 rfl) ?_
  refine lv_icmp_lt (tgt := 14) hx hb dX10_in_2 (by decide) (fun c1 => ?_) (fun c1 => ?_)
  · rw [if_pos c1] at h
    refine lv_iconst (v := 0) hx hb dX10_in_14 (by decide) ?_
    cases h
    exact hRt _ _ zz_0 dX10_in_15 _ _ hP hD hS
  · rw [if_neg c1] at h
    refine lv_iload_n hx hb dX10_in_5 rfl (lv_at hl 0 rfl) ?_
    refine lv_iload_n hx hb dX10_in_6 rfl (lv_at hl 2 rfl) ?_
    refine lv_icmp_gt (tgt := 14) hx hb dX10_in_7 (by decide) (fun c2 => ?_) (fun c2 => ?_)
    · rw [if_pos c2] at h
      refine lv_iconst (v := 0) hx hb dX10_in_14 (by decide) ?_
      cases h
      exact hRt _ _ zz_0 dX10_in_15 _ _ hP hD hS
    · rw [if_neg c2] at h
      refine lv_iconst (v := 1) hx hb dX10_in_10 (by decide) ?_
      refine lv_goto (tgt := 15) hx hb dX10_in_11 (by decide) ?_
      cases h
      exact hRt _ _ zz_1 dX10_in_15 _ _ hP hD hS
def f_X10_in (x0 : Int32) (x1 : Int32) (x2 : Int32) : Option (Int32) := f_X10_in_0 x0 x1 x2
set_option maxRecDepth 100000 in
theorem c_X10_in {E : En} {l : Launch} (q : QS) (x0 : Int32) (x1 : Int32) (x2 : Int32) {o : Int32} (h : f_X10_in x0 x1 x2 = some o) : Ct (wM E) E l yX10_in (wy yX10_in cX10_in 3 (some .boolean)) rm_X10_in q q [.int x0, .int x1, .int x2] (some (.int o)) :=
  ct_Z (o := (o, q)) (by decide +kernel) (fun p e s m below meth c A Q F hA hRt H locs hP hD hS => en_W [.int x0, .int x1, .int x2] (Nat.le_of_ble_eq_true rfl) (fun ls hl => g_X10_in_0 F hA hRt x0 x1 x2 h ls (lv_sub hl [0, 1, 2] rfl) H locs hP hD hS))
def rm_X10_clear : Room := { frames := 0, cells := 0, slots := 0, locals := 0 }
def f_X10_clear_2_b (B2 : QS → Int32 → Option (QS)) (q : QS) (x1 : Int32) : Option (QS) :=
  if (8 : Int32) ≤ x1 then
    some q
  else
    (wI q 6 8 x1 (0 : Int32)).bind fun q2 =>
    B2 q2 (x1 + (1 : Int32))
set_option maxHeartbeats 4000000 in
set_option maxRecDepth 100000 in
theorem g_X10_clear_2_b {E : En} {p : Program} {l : Launch} {e : Env} {s : State} {m : MethodId} {args : Array Value} {below : List Frame} {meth : Method} {c : Code} {A : Nat → Prop} {Q : State → Prop} (F : Fx E p s m args meth c (yX10_clear).cls cX10_clear 2 none) (hA : ∀ z : Nat, s.heap.size ≤ z → A z) {o : QS} (hRt : RtV (wM E) E p l e rm_X10_clear s m args below meth c A Q cX10_clear o) {B2 : QS → Int32 → Option (QS)} (hB2 : ∀ (q : QS) (x1 : Int32), B2 q x1 = some o → ∀ ls : Array Slot, lv_has ls 2 [(0, .ref (eA E 0)), (1, .int x1)] → Wq (wM E) E p l e rm_X10_clear s m args below meth c A 0 0 Q q (F0 m 2 ls [])) (q : QS) (x1 : Int32) (h : f_X10_clear_2_b B2 q x1 = some o) (ls : Array Slot) (hl : lv_has ls 2 [(0, .ref (eA E 0)), (1, .int x1)]) : Wq (wM E) E p l e rm_X10_clear s m args below meth c A 0 0 Q q (F0 m 2 ls []) := by
  intro H locs hP hD hS
  have hx := F.1
  have hb := F.2.1
  unfold f_X10_clear_2_b at h
  refine lv_iload_n hx hb dX10_clear_2 rfl (lv_at hl 1 rfl) ?_
  refine lv_bipush (v := 8) hx hb dX10_clear_3 (by decide) ?_
  refine lv_icmp_ge (tgt := 21) hx hb dX10_clear_5 (by decide) (fun c1 => ?_) (fun c1 => ?_)
  · rw [if_pos c1] at h
    cases h
    exact hRt _ _ dX10_clear_21 _ _ hP hD hS
  · rw [if_neg c1] at h
    refine lv_aload_n hx hb dX10_clear_8 rfl (lv_at hl 0 rfl) ?_
    refine r_get F hP i_X10 0 (me_0 E q) rfl 6 (by decide) rfl lf_X10_27 rfl dX10_clear_9 ?_
    refine lv_iload_n hx hb dX10_clear_12 rfl (lv_at hl 1 rfl) ?_
    refine lv_iconst (v := 0) hx hb dX10_clear_13 (by decide) ?_
    obtain ⟨q2, e3, h⟩ := Option.bind_eq_some_iff.mp h
    refine r_iast F hP hD hS 6 (me_6 E q) (ms_6 E q) e3 dX10_clear_14 ?_
    intro H locs hP hD hS
    refine lv_iinc (v := (x1 + (1 : Int32))) (lv' := [(1, .int (x1 + (1 : Int32))), (0, .ref (eA E 0))]) hx hb dX10_clear_15 hl (k := 1) rfl rfl (by decide) rfl (fun ls hl => ?_)
    refine lv_goto (tgt := 2) hx hb dX10_clear_18 (by decide) ?_
    exact hB2 q2 (x1 + (1 : Int32)) h _ (lv_sub hl [1, 0] rfl) _ _ hP hD hS
def f_X10_clear_2 : Nat → QS → Int32 → Option (QS)
  | 0 => fun _ _ => none
  | n + 1 => f_X10_clear_2_b (f_X10_clear_2 n)
theorem g_X10_clear_2 {E : En} {p : Program} {l : Launch} {e : Env} {s : State} {m : MethodId} {args : Array Value} {below : List Frame} {meth : Method} {c : Code} {A : Nat → Prop} {Q : State → Prop} (F : Fx E p s m args meth c (yX10_clear).cls cX10_clear 2 none) (hA : ∀ z : Nat, s.heap.size ≤ z → A z) {o : QS} (hRt : RtV (wM E) E p l e rm_X10_clear s m args below meth c A Q cX10_clear o) (n : Nat) : ∀ (q : QS) (x1 : Int32), f_X10_clear_2 n q x1 = some o → ∀ ls : Array Slot, lv_has ls 2 [(0, .ref (eA E 0)), (1, .int x1)] → Wq (wM E) E p l e rm_X10_clear s m args below meth c A 0 0 Q q (F0 m 2 ls []) := by
  induction n with
  | zero => intro q x1 h; cases h
  | succ n ih => intro q x1 h; exact g_X10_clear_2_b F hA hRt ih q x1 h
def f_X10_clear_0 (q : QS) : Option (QS) :=
  f_X10_clear_2 FU q (0 : Int32)
set_option maxHeartbeats 4000000 in
set_option maxRecDepth 100000 in
theorem g_X10_clear_0 {E : En} {p : Program} {l : Launch} {e : Env} {s : State} {m : MethodId} {args : Array Value} {below : List Frame} {meth : Method} {c : Code} {A : Nat → Prop} {Q : State → Prop} (F : Fx E p s m args meth c (yX10_clear).cls cX10_clear 2 none) (hA : ∀ z : Nat, s.heap.size ≤ z → A z) {o : QS} (hRt : RtV (wM E) E p l e rm_X10_clear s m args below meth c A Q cX10_clear o) (q : QS) (h : f_X10_clear_0 q = some o) (ls : Array Slot) (hl : lv_has ls 2 [(0, .ref (eA E 0))]) : Wq (wM E) E p l e rm_X10_clear s m args below meth c A 0 0 Q q (F0 m 0 ls []) := by
  intro H locs hP hD hS
  have hx := F.1
  have hb := F.2.1
  unfold f_X10_clear_0 at h
  refine lv_iconst (v := 0) hx hb dX10_clear_0 (by decide) ?_
  refine lv_istore_n (lv' := [(1, .int (0 : Int32)), (0, .ref (eA E 0))]) hx hb dX10_clear_1 rfl hl (by decide) rfl (fun ls hl => ?_)
  exact g_X10_clear_2 F hA hRt FU q (0 : Int32) h _ (lv_sub hl [1, 0] rfl) _ _ hP hD hS
def f_X10_clear (q : QS) : Option (QS) := f_X10_clear_0 q
set_option maxRecDepth 100000 in
theorem c_X10_clear {E : En} {l : Launch} (q : QS) {o : QS} (h : f_X10_clear q = some o) : Ct (wM E) E l yX10_clear (wy yX10_clear cX10_clear 2 none) rm_X10_clear q o [.ref (eA E 0)] none :=
  ct_V (o := o) (by decide +kernel) (fun p e s m below meth c A Q F hA hRt H locs hP hD hS => en_W [.ref (eA E 0)] (Nat.le_of_ble_eq_true rfl) (fun ls hl => g_X10_clear_0 F hA hRt q h ls (lv_sub hl [0] rfl) H locs hP hD hS))
def rm_X10_reset : Room := { frames := 1, cells := 0, slots := 0, locals := 21 }
def f_X10_reset_0 (q : QS) : Option (QS) :=
  (f_X10_clear (uF (uF (uF (uF (uF (uF (uF (uF (uF q 1 (0 : Int32)) 2 (0 : Int32)) 3 (-1 : Int32)) 4 (0 : Int32)) 5 (0 : Int32)) 6 (0 : Int32)) 7 (-1 : Int32)) 8 (0 : Int32)) 11 (0 : Int32))).bind fun r1 =>
  some r1
set_option maxHeartbeats 4000000 in
set_option maxRecDepth 100000 in
theorem g_X10_reset_0 {E : En} {p : Program} {l : Launch} {e : Env} {s : State} {m : MethodId} {args : Array Value} {below : List Frame} {meth : Method} {c : Code} {A : Nat → Prop} {Q : State → Prop} (F : Fx E p s m args meth c (yX10_reset).cls cX10_reset 1 none) (hA : ∀ z : Nat, s.heap.size ≤ z → A z) {o : QS} (hRt : RtV (wM E) E p l e rm_X10_reset s m args below meth c A Q cX10_reset o) (q : QS) (h : f_X10_reset_0 q = some o) (ls : Array Slot) (hl : lv_has ls 1 [(0, .ref (eA E 0))]) : Wq (wM E) E p l e rm_X10_reset s m args below meth c A 0 0 Q q (F0 m 0 ls []) := by
  intro H locs hP hD hS
  have hx := F.1
  have hb := F.2.1
  unfold f_X10_reset_0 at h
  refine lv_aload_n hx hb dX10_reset_0 rfl (lv_at hl 0 rfl) ?_
  refine lv_iconst (v := 0) hx hb dX10_reset_1 (by decide) ?_
  refine r_put (ty := .int) (q1 := (uF q 1 (0 : Int32))) F hP hD hS i_X10 tyX10_ok nmX10 0 (me_0 E q) rfl 7 (by decide) rfl lf_X10_144 rfl (by decide +kernel) rfl rfl (Nat.le_of_ble_eq_true rfl) (mf_0_1 E q (0 : Int32)) dX10_reset_2 ?_
  intro H locs hP hD hS
  refine lv_aload_n hx hb dX10_reset_5 rfl (lv_at hl 0 rfl) ?_
  refine lv_iconst (v := 0) hx hb dX10_reset_6 (by decide) ?_
  refine r_put (ty := .int) (q1 := (uF (uF q 1 (0 : Int32)) 2 (0 : Int32))) F hP hD hS i_X10 tyX10_ok nmX10 0 (me_0 E (uF q 1 (0 : Int32))) rfl 12 (by decide) rfl lf_X10_147 rfl (by decide +kernel) rfl rfl (Nat.le_of_ble_eq_true rfl) (mf_0_2 E (uF q 1 (0 : Int32)) (0 : Int32)) dX10_reset_7 ?_
  intro H locs hP hD hS
  refine lv_aload_n hx hb dX10_reset_10 rfl (lv_at hl 0 rfl) ?_
  refine lv_iconst (v := (-1)) hx hb dX10_reset_11 (by decide) ?_
  refine r_put (ty := .int) (q1 := (uF (uF (uF q 1 (0 : Int32)) 2 (0 : Int32)) 3 (-1 : Int32))) F hP hD hS i_X10 tyX10_ok nmX10 0 (me_0 E (uF (uF q 1 (0 : Int32)) 2 (0 : Int32))) rfl 28 (by decide) rfl lf_X10_89 rfl (by decide +kernel) rfl rfl (Nat.le_of_ble_eq_true rfl) (mf_0_3 E (uF (uF q 1 (0 : Int32)) 2 (0 : Int32)) (-1 : Int32)) dX10_reset_12 ?_
  intro H locs hP hD hS
  refine lv_aload_n hx hb dX10_reset_15 rfl (lv_at hl 0 rfl) ?_
  refine lv_iconst (v := 0) hx hb dX10_reset_16 (by decide) ?_
  refine r_put (ty := .int) (q1 := (uF (uF (uF (uF q 1 (0 : Int32)) 2 (0 : Int32)) 3 (-1 : Int32)) 4 (0 : Int32))) F hP hD hS i_X10 tyX10_ok nmX10 0 (me_0 E (uF (uF (uF q 1 (0 : Int32)) 2 (0 : Int32)) 3 (-1 : Int32))) rfl 29 (by decide) rfl lf_X10_150 rfl (by decide +kernel) rfl rfl (Nat.le_of_ble_eq_true rfl) (mf_0_4 E (uF (uF (uF q 1 (0 : Int32)) 2 (0 : Int32)) 3 (-1 : Int32)) (0 : Int32)) dX10_reset_17 ?_
  intro H locs hP hD hS
  refine lv_aload_n hx hb dX10_reset_20 rfl (lv_at hl 0 rfl) ?_
  refine lv_iconst (v := 0) hx hb dX10_reset_21 (by decide) ?_
  refine r_put (ty := .int) (q1 := (uF (uF (uF (uF (uF q 1 (0 : Int32)) 2 (0 : Int32)) 3 (-1 : Int32)) 4 (0 : Int32)) 5 (0 : Int32))) F hP hD hS i_X10 tyX10_ok nmX10 0 (me_0 E (uF (uF (uF (uF q 1 (0 : Int32)) 2 (0 : Int32)) 3 (-1 : Int32)) 4 (0 : Int32))) rfl 31 (by decide) rfl lf_X10_153 rfl (by decide +kernel) rfl rfl (Nat.le_of_ble_eq_true rfl) (mf_0_5 E (uF (uF (uF (uF q 1 (0 : Int32)) 2 (0 : Int32)) 3 (-1 : Int32)) 4 (0 : Int32)) (0 : Int32)) dX10_reset_22 ?_
  intro H locs hP hD hS
  refine lv_aload_n hx hb dX10_reset_25 rfl (lv_at hl 0 rfl) ?_
  refine lv_iconst (v := 0) hx hb dX10_reset_26 (by decide) ?_
  refine r_put (ty := .int) (q1 := (uF (uF (uF (uF (uF (uF q 1 (0 : Int32)) 2 (0 : Int32)) 3 (-1 : Int32)) 4 (0 : Int32)) 5 (0 : Int32)) 6 (0 : Int32))) F hP hD hS i_X10 tyX10_ok nmX10 0 (me_0 E (uF (uF (uF (uF (uF q 1 (0 : Int32)) 2 (0 : Int32)) 3 (-1 : Int32)) 4 (0 : Int32)) 5 (0 : Int32))) rfl 33 (by decide) rfl lf_X10_156 rfl (by decide +kernel) rfl rfl (Nat.le_of_ble_eq_true rfl) (mf_0_6 E (uF (uF (uF (uF (uF q 1 (0 : Int32)) 2 (0 : Int32)) 3 (-1 : Int32)) 4 (0 : Int32)) 5 (0 : Int32)) (0 : Int32)) dX10_reset_27 ?_
  intro H locs hP hD hS
  refine lv_aload_n hx hb dX10_reset_30 rfl (lv_at hl 0 rfl) ?_
  refine lv_iconst (v := (-1)) hx hb dX10_reset_31 (by decide) ?_
  refine r_put (ty := .int) (q1 := (uF (uF (uF (uF (uF (uF (uF q 1 (0 : Int32)) 2 (0 : Int32)) 3 (-1 : Int32)) 4 (0 : Int32)) 5 (0 : Int32)) 6 (0 : Int32)) 7 (-1 : Int32))) F hP hD hS i_X10 tyX10_ok nmX10 0 (me_0 E (uF (uF (uF (uF (uF (uF q 1 (0 : Int32)) 2 (0 : Int32)) 3 (-1 : Int32)) 4 (0 : Int32)) 5 (0 : Int32)) 6 (0 : Int32))) rfl 36 (by decide) rfl lf_X10_105 rfl (by decide +kernel) rfl rfl (Nat.le_of_ble_eq_true rfl) (mf_0_7 E (uF (uF (uF (uF (uF (uF q 1 (0 : Int32)) 2 (0 : Int32)) 3 (-1 : Int32)) 4 (0 : Int32)) 5 (0 : Int32)) 6 (0 : Int32)) (-1 : Int32)) dX10_reset_32 ?_
  intro H locs hP hD hS
  refine lv_aload_n hx hb dX10_reset_35 rfl (lv_at hl 0 rfl) ?_
  refine lv_iconst (v := 0) hx hb dX10_reset_36 (by decide) ?_
  refine r_put (ty := .boolean) (q1 := (uF (uF (uF (uF (uF (uF (uF (uF q 1 (0 : Int32)) 2 (0 : Int32)) 3 (-1 : Int32)) 4 (0 : Int32)) 5 (0 : Int32)) 6 (0 : Int32)) 7 (-1 : Int32)) 8 (0 : Int32))) F hP hD hS i_X10 tyX10_ok nmX10 0 (me_0 E (uF (uF (uF (uF (uF (uF (uF q 1 (0 : Int32)) 2 (0 : Int32)) 3 (-1 : Int32)) 4 (0 : Int32)) 5 (0 : Int32)) 6 (0 : Int32)) 7 (-1 : Int32))) rfl 37 (by decide) rfl lf_X10_159 rfl (by decide +kernel) rfl (by decide) (Nat.le_of_ble_eq_true rfl) (mf_0_8 E (uF (uF (uF (uF (uF (uF (uF q 1 (0 : Int32)) 2 (0 : Int32)) 3 (-1 : Int32)) 4 (0 : Int32)) 5 (0 : Int32)) 6 (0 : Int32)) 7 (-1 : Int32)) (0 : Int32)) dX10_reset_37 ?_
  intro H locs hP hD hS
  refine lv_aload_n hx hb dX10_reset_40 rfl (lv_at hl 0 rfl) ?_
  refine lv_iconst (v := 0) hx hb dX10_reset_41 (by decide) ?_
  refine r_put (ty := .int) (q1 := (uF (uF (uF (uF (uF (uF (uF (uF (uF q 1 (0 : Int32)) 2 (0 : Int32)) 3 (-1 : Int32)) 4 (0 : Int32)) 5 (0 : Int32)) 6 (0 : Int32)) 7 (-1 : Int32)) 8 (0 : Int32)) 11 (0 : Int32))) F hP hD hS i_X10 tyX10_ok nmX10 0 (me_0 E (uF (uF (uF (uF (uF (uF (uF (uF q 1 (0 : Int32)) 2 (0 : Int32)) 3 (-1 : Int32)) 4 (0 : Int32)) 5 (0 : Int32)) 6 (0 : Int32)) 7 (-1 : Int32)) 8 (0 : Int32))) rfl 48 (by decide) rfl lf_X10_163 rfl (by decide +kernel) rfl rfl (Nat.le_of_ble_eq_true rfl) (mf_0_11 E (uF (uF (uF (uF (uF (uF (uF (uF q 1 (0 : Int32)) 2 (0 : Int32)) 3 (-1 : Int32)) 4 (0 : Int32)) 5 (0 : Int32)) 6 (0 : Int32)) 7 (-1 : Int32)) 8 (0 : Int32)) (0 : Int32)) dX10_reset_42 ?_
  intro H locs hP hD hS
  refine lv_aload_n hx hb dX10_reset_45 rfl (lv_at hl 0 rfl) ?_
  obtain ⟨r1, e2, h⟩ := Option.bind_eq_some_iff.mp h
  refine q_callV (As := []) (rest := []) F hA hP hD hS (c_X10_clear (E := E) (l := l) (uF (uF (uF (uF (uF (uF (uF (uF (uF q 1 (0 : Int32)) 2 (0 : Int32)) 3 (-1 : Int32)) 4 (0 : Int32)) 5 (0 : Int32)) 6 (0 : Int32)) 7 (-1 : Int32)) 8 (0 : Int32)) 11 (0 : Int32)) e2) k_X10_clear in_X10_clear se_X10_clear lm_X10_166 0 (me_0 E (uF (uF (uF (uF (uF (uF (uF (uF (uF q 1 (0 : Int32)) 2 (0 : Int32)) 3 (-1 : Int32)) 4 (0 : Int32)) 5 (0 : Int32)) 6 (0 : Int32)) 7 (-1 : Int32)) 8 (0 : Int32)) 11 (0 : Int32))) rfl ⟨rfl, rfl⟩ ⟨by decide, by decide⟩ rfl hl.1 rfl (Nat.le_of_ble_eq_true rfl) dX10_reset_46 ⟨by decide, by decide⟩ ?_
  intro H locs hP hD hS
  cases h
  exact hRt _ _ dX10_reset_49 _ _ hP hD hS
def f_X10_reset (q : QS) : Option (QS) := f_X10_reset_0 q
set_option maxRecDepth 100000 in
theorem c_X10_reset {E : En} {l : Launch} (q : QS) {o : QS} (h : f_X10_reset q = some o) : Ct (wM E) E l yX10_reset (wy yX10_reset cX10_reset 1 none) rm_X10_reset q o [.ref (eA E 0)] none :=
  ct_V (o := o) (by decide +kernel) (fun p e s m below meth c A Q F hA hRt H locs hP hD hS => en_W [.ref (eA E 0)] (Nat.le_of_ble_eq_true rfl) (fun ls hl => g_X10_reset_0 F hA hRt q h ls (lv_sub hl [0] rfl) H locs hP hD hS))
def rm_X10_table : Room := { frames := 1, cells := 0, slots := 0, locals := 22 }
def f_X10_table_60 (B32 : QS → Int32 → Int32 → Int32 → Int32 → Option (Int32 × QS)) (q : QS) (x1 : Int32) (x3 : Int32) (x5 : Int32) (t0 : Int32) : Option (Int32 × QS) :=
  (wI q 8 24 (((8 : Int32) * (qF q 1)) + x5) (x3 - x3 / (10 : Int32) * (10 : Int32))).bind fun q8 =>
  B32 q8 x1 (x3 / (10 : Int32)) t0 (x5 + (1 : Int32))
set_option maxHeartbeats 4000000 in
set_option maxRecDepth 100000 in
theorem g_X10_table_60 {E : En} {p : Program} {l : Launch} {e : Env} {s : State} {m : MethodId} {args : Array Value} {below : List Frame} {meth : Method} {c : Code} {A : Nat → Prop} {Q : State → Prop} (F : Fx E p s m args meth c (yX10_table).cls cX10_table 6 (some .int)) (hA : ∀ z : Nat, s.heap.size ≤ z → A z) {o : Int32 × QS} (hRt : RtI (wM E) E p l e rm_X10_table s m args below meth c A Q cX10_table o) {B32 : QS → Int32 → Int32 → Int32 → Int32 → Option (Int32 × QS)} (hB32 : ∀ (q : QS) (x1 : Int32) (x3 : Int32) (x4 : Int32) (x5 : Int32), B32 q x1 x3 x4 x5 = some o → ∀ ls : Array Slot, lv_has ls 6 [(0, .ref (eA E 0)), (1, .int x1), (3, .int x3), (4, .int x4), (5, .int x5)] → Wq (wM E) E p l e rm_X10_table s m args below meth c A 0 0 Q q (F0 m 32 ls [])) (q : QS) (x1 : Int32) (x3 : Int32) (x5 : Int32) (t0 : Int32) (h : f_X10_table_60 B32 q x1 x3 x5 t0 = some o) (ls : Array Slot) (hl : lv_has ls 6 [(0, .ref (eA E 0)), (1, .int x1), (3, .int x3), (5, .int x5)]) : Wq (wM E) E p l e rm_X10_table s m args below meth c A 0 0 Q q (F0 m 60 ls [.int t0]) := by
  intro H locs hP hD hS
  have hx := F.1
  have hb := F.2.1
  unfold f_X10_table_60 at h
  refine lv_istore (lv' := [(4, .int t0), (0, .ref (eA E 0)), (1, .int x1), (3, .int x3), (5, .int x5)]) hx hb dX10_table_60 hl (by decide) rfl (fun ls hl => ?_)
  refine lv_aload_n hx hb dX10_table_62 rfl (lv_at hl 1 rfl) ?_
  refine r_get F hP i_X10 0 (me_0 E q) rfl 9 (by decide) rfl lf_X10_34 rfl dX10_table_63 ?_
  refine lv_bipush (v := 8) hx hb dX10_table_66 (by decide) ?_
  refine lv_aload_n hx hb dX10_table_68 rfl (lv_at hl 1 rfl) ?_
  refine r_get F hP i_X10 0 (me_0 E q) rfl 7 (by decide) rfl lf_X10_144 rfl dX10_table_69 ?_
  refine lv_imul hx hb dX10_table_72 ?_
  refine lv_iload hx hb dX10_table_73 (lv_at hl 4 rfl) ?_
  refine lv_iadd hx hb dX10_table_75 ?_
  refine lv_iload_n hx hb dX10_table_76 rfl (lv_at hl 3 rfl) ?_
  refine lv_bipush (v := 10) hx hb dX10_table_77 (by decide) ?_
  refine lv_irem hx hb dX10_table_79 (by decide) ?_
  obtain ⟨q8, e9, h⟩ := Option.bind_eq_some_iff.mp h
  refine r_iast F hP hD hS 8 (me_8 E q) (ms_8 E q) e9 dX10_table_80 ?_
  intro H locs hP hD hS
  refine lv_iload_n hx hb dX10_table_81 rfl (lv_at hl 3 rfl) ?_
  refine lv_bipush (v := 10) hx hb dX10_table_82 (by decide) ?_
  refine lv_idiv hx hb dX10_table_84 (by decide) ?_
  refine lv_istore_n (lv' := [(3, .int (x3 / (10 : Int32))), (4, .int t0), (0, .ref (eA E 0)), (1, .int x1), (5, .int x5)]) hx hb dX10_table_85 rfl hl (by decide) rfl (fun ls hl => ?_)
  refine lv_iinc (v := (x5 + (1 : Int32))) (lv' := [(5, .int (x5 + (1 : Int32))), (3, .int (x3 / (10 : Int32))), (4, .int t0), (0, .ref (eA E 0)), (1, .int x1)]) hx hb dX10_table_86 hl (k := 4) rfl rfl (by decide) rfl (fun ls hl => ?_)
  refine lv_goto (tgt := 32) hx hb dX10_table_89 (by decide) ?_
  exact hB32 q8 x1 (x3 / (10 : Int32)) t0 (x5 + (1 : Int32)) h _ (lv_sub hl [3, 4, 1, 2, 0] rfl) _ _ hP hD hS
def f_X10_table_59 (B32 : QS → Int32 → Int32 → Int32 → Int32 → Option (Int32 × QS)) (q : QS) (x1 : Int32) (x3 : Int32) (x5 : Int32) : Option (Int32 × QS) :=
  f_X10_table_60 B32 q x1 x3 x5 (0 : Int32)
set_option maxHeartbeats 4000000 in
set_option maxRecDepth 100000 in
theorem g_X10_table_59 {E : En} {p : Program} {l : Launch} {e : Env} {s : State} {m : MethodId} {args : Array Value} {below : List Frame} {meth : Method} {c : Code} {A : Nat → Prop} {Q : State → Prop} (F : Fx E p s m args meth c (yX10_table).cls cX10_table 6 (some .int)) (hA : ∀ z : Nat, s.heap.size ≤ z → A z) {o : Int32 × QS} (hRt : RtI (wM E) E p l e rm_X10_table s m args below meth c A Q cX10_table o) {B32 : QS → Int32 → Int32 → Int32 → Int32 → Option (Int32 × QS)} (hB32 : ∀ (q : QS) (x1 : Int32) (x3 : Int32) (x4 : Int32) (x5 : Int32), B32 q x1 x3 x4 x5 = some o → ∀ ls : Array Slot, lv_has ls 6 [(0, .ref (eA E 0)), (1, .int x1), (3, .int x3), (4, .int x4), (5, .int x5)] → Wq (wM E) E p l e rm_X10_table s m args below meth c A 0 0 Q q (F0 m 32 ls [])) (q : QS) (x1 : Int32) (x3 : Int32) (x5 : Int32) (h : f_X10_table_59 B32 q x1 x3 x5 = some o) (ls : Array Slot) (hl : lv_has ls 6 [(0, .ref (eA E 0)), (1, .int x1), (3, .int x3), (5, .int x5)]) : Wq (wM E) E p l e rm_X10_table s m args below meth c A 0 0 Q q (F0 m 59 ls []) := by
  intro H locs hP hD hS
  have hx := F.1
  have hb := F.2.1
  unfold f_X10_table_59 at h
  refine lv_iconst (v := 0) hx hb dX10_table_59 (by decide) ?_
  exact g_X10_table_60 F hA hRt hB32 q x1 x3 x5 (0 : Int32) h _ (lv_sub hl [0, 1, 2, 3] rfl) _ _ hP hD hS
def f_X10_table_32_b (K92 : QS → Int32 → Int32 → Option (Int32 × QS)) (B32 : QS → Int32 → Int32 → Int32 → Int32 → Option (Int32 × QS)) (q : QS) (x1 : Int32) (x3 : Int32) (x4 : Int32) (x5 : Int32) : Option (Int32 × QS) :=
  if x1 ≤ x5 then
    K92 q x1 x4
  else
    if x4 = 0 then
      f_X10_table_59 B32 q x1 x3 x5
    else
      (f_X10_in (x3 - x3 / (10 : Int32) * (10 : Int32)) (1 : Int32) (3 : Int32)).bind fun r10 =>
      if r10 = 0 then
        f_X10_table_59 B32 q x1 x3 x5
      else
        f_X10_table_60 B32 q x1 x3 x5 (1 : Int32)
set_option maxHeartbeats 4000000 in
set_option maxRecDepth 100000 in
theorem g_X10_table_32_b {E : En} {p : Program} {l : Launch} {e : Env} {s : State} {m : MethodId} {args : Array Value} {below : List Frame} {meth : Method} {c : Code} {A : Nat → Prop} {Q : State → Prop} (F : Fx E p s m args meth c (yX10_table).cls cX10_table 6 (some .int)) (hA : ∀ z : Nat, s.heap.size ≤ z → A z) {o : Int32 × QS} (hRt : RtI (wM E) E p l e rm_X10_table s m args below meth c A Q cX10_table o) {K92 : QS → Int32 → Int32 → Option (Int32 × QS)} {B32 : QS → Int32 → Int32 → Int32 → Int32 → Option (Int32 × QS)} (hK92 : ∀ (q : QS) (x1 : Int32) (x4 : Int32), K92 q x1 x4 = some o → ∀ ls : Array Slot, lv_has ls 6 [(0, .ref (eA E 0)), (1, .int x1), (4, .int x4)] → Wq (wM E) E p l e rm_X10_table s m args below meth c A 0 0 Q q (F0 m 92 ls [])) (hB32 : ∀ (q : QS) (x1 : Int32) (x3 : Int32) (x4 : Int32) (x5 : Int32), B32 q x1 x3 x4 x5 = some o → ∀ ls : Array Slot, lv_has ls 6 [(0, .ref (eA E 0)), (1, .int x1), (3, .int x3), (4, .int x4), (5, .int x5)] → Wq (wM E) E p l e rm_X10_table s m args below meth c A 0 0 Q q (F0 m 32 ls [])) (q : QS) (x1 : Int32) (x3 : Int32) (x4 : Int32) (x5 : Int32) (h : f_X10_table_32_b K92 B32 q x1 x3 x4 x5 = some o) (ls : Array Slot) (hl : lv_has ls 6 [(0, .ref (eA E 0)), (1, .int x1), (3, .int x3), (4, .int x4), (5, .int x5)]) : Wq (wM E) E p l e rm_X10_table s m args below meth c A 0 0 Q q (F0 m 32 ls []) := by
  intro H locs hP hD hS
  have hx := F.1
  have hb := F.2.1
  unfold f_X10_table_32_b at h
  refine lv_iload hx hb dX10_table_32 (lv_at hl 4 rfl) ?_
  refine lv_iload_n hx hb dX10_table_34 rfl (lv_at hl 1 rfl) ?_
  refine lv_icmp_ge (tgt := 92) hx hb dX10_table_35 (by decide) (fun c6 => ?_) (fun c6 => ?_)
  · rw [if_pos c6] at h
    exact hK92 q x1 x4 h _ (lv_sub hl [0, 1, 3] rfl) _ _ hP hD hS
  · rw [if_neg c6] at h
    refine lv_iload hx hb dX10_table_38 (lv_at hl 3 rfl) ?_
    refine lv_if_eq (tgt := 59) hx hb dX10_table_40 (by decide) (fun c7 => ?_) (fun c7 => ?_)
    · rw [if_pos c7] at h
      exact g_X10_table_59 F hA hRt hB32 q x1 x3 x5 h _ (lv_sub hl [0, 1, 2, 4] rfl) _ _ hP hD hS
    · rw [if_neg c7] at h
      refine lv_iload_n hx hb dX10_table_43 rfl (lv_at hl 2 rfl) ?_
      refine lv_bipush (v := 10) hx hb dX10_table_44 (by decide) ?_
      refine lv_irem hx hb dX10_table_46 (by decide) ?_
      refine lv_iconst (v := 1) hx hb dX10_table_47 (by decide) ?_
      refine lv_iconst (v := 3) hx hb dX10_table_48 (by decide) ?_
      obtain ⟨r10, e11, h⟩ := Option.bind_eq_some_iff.mp h
      refine q_callS (As := [.int (x3 - x3 / (10 : Int32) * (10 : Int32)), .int (1 : Int32), .int (3 : Int32)]) (rest := []) F hA hP hD hS (c_X10_in (E := E) (l := l) q (x3 - x3 / (10 : Int32) * (10 : Int32)) (1 : Int32) (3 : Int32) e11) k_X10_in st_X10_in lm_X10_169 ⟨rfl, rfl⟩ ⟨by decide, by decide⟩ rfl hl.1 rfl (Nat.le_of_ble_eq_true rfl) dX10_table_49 ⟨by decide, by decide⟩ ?_
      intro H locs hP hD hS
      refine lv_if_eq (tgt := 59) hx hb dX10_table_52 (by decide) (fun c12 => ?_) (fun c12 => ?_)
      · rw [if_pos c12] at h
        exact g_X10_table_59 F hA hRt hB32 q x1 x3 x5 h _ (lv_sub hl [0, 1, 2, 4] rfl) _ _ hP hD hS
      · rw [if_neg c12] at h
        refine lv_iconst (v := 1) hx hb dX10_table_55 (by decide) ?_
        refine lv_goto (tgt := 60) hx hb dX10_table_56 (by decide) ?_
        exact g_X10_table_60 F hA hRt hB32 q x1 x3 x5 (1 : Int32) h _ (lv_sub hl [0, 1, 2, 4] rfl) _ _ hP hD hS
def f_X10_table_32 (K92 : QS → Int32 → Int32 → Option (Int32 × QS)) : Nat → QS → Int32 → Int32 → Int32 → Int32 → Option (Int32 × QS)
  | 0 => fun _ _ _ _ _ => none
  | n + 1 => f_X10_table_32_b K92 (f_X10_table_32 K92 n)
theorem g_X10_table_32 {E : En} {p : Program} {l : Launch} {e : Env} {s : State} {m : MethodId} {args : Array Value} {below : List Frame} {meth : Method} {c : Code} {A : Nat → Prop} {Q : State → Prop} (F : Fx E p s m args meth c (yX10_table).cls cX10_table 6 (some .int)) (hA : ∀ z : Nat, s.heap.size ≤ z → A z) {o : Int32 × QS} (hRt : RtI (wM E) E p l e rm_X10_table s m args below meth c A Q cX10_table o) {K92 : QS → Int32 → Int32 → Option (Int32 × QS)} (hK92 : ∀ (q : QS) (x1 : Int32) (x4 : Int32), K92 q x1 x4 = some o → ∀ ls : Array Slot, lv_has ls 6 [(0, .ref (eA E 0)), (1, .int x1), (4, .int x4)] → Wq (wM E) E p l e rm_X10_table s m args below meth c A 0 0 Q q (F0 m 92 ls [])) (n : Nat) : ∀ (q : QS) (x1 : Int32) (x3 : Int32) (x4 : Int32) (x5 : Int32), f_X10_table_32 K92 n q x1 x3 x4 x5 = some o → ∀ ls : Array Slot, lv_has ls 6 [(0, .ref (eA E 0)), (1, .int x1), (3, .int x3), (4, .int x4), (5, .int x5)] → Wq (wM E) E p l e rm_X10_table s m args below meth c A 0 0 Q q (F0 m 32 ls []) := by
  induction n with
  | zero => intro q x1 x3 x4 x5 h; cases h
  | succ n ih => intro q x1 x3 x4 x5 h; exact g_X10_table_32_b F hA hRt hK92 ih q x1 x3 x4 x5 h
def f_X10_table_92 (q : QS) (x1 : Int32) (x4 : Int32) : Option (Int32 × QS) :=
  if x4 = 0 then
    some ((-1 : Int32), q)
  else
    (wI q 7 3 (qF q 1) x1).bind fun q14 =>
    (wI q14 9 3 (qF q14 1) (0 : Int32)).bind fun q16 =>
    some (((qF (uF q16 1 ((qF q16 1) + (1 : Int32))) 1) - (1 : Int32)), (uF q16 1 ((qF q16 1) + (1 : Int32))))
set_option maxHeartbeats 4000000 in
set_option maxRecDepth 100000 in
theorem g_X10_table_92 {E : En} {p : Program} {l : Launch} {e : Env} {s : State} {m : MethodId} {args : Array Value} {below : List Frame} {meth : Method} {c : Code} {A : Nat → Prop} {Q : State → Prop} (F : Fx E p s m args meth c (yX10_table).cls cX10_table 6 (some .int)) (hA : ∀ z : Nat, s.heap.size ≤ z → A z) {o : Int32 × QS} (hRt : RtI (wM E) E p l e rm_X10_table s m args below meth c A Q cX10_table o) (q : QS) (x1 : Int32) (x4 : Int32) (h : f_X10_table_92 q x1 x4 = some o) (ls : Array Slot) (hl : lv_has ls 6 [(0, .ref (eA E 0)), (1, .int x1), (4, .int x4)]) : Wq (wM E) E p l e rm_X10_table s m args below meth c A 0 0 Q q (F0 m 92 ls []) := by
  intro H locs hP hD hS
  have hx := F.1
  have hb := F.2.1
  unfold f_X10_table_92 at h
  refine lv_iload hx hb dX10_table_92 (lv_at hl 2 rfl) ?_
  refine lv_if_ne (tgt := 99) hx hb dX10_table_94 (by decide) (fun c13 => ?_) (fun c13 => ?_)
  · rw [if_neg c13] at h
    refine lv_aload_n hx hb dX10_table_99 rfl (lv_at hl 0 rfl) ?_
    refine r_get F hP i_X10 0 (me_0 E q) rfl 8 (by decide) rfl lf_X10_31 rfl dX10_table_100 ?_
    refine lv_aload_n hx hb dX10_table_103 rfl (lv_at hl 0 rfl) ?_
    refine r_get F hP i_X10 0 (me_0 E q) rfl 7 (by decide) rfl lf_X10_144 rfl dX10_table_104 ?_
    refine lv_iload_n hx hb dX10_table_107 rfl (lv_at hl 1 rfl) ?_
    obtain ⟨q14, e15, h⟩ := Option.bind_eq_some_iff.mp h
    refine r_iast F hP hD hS 7 (me_7 E q) (ms_7 E q) e15 dX10_table_108 ?_
    intro H locs hP hD hS
    refine lv_aload_n hx hb dX10_table_109 rfl (lv_at hl 0 rfl) ?_
    refine r_get F hP i_X10 0 (me_0 E q14) rfl 10 (by decide) rfl lf_X10_37 rfl dX10_table_110 ?_
    refine lv_aload_n hx hb dX10_table_113 rfl (lv_at hl 0 rfl) ?_
    refine r_get F hP i_X10 0 (me_0 E q14) rfl 7 (by decide) rfl lf_X10_144 rfl dX10_table_114 ?_
    refine lv_iconst (v := 0) hx hb dX10_table_117 (by decide) ?_
    obtain ⟨q16, e17, h⟩ := Option.bind_eq_some_iff.mp h
    refine r_iast F hP hD hS 9 (me_9 E q14) (ms_9 E q14) e17 dX10_table_118 ?_
    intro H locs hP hD hS
    refine lv_aload_n hx hb dX10_table_119 rfl (lv_at hl 0 rfl) ?_
    refine lv_dup hx hb dX10_table_120 rfl ?_
    refine r_get F hP i_X10 0 (me_0 E q16) rfl 7 (by decide) rfl lf_X10_144 rfl dX10_table_121 ?_
    refine lv_iconst (v := 1) hx hb dX10_table_124 (by decide) ?_
    refine lv_iadd hx hb dX10_table_125 ?_
    refine r_put (ty := .int) (q1 := (uF q16 1 ((qF q16 1) + (1 : Int32)))) F hP hD hS i_X10 tyX10_ok nmX10 0 (me_0 E q16) rfl 7 (by decide) rfl lf_X10_144 rfl (by decide +kernel) rfl rfl (Nat.le_of_ble_eq_true rfl) (mf_0_1 E q16 ((qF q16 1) + (1 : Int32))) dX10_table_126 ?_
    intro H locs hP hD hS
    refine lv_aload_n hx hb dX10_table_129 rfl (lv_at hl 0 rfl) ?_
    refine r_get F hP i_X10 0 (me_0 E (uF q16 1 ((qF q16 1) + (1 : Int32)))) rfl 7 (by decide) rfl lf_X10_144 rfl dX10_table_130 ?_
    refine lv_iconst (v := 1) hx hb dX10_table_133 (by decide) ?_
    refine lv_isub hx hb dX10_table_134 ?_
    cases h
    exact hRt _ _ dX10_table_135 _ _ hP hD hS
  · rw [if_pos c13] at h
    refine lv_iconst (v := (-1)) hx hb dX10_table_97 (by decide) ?_
    cases h
    exact hRt _ _ dX10_table_98 _ _ hP hD hS
def f_X10_table_0 (q : QS) (x1 : Int32) (x2 : Int32) : Option (Int32 × QS) :=
  if (qF q 1) = (3 : Int32) then
    some ((-1 : Int32), q)
  else
    (f_X10_in x1 (1 : Int32) (8 : Int32)).bind fun r2 =>
    if r2 = 0 then
      some ((-1 : Int32), q)
    else
      if 0 ≤ x2 then
        f_X10_table_32 (f_X10_table_92) FU q x1 x2 (1 : Int32) (0 : Int32)
      else
        some ((-1 : Int32), q)
set_option maxHeartbeats 4000000 in
set_option maxRecDepth 100000 in
theorem g_X10_table_0 {E : En} {p : Program} {l : Launch} {e : Env} {s : State} {m : MethodId} {args : Array Value} {below : List Frame} {meth : Method} {c : Code} {A : Nat → Prop} {Q : State → Prop} (F : Fx E p s m args meth c (yX10_table).cls cX10_table 6 (some .int)) (hA : ∀ z : Nat, s.heap.size ≤ z → A z) {o : Int32 × QS} (hRt : RtI (wM E) E p l e rm_X10_table s m args below meth c A Q cX10_table o) (q : QS) (x1 : Int32) (x2 : Int32) (h : f_X10_table_0 q x1 x2 = some o) (ls : Array Slot) (hl : lv_has ls 6 [(0, .ref (eA E 0)), (1, .int x1), (2, .int x2)]) : Wq (wM E) E p l e rm_X10_table s m args below meth c A 0 0 Q q (F0 m 0 ls []) := by
  intro H locs hP hD hS
  have hx := F.1
  have hb := F.2.1
  unfold f_X10_table_0 at h
  refine lv_aload_n hx hb dX10_table_0 rfl (lv_at hl 0 rfl) ?_
  refine r_get F hP i_X10 0 (me_0 E q) rfl 7 (by decide) rfl lf_X10_144 rfl dX10_table_1 ?_
  refine lv_iconst (v := 3) hx hb dX10_table_4 (by decide) ?_
  refine lv_icmp_eq (tgt := 22) hx hb dX10_table_5 (by decide) (fun c1 => ?_) (fun c1 => ?_)
  · rw [if_pos c1] at h
    refine lv_iconst (v := (-1)) hx hb dX10_table_22 (by decide) ?_
    cases h
    exact hRt _ _ dX10_table_23 _ _ hP hD hS
  · rw [if_neg c1] at h
    refine lv_iload_n hx hb dX10_table_8 rfl (lv_at hl 1 rfl) ?_
    refine lv_iconst (v := 1) hx hb dX10_table_9 (by decide) ?_
    refine lv_bipush (v := 8) hx hb dX10_table_10 (by decide) ?_
    obtain ⟨r2, e3, h⟩ := Option.bind_eq_some_iff.mp h
    refine q_callS (As := [.int x1, .int (1 : Int32), .int (8 : Int32)]) (rest := []) F hA hP hD hS (c_X10_in (E := E) (l := l) q x1 (1 : Int32) (8 : Int32) e3) k_X10_in st_X10_in lm_X10_169 ⟨rfl, rfl⟩ ⟨by decide, by decide⟩ rfl hl.1 rfl (Nat.le_of_ble_eq_true rfl) dX10_table_12 ⟨by decide, by decide⟩ ?_
    intro H locs hP hD hS
    refine lv_if_eq (tgt := 22) hx hb dX10_table_15 (by decide) (fun c4 => ?_) (fun c4 => ?_)
    · rw [if_pos c4] at h
      refine lv_iconst (v := (-1)) hx hb dX10_table_22 (by decide) ?_
      cases h
      exact hRt _ _ dX10_table_23 _ _ hP hD hS
    · rw [if_neg c4] at h
      refine lv_iload_n hx hb dX10_table_18 rfl (lv_at hl 2 rfl) ?_
      refine lv_if_ge (tgt := 24) hx hb dX10_table_19 (by decide) (fun c5 => ?_) (fun c5 => ?_)
      · rw [if_pos c5] at h
        refine lv_iload_n hx hb dX10_table_24 rfl (lv_at hl 2 rfl) ?_
        refine lv_istore_n (lv' := [(3, .int x2), (0, .ref (eA E 0)), (1, .int x1), (2, .int x2)]) hx hb dX10_table_25 rfl hl (by decide) rfl (fun ls hl => ?_)
        refine lv_iconst (v := 1) hx hb dX10_table_26 (by decide) ?_
        refine lv_istore (lv' := [(4, .int (1 : Int32)), (3, .int x2), (0, .ref (eA E 0)), (1, .int x1), (2, .int x2)]) hx hb dX10_table_27 hl (by decide) rfl (fun ls hl => ?_)
        refine lv_iconst (v := 0) hx hb dX10_table_29 (by decide) ?_
        refine lv_istore (lv' := [(5, .int (0 : Int32)), (4, .int (1 : Int32)), (3, .int x2), (0, .ref (eA E 0)), (1, .int x1), (2, .int x2)]) hx hb dX10_table_30 hl (by decide) rfl (fun ls hl => ?_)
        exact g_X10_table_32 F hA hRt (g_X10_table_92 F hA hRt) FU q x1 x2 (1 : Int32) (0 : Int32) h _ (lv_sub hl [3, 4, 2, 1, 0] rfl) _ _ hP hD hS
      · rw [if_neg c5] at h
        refine lv_iconst (v := (-1)) hx hb dX10_table_22 (by decide) ?_
        cases h
        exact hRt _ _ dX10_table_23 _ _ hP hD hS
def f_X10_table (q : QS) (x1 : Int32) (x2 : Int32) : Option (Int32 × QS) := f_X10_table_0 q x1 x2
set_option maxRecDepth 100000 in
theorem c_X10_table {E : En} {l : Launch} (q : QS) (x1 : Int32) (x2 : Int32) {o : Int32 × QS} (h : f_X10_table q x1 x2 = some o) : Ct (wM E) E l yX10_table (wy yX10_table cX10_table 6 (some .int)) rm_X10_table q o.2 [.ref (eA E 0), .int x1, .int x2] (some (.int o.1)) :=
  ct_I (o := o) (by decide +kernel) rfl (fun p e s m below meth c A Q F hA hRt H locs hP hD hS => en_W [.ref (eA E 0), .int x1, .int x2] (Nat.le_of_ble_eq_true rfl) (fun ls hl => g_X10_table_0 F hA hRt q x1 x2 h ls (lv_sub hl [0, 1, 2] rfl) H locs hP hD hS))
def rm_X10_give : Room := { frames := 0, cells := 0, slots := 0, locals := 0 }
def f_X10_give_0 (q : QS) (x1 : Int32) (x2 : Int32) (x3 : Int64) (x5 : Int32) (x6 : Int32) : Option (Int32 × QS) :=
  (wI (uF q 0 ((qF q 0) + (1 : Int32))) 1 520 (qF (uF q 0 ((qF q 0) + (1 : Int32))) 0) (vp_nar .byte ((x2).toInt8.toInt32))).bind fun q1 =>
  (wL q1 2 520 (qF q1 0) x3).bind fun q3 =>
  (wI q3 3 520 (qF q3 0) (vp_nar .byte ((x5).toInt8.toInt32))).bind fun q5 =>
  (wI q5 4 520 (qF q5 0) (vp_nar .short ((x6).toInt16.toInt32))).bind fun q7 =>
  (rd (qI q7 5) 520 x6).bind fun y9 =>
  (wI q7 5 520 (qF q7 0) (vp_nar .byte (((y9 + x5)).toInt8.toInt32))).bind fun q11 =>
  (wI q11 6 8 x1 (qF q11 0)).bind fun q13 =>
  some ((1 : Int32), q13)
set_option maxHeartbeats 4000000 in
set_option maxRecDepth 100000 in
theorem g_X10_give_0 {E : En} {p : Program} {l : Launch} {e : Env} {s : State} {m : MethodId} {args : Array Value} {below : List Frame} {meth : Method} {c : Code} {A : Nat → Prop} {Q : State → Prop} (F : Fx E p s m args meth c (yX10_give).cls cX10_give 7 (some .boolean)) (hA : ∀ z : Nat, s.heap.size ≤ z → A z) {o : Int32 × QS} (hRt : RtZ (wM E) E p l e rm_X10_give s m args below meth c A Q cX10_give o) (q : QS) (x1 : Int32) (x2 : Int32) (x3 : Int64) (x5 : Int32) (x6 : Int32) (h : f_X10_give_0 q x1 x2 x3 x5 x6 = some o) (ls : Array Slot) (hl : lv_has ls 7 [(0, .ref (eA E 0)), (1, .int x1), (2, .int x2), (3, .long x3), (5, .int x5), (6, .int x6)]) : Wq (wM E) E p l e rm_X10_give s m args below meth c A 0 0 Q q (F0 m 0 ls []) := by
  intro H locs hP hD hS
  have hx := F.1
  have hb := F.2.1
  unfold f_X10_give_0 at h
  refine lv_aload_n hx hb dX10_give_0 rfl (lv_at hl 0 rfl) ?_
  refine lv_dup hx hb dX10_give_1 rfl ?_
  refine r_get F hP i_X10 0 (me_0 E q) rfl 0 (by decide) rfl lf_X10_173 rfl dX10_give_2 ?_
  refine lv_iconst (v := 1) hx hb dX10_give_5 (by decide) ?_
  refine lv_iadd hx hb dX10_give_6 ?_
  refine r_put (ty := .int) (q1 := (uF q 0 ((qF q 0) + (1 : Int32)))) F hP hD hS i_X10 tyX10_ok nmX10 0 (me_0 E q) rfl 0 (by decide) rfl lf_X10_173 rfl (by decide +kernel) rfl rfl (Nat.le_of_ble_eq_true rfl) (mf_0_0 E q ((qF q 0) + (1 : Int32))) dX10_give_7 ?_
  intro H locs hP hD hS
  refine lv_aload_n hx hb dX10_give_10 rfl (lv_at hl 0 rfl) ?_
  refine r_get F hP i_X10 0 (me_0 E (uF q 0 ((qF q 0) + (1 : Int32)))) rfl 1 (by decide) rfl lf_X10_7 rfl dX10_give_11 ?_
  refine lv_aload_n hx hb dX10_give_14 rfl (lv_at hl 0 rfl) ?_
  refine r_get F hP i_X10 0 (me_0 E (uF q 0 ((qF q 0) + (1 : Int32)))) rfl 0 (by decide) rfl lf_X10_173 rfl dX10_give_15 ?_
  refine lv_iload_n hx hb dX10_give_18 rfl (lv_at hl 2 rfl) ?_
  refine lv_i2b (v := ((x2).toInt8.toInt32)) hx hb dX10_give_19 rfl ?_
  obtain ⟨q1, e2, h⟩ := Option.bind_eq_some_iff.mp h
  refine r_bast F hP hD hS 1 (me_1 E (uF q 0 ((qF q 0) + (1 : Int32)))) (ms_1 E (uF q 0 ((qF q 0) + (1 : Int32)))) e2 dX10_give_20 ?_
  intro H locs hP hD hS
  refine lv_aload_n hx hb dX10_give_21 rfl (lv_at hl 0 rfl) ?_
  refine r_get F hP i_X10 0 (me_0 E q1) rfl 2 (by decide) rfl lf_X10_13 rfl dX10_give_22 ?_
  refine lv_aload_n hx hb dX10_give_25 rfl (lv_at hl 0 rfl) ?_
  refine r_get F hP i_X10 0 (me_0 E q1) rfl 0 (by decide) rfl lf_X10_173 rfl dX10_give_26 ?_
  refine lv_lload_n hx hb dX10_give_29 rfl (lv_at hl 3 rfl) ?_
  obtain ⟨q3, e4, h⟩ := Option.bind_eq_some_iff.mp h
  refine r_last F hP hD hS 2 (me_2 E q1) (ms_2 E q1) e4 dX10_give_30 ?_
  intro H locs hP hD hS
  refine lv_aload_n hx hb dX10_give_31 rfl (lv_at hl 0 rfl) ?_
  refine r_get F hP i_X10 0 (me_0 E q3) rfl 3 (by decide) rfl lf_X10_17 rfl dX10_give_32 ?_
  refine lv_aload_n hx hb dX10_give_35 rfl (lv_at hl 0 rfl) ?_
  refine r_get F hP i_X10 0 (me_0 E q3) rfl 0 (by decide) rfl lf_X10_173 rfl dX10_give_36 ?_
  refine lv_iload hx hb dX10_give_39 (lv_at hl 4 rfl) ?_
  refine lv_i2b (v := ((x5).toInt8.toInt32)) hx hb dX10_give_41 rfl ?_
  obtain ⟨q5, e6, h⟩ := Option.bind_eq_some_iff.mp h
  refine r_bast F hP hD hS 3 (me_3 E q3) (ms_3 E q3) e6 dX10_give_42 ?_
  intro H locs hP hD hS
  refine lv_aload_n hx hb dX10_give_43 rfl (lv_at hl 0 rfl) ?_
  refine r_get F hP i_X10 0 (me_0 E q5) rfl 4 (by decide) rfl lf_X10_20 rfl dX10_give_44 ?_
  refine lv_aload_n hx hb dX10_give_47 rfl (lv_at hl 0 rfl) ?_
  refine r_get F hP i_X10 0 (me_0 E q5) rfl 0 (by decide) rfl lf_X10_173 rfl dX10_give_48 ?_
  refine lv_iload hx hb dX10_give_51 (lv_at hl 5 rfl) ?_
  refine lv_i2s (v := ((x6).toInt16.toInt32)) hx hb dX10_give_53 rfl ?_
  obtain ⟨q7, e8, h⟩ := Option.bind_eq_some_iff.mp h
  refine r_sast F hP hD hS 4 (me_4 E q5) (ms_4 E q5) e8 dX10_give_54 ?_
  intro H locs hP hD hS
  refine lv_aload_n hx hb dX10_give_55 rfl (lv_at hl 0 rfl) ?_
  refine r_get F hP i_X10 0 (me_0 E q7) rfl 5 (by decide) rfl lf_X10_24 rfl dX10_give_56 ?_
  refine lv_aload_n hx hb dX10_give_59 rfl (lv_at hl 0 rfl) ?_
  refine r_get F hP i_X10 0 (me_0 E q7) rfl 0 (by decide) rfl lf_X10_173 rfl dX10_give_60 ?_
  refine lv_aload_n hx hb dX10_give_63 rfl (lv_at hl 0 rfl) ?_
  refine r_get F hP i_X10 0 (me_0 E q7) rfl 5 (by decide) rfl lf_X10_24 rfl dX10_give_64 ?_
  refine lv_iload hx hb dX10_give_67 (lv_at hl 5 rfl) ?_
  obtain ⟨y9, e10, h⟩ := Option.bind_eq_some_iff.mp h
  refine r_bald F hP 5 (me_5 E q7) e10 dX10_give_69 ?_
  refine lv_iload hx hb dX10_give_70 (lv_at hl 4 rfl) ?_
  refine lv_iadd hx hb dX10_give_72 ?_
  refine lv_i2b (v := (((y9 + x5)).toInt8.toInt32)) hx hb dX10_give_73 rfl ?_
  obtain ⟨q11, e12, h⟩ := Option.bind_eq_some_iff.mp h
  refine r_bast F hP hD hS 5 (me_5 E q7) (ms_5 E q7) e12 dX10_give_74 ?_
  intro H locs hP hD hS
  refine lv_aload_n hx hb dX10_give_75 rfl (lv_at hl 0 rfl) ?_
  refine r_get F hP i_X10 0 (me_0 E q11) rfl 6 (by decide) rfl lf_X10_27 rfl dX10_give_76 ?_
  refine lv_iload_n hx hb dX10_give_79 rfl (lv_at hl 1 rfl) ?_
  refine lv_aload_n hx hb dX10_give_80 rfl (lv_at hl 0 rfl) ?_
  refine r_get F hP i_X10 0 (me_0 E q11) rfl 0 (by decide) rfl lf_X10_173 rfl dX10_give_81 ?_
  obtain ⟨q13, e14, h⟩ := Option.bind_eq_some_iff.mp h
  refine r_iast F hP hD hS 6 (me_6 E q11) (ms_6 E q11) e14 dX10_give_84 ?_
  intro H locs hP hD hS
  refine lv_iconst (v := 1) hx hb dX10_give_85 (by decide) ?_
  cases h
  exact hRt _ _ zz_1 dX10_give_86 _ _ hP hD hS
def f_X10_give (q : QS) (x1 : Int32) (x2 : Int32) (x3 : Int64) (x5 : Int32) (x6 : Int32) : Option (Int32 × QS) := f_X10_give_0 q x1 x2 x3 x5 x6
set_option maxRecDepth 100000 in
theorem c_X10_give {E : En} {l : Launch} (q : QS) (x1 : Int32) (x2 : Int32) (x3 : Int64) (x5 : Int32) (x6 : Int32) {o : Int32 × QS} (h : f_X10_give q x1 x2 x3 x5 x6 = some o) : Ct (wM E) E l yX10_give (wy yX10_give cX10_give 7 (some .boolean)) rm_X10_give q o.2 [.ref (eA E 0), .int x1, .int x2, .long x3, .int x5, .int x6] (some (.int o.1)) :=
  ct_Z (o := o) (by decide +kernel) (fun p e s m below meth c A Q F hA hRt H locs hP hD hS => en_W [.ref (eA E 0), .int x1, .int x2, .long x3, .int x5, .int x6] (Nat.le_of_ble_eq_true rfl) (fun ls hl => g_X10_give_0 F hA hRt q x1 x2 x3 x5 x6 h ls (lv_sub hl [0, 1, 2, 3, 4, 5] rfl) H locs hP hD hS))
def rm_X10_cell : Room := { frames := 1, cells := 0, slots := 0, locals := 26 }
def f_X10_cell_0 (q : QS) (x1 : Int32) (x2 : Int64) : Option (Int32 × QS) :=
  (f_X10_in x1 (0 : Int32) (7 : Int32)).bind fun r1 =>
  if r1 = 0 then
    some ((0 : Int32), q)
  else
    (f_X10_give q x1 (1 : Int32) x2 (0 : Int32) (0 : Int32)).bind fun r4 =>
    if r4.1 = 0 then
      some ((0 : Int32), r4.2)
    else
      some ((1 : Int32), r4.2)
set_option maxHeartbeats 4000000 in
set_option maxRecDepth 100000 in
theorem g_X10_cell_0 {E : En} {p : Program} {l : Launch} {e : Env} {s : State} {m : MethodId} {args : Array Value} {below : List Frame} {meth : Method} {c : Code} {A : Nat → Prop} {Q : State → Prop} (F : Fx E p s m args meth c (yX10_cell).cls cX10_cell 4 (some .boolean)) (hA : ∀ z : Nat, s.heap.size ≤ z → A z) {o : Int32 × QS} (hRt : RtZ (wM E) E p l e rm_X10_cell s m args below meth c A Q cX10_cell o) (q : QS) (x1 : Int32) (x2 : Int64) (h : f_X10_cell_0 q x1 x2 = some o) (ls : Array Slot) (hl : lv_has ls 4 [(0, .ref (eA E 0)), (1, .int x1), (2, .long x2)]) : Wq (wM E) E p l e rm_X10_cell s m args below meth c A 0 0 Q q (F0 m 0 ls []) := by
  intro H locs hP hD hS
  have hx := F.1
  have hb := F.2.1
  unfold f_X10_cell_0 at h
  refine lv_iload_n hx hb dX10_cell_0 rfl (lv_at hl 1 rfl) ?_
  refine lv_iconst (v := 0) hx hb dX10_cell_1 (by decide) ?_
  refine lv_bipush (v := 7) hx hb dX10_cell_2 (by decide) ?_
  obtain ⟨r1, e2, h⟩ := Option.bind_eq_some_iff.mp h
  refine q_callS (As := [.int x1, .int (0 : Int32), .int (7 : Int32)]) (rest := []) F hA hP hD hS (c_X10_in (E := E) (l := l) q x1 (0 : Int32) (7 : Int32) e2) k_X10_in st_X10_in lm_X10_169 ⟨rfl, rfl⟩ ⟨by decide, by decide⟩ rfl hl.1 rfl (Nat.le_of_ble_eq_true rfl) dX10_cell_4 ⟨by decide, by decide⟩ ?_
  intro H locs hP hD hS
  refine lv_if_eq (tgt := 26) hx hb dX10_cell_7 (by decide) (fun c3 => ?_) (fun c3 => ?_)
  · rw [if_pos c3] at h
    refine lv_iconst (v := 0) hx hb dX10_cell_26 (by decide) ?_
    cases h
    exact hRt _ _ zz_0 dX10_cell_27 _ _ hP hD hS
  · rw [if_neg c3] at h
    refine lv_aload_n hx hb dX10_cell_10 rfl (lv_at hl 0 rfl) ?_
    refine lv_iload_n hx hb dX10_cell_11 rfl (lv_at hl 1 rfl) ?_
    refine lv_iconst (v := 1) hx hb dX10_cell_12 (by decide) ?_
    refine lv_lload_n hx hb dX10_cell_13 rfl (lv_at hl 2 rfl) ?_
    refine lv_iconst (v := 0) hx hb dX10_cell_14 (by decide) ?_
    refine lv_iconst (v := 0) hx hb dX10_cell_15 (by decide) ?_
    obtain ⟨r4, e5, h⟩ := Option.bind_eq_some_iff.mp h
    refine q_callV (As := [.int x1, .int (1 : Int32), .long x2, .int (0 : Int32), .int (0 : Int32)]) (rest := []) F hA hP hD hS (c_X10_give (E := E) (l := l) q x1 (1 : Int32) x2 (0 : Int32) (0 : Int32) e5) k_X10_give in_X10_give se_X10_give lm_X10_176 0 (me_0 E q) rfl ⟨rfl, rfl⟩ ⟨by decide, by decide⟩ rfl hl.1 rfl (Nat.le_of_ble_eq_true rfl) dX10_cell_16 ⟨by decide, by decide⟩ ?_
    intro H locs hP hD hS
    refine lv_if_eq (tgt := 26) hx hb dX10_cell_19 (by decide) (fun c6 => ?_) (fun c6 => ?_)
    · rw [if_pos c6] at h
      refine lv_iconst (v := 0) hx hb dX10_cell_26 (by decide) ?_
      cases h
      exact hRt _ _ zz_0 dX10_cell_27 _ _ hP hD hS
    · rw [if_neg c6] at h
      refine lv_iconst (v := 1) hx hb dX10_cell_22 (by decide) ?_
      refine lv_goto (tgt := 27) hx hb dX10_cell_23 (by decide) ?_
      cases h
      exact hRt _ _ zz_1 dX10_cell_27 _ _ hP hD hS
def f_X10_cell (q : QS) (x1 : Int32) (x2 : Int64) : Option (Int32 × QS) := f_X10_cell_0 q x1 x2
set_option maxRecDepth 100000 in
theorem c_X10_cell {E : En} {l : Launch} (q : QS) (x1 : Int32) (x2 : Int64) {o : Int32 × QS} (h : f_X10_cell q x1 x2 = some o) : Ct (wM E) E l yX10_cell (wy yX10_cell cX10_cell 4 (some .boolean)) rm_X10_cell q o.2 [.ref (eA E 0), .int x1, .long x2] (some (.int o.1)) :=
  ct_Z (o := o) (by decide +kernel) (fun p e s m below meth c A Q F hA hRt H locs hP hD hS => en_W [.ref (eA E 0), .int x1, .long x2] (Nat.le_of_ble_eq_true rfl) (fun ls hl => g_X10_cell_0 F hA hRt q x1 x2 h ls (lv_sub hl [0, 1, 2] rfl) H locs hP hD hS))
def rm_X10_truth : Room := { frames := 1, cells := 0, slots := 0, locals := 26 }
def f_X10_truth_0 (q : QS) (x1 : Int32) (x2 : Int32) : Option (Int32 × QS) :=
  (f_X10_in x1 (0 : Int32) (7 : Int32)).bind fun r1 =>
  if r1 = 0 then
    some ((0 : Int32), q)
  else
    if x2 = 0 then
      (f_X10_give q x1 (3 : Int32) (0 : Int64) (0 : Int32) (0 : Int32)).bind fun r5 =>
      if r5.1 = 0 then
        some ((0 : Int32), r5.2)
      else
        some ((1 : Int32), r5.2)
    else
      (f_X10_give q x1 (3 : Int32) (1 : Int64) (0 : Int32) (0 : Int32)).bind fun r8 =>
      if r8.1 = 0 then
        some ((0 : Int32), r8.2)
      else
        some ((1 : Int32), r8.2)
set_option maxHeartbeats 4000000 in
set_option maxRecDepth 100000 in
theorem g_X10_truth_0 {E : En} {p : Program} {l : Launch} {e : Env} {s : State} {m : MethodId} {args : Array Value} {below : List Frame} {meth : Method} {c : Code} {A : Nat → Prop} {Q : State → Prop} (F : Fx E p s m args meth c (yX10_truth).cls cX10_truth 3 (some .boolean)) (hA : ∀ z : Nat, s.heap.size ≤ z → A z) {o : Int32 × QS} (hRt : RtZ (wM E) E p l e rm_X10_truth s m args below meth c A Q cX10_truth o) (q : QS) (x1 : Int32) (x2 : Int32) (h : f_X10_truth_0 q x1 x2 = some o) (ls : Array Slot) (hl : lv_has ls 3 [(0, .ref (eA E 0)), (1, .int x1), (2, .int x2)]) : Wq (wM E) E p l e rm_X10_truth s m args below meth c A 0 0 Q q (F0 m 0 ls []) := by
  intro H locs hP hD hS
  have hx := F.1
  have hb := F.2.1
  unfold f_X10_truth_0 at h
  refine lv_iload_n hx hb dX10_truth_0 rfl (lv_at hl 1 rfl) ?_
  refine lv_iconst (v := 0) hx hb dX10_truth_1 (by decide) ?_
  refine lv_bipush (v := 7) hx hb dX10_truth_2 (by decide) ?_
  obtain ⟨r1, e2, h⟩ := Option.bind_eq_some_iff.mp h
  refine q_callS (As := [.int x1, .int (0 : Int32), .int (7 : Int32)]) (rest := []) F hA hP hD hS (c_X10_in (E := E) (l := l) q x1 (0 : Int32) (7 : Int32) e2) k_X10_in st_X10_in lm_X10_169 ⟨rfl, rfl⟩ ⟨by decide, by decide⟩ rfl hl.1 rfl (Nat.le_of_ble_eq_true rfl) dX10_truth_4 ⟨by decide, by decide⟩ ?_
  intro H locs hP hD hS
  refine lv_if_eq (tgt := 34) hx hb dX10_truth_7 (by decide) (fun c3 => ?_) (fun c3 => ?_)
  · rw [if_pos c3] at h
    refine lv_iconst (v := 0) hx hb dX10_truth_34 (by decide) ?_
    cases h
    exact hRt _ _ zz_0 dX10_truth_35 _ _ hP hD hS
  · rw [if_neg c3] at h
    refine lv_aload_n hx hb dX10_truth_10 rfl (lv_at hl 0 rfl) ?_
    refine lv_iload_n hx hb dX10_truth_11 rfl (lv_at hl 1 rfl) ?_
    refine lv_iconst (v := 3) hx hb dX10_truth_12 (by decide) ?_
    refine lv_iload_n hx hb dX10_truth_13 rfl (lv_at hl 2 rfl) ?_
    refine lv_if_eq (tgt := 21) hx hb dX10_truth_14 (by decide) (fun c4 => ?_) (fun c4 => ?_)
    · rw [if_pos c4] at h
      refine lv_lconst (v := 0) hx hb dX10_truth_21 (by decide) ?_
      refine lv_iconst (v := 0) hx hb dX10_truth_22 (by decide) ?_
      refine lv_iconst (v := 0) hx hb dX10_truth_23 (by decide) ?_
      obtain ⟨r5, e6, h⟩ := Option.bind_eq_some_iff.mp h
      refine q_callV (As := [.int x1, .int (3 : Int32), .long (0 : Int64), .int (0 : Int32), .int (0 : Int32)]) (rest := []) F hA hP hD hS (c_X10_give (E := E) (l := l) q x1 (3 : Int32) (0 : Int64) (0 : Int32) (0 : Int32) e6) k_X10_give in_X10_give se_X10_give lm_X10_176 0 (me_0 E q) rfl ⟨rfl, rfl⟩ ⟨by decide, by decide⟩ rfl hl.1 rfl (Nat.le_of_ble_eq_true rfl) dX10_truth_24 ⟨by decide, by decide⟩ ?_
      intro H locs hP hD hS
      refine lv_if_eq (tgt := 34) hx hb dX10_truth_27 (by decide) (fun c7 => ?_) (fun c7 => ?_)
      · rw [if_pos c7] at h
        refine lv_iconst (v := 0) hx hb dX10_truth_34 (by decide) ?_
        cases h
        exact hRt _ _ zz_0 dX10_truth_35 _ _ hP hD hS
      · rw [if_neg c7] at h
        refine lv_iconst (v := 1) hx hb dX10_truth_30 (by decide) ?_
        refine lv_goto (tgt := 35) hx hb dX10_truth_31 (by decide) ?_
        cases h
        exact hRt _ _ zz_1 dX10_truth_35 _ _ hP hD hS
    · rw [if_neg c4] at h
      refine lv_lconst (v := 1) hx hb dX10_truth_17 (by decide) ?_
      refine lv_goto (tgt := 22) hx hb dX10_truth_18 (by decide) ?_
      refine lv_iconst (v := 0) hx hb dX10_truth_22 (by decide) ?_
      refine lv_iconst (v := 0) hx hb dX10_truth_23 (by decide) ?_
      obtain ⟨r8, e9, h⟩ := Option.bind_eq_some_iff.mp h
      refine q_callV (As := [.int x1, .int (3 : Int32), .long (1 : Int64), .int (0 : Int32), .int (0 : Int32)]) (rest := []) F hA hP hD hS (c_X10_give (E := E) (l := l) q x1 (3 : Int32) (1 : Int64) (0 : Int32) (0 : Int32) e9) k_X10_give in_X10_give se_X10_give lm_X10_176 0 (me_0 E q) rfl ⟨rfl, rfl⟩ ⟨by decide, by decide⟩ rfl hl.1 rfl (Nat.le_of_ble_eq_true rfl) dX10_truth_24 ⟨by decide, by decide⟩ ?_
      intro H locs hP hD hS
      refine lv_if_eq (tgt := 34) hx hb dX10_truth_27 (by decide) (fun c10 => ?_) (fun c10 => ?_)
      · rw [if_pos c10] at h
        refine lv_iconst (v := 0) hx hb dX10_truth_34 (by decide) ?_
        cases h
        exact hRt _ _ zz_0 dX10_truth_35 _ _ hP hD hS
      · rw [if_neg c10] at h
        refine lv_iconst (v := 1) hx hb dX10_truth_30 (by decide) ?_
        refine lv_goto (tgt := 35) hx hb dX10_truth_31 (by decide) ?_
        cases h
        exact hRt _ _ zz_1 dX10_truth_35 _ _ hP hD hS
def f_X10_truth (q : QS) (x1 : Int32) (x2 : Int32) : Option (Int32 × QS) := f_X10_truth_0 q x1 x2
set_option maxRecDepth 100000 in
theorem c_X10_truth {E : En} {l : Launch} (q : QS) (x1 : Int32) (x2 : Int32) {o : Int32 × QS} (h : f_X10_truth q x1 x2 = some o) : Ct (wM E) E l yX10_truth (wy yX10_truth cX10_truth 3 (some .boolean)) rm_X10_truth q o.2 [.ref (eA E 0), .int x1, .int x2] (some (.int o.1)) :=
  ct_Z (o := o) (by decide +kernel) (fun p e s m below meth c A Q F hA hRt H locs hP hD hS => en_W [.ref (eA E 0), .int x1, .int x2] (Nat.le_of_ble_eq_true rfl) (fun ls hl => g_X10_truth_0 F hA hRt q x1 x2 h ls (lv_sub hl [0, 1, 2] rfl) H locs hP hD hS))
def rm_X10_text : Room := { frames := 1, cells := 0, slots := 0, locals := 26 }
def f_X10_text_35 (q : QS) (x1 : Int32) (x2 : Int64) (x4 : Int32) (t0 : Int32) : Option (Int32 × QS) :=
  (f_X10_in x1 (0 : Int32) (7 : Int32)).bind fun r4 =>
  if r4 = 0 then
    some ((0 : Int32), q)
  else
    (f_X10_in x4 (0 : Int32) (8 : Int32)).bind fun r7 =>
    if r7 = 0 then
      some ((0 : Int32), q)
    else
      (rd (qI q 5) 520 t0).bind fun y10 =>
      if (31 : Int32) < (y10 + x4) then
        some ((0 : Int32), q)
      else
        (f_X10_give q x1 (2 : Int32) x2 x4 t0).bind fun r13 =>
        if r13.1 = 0 then
          some ((0 : Int32), r13.2)
        else
          some ((1 : Int32), r13.2)
set_option maxHeartbeats 4000000 in
set_option maxRecDepth 100000 in
theorem g_X10_text_35 {E : En} {p : Program} {l : Launch} {e : Env} {s : State} {m : MethodId} {args : Array Value} {below : List Frame} {meth : Method} {c : Code} {A : Nat → Prop} {Q : State → Prop} (F : Fx E p s m args meth c (yX10_text).cls cX10_text 6 (some .boolean)) (hA : ∀ z : Nat, s.heap.size ≤ z → A z) {o : Int32 × QS} (hRt : RtZ (wM E) E p l e rm_X10_text s m args below meth c A Q cX10_text o) (q : QS) (x1 : Int32) (x2 : Int64) (x4 : Int32) (t0 : Int32) (h : f_X10_text_35 q x1 x2 x4 t0 = some o) (ls : Array Slot) (hl : lv_has ls 6 [(0, .ref (eA E 0)), (1, .int x1), (2, .long x2), (4, .int x4)]) : Wq (wM E) E p l e rm_X10_text s m args below meth c A 0 0 Q q (F0 m 35 ls [.int t0]) := by
  intro H locs hP hD hS
  have hx := F.1
  have hb := F.2.1
  unfold f_X10_text_35 at h
  refine lv_istore (lv' := [(5, .int t0), (0, .ref (eA E 0)), (1, .int x1), (2, .long x2), (4, .int x4)]) hx hb dX10_text_35 hl (by decide) rfl (fun ls hl => ?_)
  refine lv_iload_n hx hb dX10_text_37 rfl (lv_at hl 2 rfl) ?_
  refine lv_iconst (v := 0) hx hb dX10_text_38 (by decide) ?_
  refine lv_bipush (v := 7) hx hb dX10_text_39 (by decide) ?_
  obtain ⟨r4, e5, h⟩ := Option.bind_eq_some_iff.mp h
  refine q_callS (As := [.int x1, .int (0 : Int32), .int (7 : Int32)]) (rest := []) F hA hP hD hS (c_X10_in (E := E) (l := l) q x1 (0 : Int32) (7 : Int32) e5) k_X10_in st_X10_in lm_X10_169 ⟨rfl, rfl⟩ ⟨by decide, by decide⟩ rfl hl.1 rfl (Nat.le_of_ble_eq_true rfl) dX10_text_41 ⟨by decide, by decide⟩ ?_
  intro H locs hP hD hS
  refine lv_if_eq (tgt := 91) hx hb dX10_text_44 (by decide) (fun c6 => ?_) (fun c6 => ?_)
  · rw [if_pos c6] at h
    refine lv_iconst (v := 0) hx hb dX10_text_91 (by decide) ?_
    cases h
    exact hRt _ _ zz_0 dX10_text_92 _ _ hP hD hS
  · rw [if_neg c6] at h
    refine lv_iload hx hb dX10_text_47 (lv_at hl 4 rfl) ?_
    refine lv_iconst (v := 0) hx hb dX10_text_49 (by decide) ?_
    refine lv_bipush (v := 8) hx hb dX10_text_50 (by decide) ?_
    obtain ⟨r7, e8, h⟩ := Option.bind_eq_some_iff.mp h
    refine q_callS (As := [.int x4, .int (0 : Int32), .int (8 : Int32)]) (rest := []) F hA hP hD hS (c_X10_in (E := E) (l := l) q x4 (0 : Int32) (8 : Int32) e8) k_X10_in st_X10_in lm_X10_169 ⟨rfl, rfl⟩ ⟨by decide, by decide⟩ rfl hl.1 rfl (Nat.le_of_ble_eq_true rfl) dX10_text_52 ⟨by decide, by decide⟩ ?_
    intro H locs hP hD hS
    refine lv_if_eq (tgt := 91) hx hb dX10_text_55 (by decide) (fun c9 => ?_) (fun c9 => ?_)
    · rw [if_pos c9] at h
      refine lv_iconst (v := 0) hx hb dX10_text_91 (by decide) ?_
      cases h
      exact hRt _ _ zz_0 dX10_text_92 _ _ hP hD hS
    · rw [if_neg c9] at h
      refine lv_aload_n hx hb dX10_text_58 rfl (lv_at hl 1 rfl) ?_
      refine r_get F hP i_X10 0 (me_0 E q) rfl 5 (by decide) rfl lf_X10_24 rfl dX10_text_59 ?_
      refine lv_iload hx hb dX10_text_62 (lv_at hl 0 rfl) ?_
      obtain ⟨y10, e11, h⟩ := Option.bind_eq_some_iff.mp h
      refine r_bald F hP 5 (me_5 E q) e11 dX10_text_64 ?_
      refine lv_iload hx hb dX10_text_65 (lv_at hl 4 rfl) ?_
      refine lv_iadd hx hb dX10_text_67 ?_
      refine lv_bipush (v := 31) hx hb dX10_text_68 (by decide) ?_
      refine lv_icmp_gt (tgt := 91) hx hb dX10_text_70 (by decide) (fun c12 => ?_) (fun c12 => ?_)
      · rw [if_pos c12] at h
        refine lv_iconst (v := 0) hx hb dX10_text_91 (by decide) ?_
        cases h
        exact hRt _ _ zz_0 dX10_text_92 _ _ hP hD hS
      · rw [if_neg c12] at h
        refine lv_aload_n hx hb dX10_text_73 rfl (lv_at hl 1 rfl) ?_
        refine lv_iload_n hx hb dX10_text_74 rfl (lv_at hl 2 rfl) ?_
        refine lv_iconst (v := 2) hx hb dX10_text_75 (by decide) ?_
        refine lv_lload_n hx hb dX10_text_76 rfl (lv_at hl 3 rfl) ?_
        refine lv_iload hx hb dX10_text_77 (lv_at hl 4 rfl) ?_
        refine lv_iload hx hb dX10_text_79 (lv_at hl 0 rfl) ?_
        obtain ⟨r13, e14, h⟩ := Option.bind_eq_some_iff.mp h
        refine q_callV (As := [.int x1, .int (2 : Int32), .long x2, .int x4, .int t0]) (rest := []) F hA hP hD hS (c_X10_give (E := E) (l := l) q x1 (2 : Int32) x2 x4 t0 e14) k_X10_give in_X10_give se_X10_give lm_X10_176 0 (me_0 E q) rfl ⟨rfl, rfl⟩ ⟨by decide, by decide⟩ rfl hl.1 rfl (Nat.le_of_ble_eq_true rfl) dX10_text_81 ⟨by decide, by decide⟩ ?_
        intro H locs hP hD hS
        refine lv_if_eq (tgt := 91) hx hb dX10_text_84 (by decide) (fun c15 => ?_) (fun c15 => ?_)
        · rw [if_pos c15] at h
          refine lv_iconst (v := 0) hx hb dX10_text_91 (by decide) ?_
          cases h
          exact hRt _ _ zz_0 dX10_text_92 _ _ hP hD hS
        · rw [if_neg c15] at h
          refine lv_iconst (v := 1) hx hb dX10_text_87 (by decide) ?_
          refine lv_goto (tgt := 92) hx hb dX10_text_88 (by decide) ?_
          cases h
          exact hRt _ _ zz_1 dX10_text_92 _ _ hP hD hS
def f_X10_text_34 (q : QS) (x1 : Int32) (x2 : Int64) (x4 : Int32) : Option (Int32 × QS) :=
  f_X10_text_35 q x1 x2 x4 (0 : Int32)
set_option maxHeartbeats 4000000 in
set_option maxRecDepth 100000 in
theorem g_X10_text_34 {E : En} {p : Program} {l : Launch} {e : Env} {s : State} {m : MethodId} {args : Array Value} {below : List Frame} {meth : Method} {c : Code} {A : Nat → Prop} {Q : State → Prop} (F : Fx E p s m args meth c (yX10_text).cls cX10_text 6 (some .boolean)) (hA : ∀ z : Nat, s.heap.size ≤ z → A z) {o : Int32 × QS} (hRt : RtZ (wM E) E p l e rm_X10_text s m args below meth c A Q cX10_text o) (q : QS) (x1 : Int32) (x2 : Int64) (x4 : Int32) (h : f_X10_text_34 q x1 x2 x4 = some o) (ls : Array Slot) (hl : lv_has ls 6 [(0, .ref (eA E 0)), (1, .int x1), (2, .long x2), (4, .int x4)]) : Wq (wM E) E p l e rm_X10_text s m args below meth c A 0 0 Q q (F0 m 34 ls []) := by
  intro H locs hP hD hS
  have hx := F.1
  have hb := F.2.1
  unfold f_X10_text_34 at h
  refine lv_iconst (v := 0) hx hb dX10_text_34 (by decide) ?_
  exact g_X10_text_35 F hA hRt q x1 x2 x4 (0 : Int32) h _ (lv_sub hl [0, 1, 2, 3] rfl) _ _ hP hD hS
def f_X10_text_0 (q : QS) (x1 : Int32) (x2 : Int64) (x4 : Int32) : Option (Int32 × QS) :=
  (f_X10_in x1 (0 : Int32) (7 : Int32)).bind fun r1 =>
  if r1 = 0 then
    f_X10_text_34 q x1 x2 x4
  else
    (rd (qI q 6) 8 x1).bind fun y16 =>
    (rd (qI q 1) 520 y16).bind fun y18 =>
    if y18 = (2 : Int32) then
      (rd (qI q 6) 8 x1).bind fun y21 =>
      f_X10_text_35 q x1 x2 x4 y21
    else
      f_X10_text_34 q x1 x2 x4
set_option maxHeartbeats 4000000 in
set_option maxRecDepth 100000 in
theorem g_X10_text_0 {E : En} {p : Program} {l : Launch} {e : Env} {s : State} {m : MethodId} {args : Array Value} {below : List Frame} {meth : Method} {c : Code} {A : Nat → Prop} {Q : State → Prop} (F : Fx E p s m args meth c (yX10_text).cls cX10_text 6 (some .boolean)) (hA : ∀ z : Nat, s.heap.size ≤ z → A z) {o : Int32 × QS} (hRt : RtZ (wM E) E p l e rm_X10_text s m args below meth c A Q cX10_text o) (q : QS) (x1 : Int32) (x2 : Int64) (x4 : Int32) (h : f_X10_text_0 q x1 x2 x4 = some o) (ls : Array Slot) (hl : lv_has ls 6 [(0, .ref (eA E 0)), (1, .int x1), (2, .long x2), (4, .int x4)]) : Wq (wM E) E p l e rm_X10_text s m args below meth c A 0 0 Q q (F0 m 0 ls []) := by
  intro H locs hP hD hS
  have hx := F.1
  have hb := F.2.1
  unfold f_X10_text_0 at h
  refine lv_iload_n hx hb dX10_text_0 rfl (lv_at hl 1 rfl) ?_
  refine lv_iconst (v := 0) hx hb dX10_text_1 (by decide) ?_
  refine lv_bipush (v := 7) hx hb dX10_text_2 (by decide) ?_
  obtain ⟨r1, e2, h⟩ := Option.bind_eq_some_iff.mp h
  refine q_callS (As := [.int x1, .int (0 : Int32), .int (7 : Int32)]) (rest := []) F hA hP hD hS (c_X10_in (E := E) (l := l) q x1 (0 : Int32) (7 : Int32) e2) k_X10_in st_X10_in lm_X10_169 ⟨rfl, rfl⟩ ⟨by decide, by decide⟩ rfl hl.1 rfl (Nat.le_of_ble_eq_true rfl) dX10_text_4 ⟨by decide, by decide⟩ ?_
  intro H locs hP hD hS
  refine lv_if_eq (tgt := 34) hx hb dX10_text_7 (by decide) (fun c3 => ?_) (fun c3 => ?_)
  · rw [if_pos c3] at h
    exact g_X10_text_34 F hA hRt q x1 x2 x4 h _ (lv_sub hl [0, 1, 2, 3] rfl) _ _ hP hD hS
  · rw [if_neg c3] at h
    refine lv_aload_n hx hb dX10_text_10 rfl (lv_at hl 0 rfl) ?_
    refine r_get F hP i_X10 0 (me_0 E q) rfl 1 (by decide) rfl lf_X10_7 rfl dX10_text_11 ?_
    refine lv_aload_n hx hb dX10_text_14 rfl (lv_at hl 0 rfl) ?_
    refine r_get F hP i_X10 0 (me_0 E q) rfl 6 (by decide) rfl lf_X10_27 rfl dX10_text_15 ?_
    refine lv_iload_n hx hb dX10_text_18 rfl (lv_at hl 1 rfl) ?_
    obtain ⟨y16, e17, h⟩ := Option.bind_eq_some_iff.mp h
    refine r_iald F hP 6 (me_6 E q) e17 dX10_text_19 ?_
    obtain ⟨y18, e19, h⟩ := Option.bind_eq_some_iff.mp h
    refine r_bald F hP 1 (me_1 E q) e19 dX10_text_20 ?_
    refine lv_iconst (v := 2) hx hb dX10_text_21 (by decide) ?_
    refine lv_icmp_ne (tgt := 34) hx hb dX10_text_22 (by decide) (fun c20 => ?_) (fun c20 => ?_)
    · rw [if_neg c20] at h
      exact g_X10_text_34 F hA hRt q x1 x2 x4 h _ (lv_sub hl [0, 1, 2, 3] rfl) _ _ hP hD hS
    · rw [if_pos c20] at h
      refine lv_aload_n hx hb dX10_text_25 rfl (lv_at hl 0 rfl) ?_
      refine r_get F hP i_X10 0 (me_0 E q) rfl 6 (by decide) rfl lf_X10_27 rfl dX10_text_26 ?_
      refine lv_iload_n hx hb dX10_text_29 rfl (lv_at hl 1 rfl) ?_
      obtain ⟨y21, e22, h⟩ := Option.bind_eq_some_iff.mp h
      refine r_iald F hP 6 (me_6 E q) e22 dX10_text_30 ?_
      refine lv_goto (tgt := 35) hx hb dX10_text_31 (by decide) ?_
      exact g_X10_text_35 F hA hRt q x1 x2 x4 y21 h _ (lv_sub hl [0, 1, 2, 3] rfl) _ _ hP hD hS
def f_X10_text (q : QS) (x1 : Int32) (x2 : Int64) (x4 : Int32) : Option (Int32 × QS) := f_X10_text_0 q x1 x2 x4
set_option maxRecDepth 100000 in
theorem c_X10_text {E : En} {l : Launch} (q : QS) (x1 : Int32) (x2 : Int64) (x4 : Int32) {o : Int32 × QS} (h : f_X10_text q x1 x2 x4 = some o) : Ct (wM E) E l yX10_text (wy yX10_text cX10_text 6 (some .boolean)) rm_X10_text q o.2 [.ref (eA E 0), .int x1, .long x2, .int x4] (some (.int o.1)) :=
  ct_Z (o := o) (by decide +kernel) (fun p e s m below meth c A Q F hA hRt H locs hP hD hS => en_W [.ref (eA E 0), .int x1, .long x2, .int x4] (Nat.le_of_ble_eq_true rfl) (fun ls hl => g_X10_text_0 F hA hRt q x1 x2 x4 h ls (lv_sub hl [0, 1, 2, 3] rfl) H locs hP hD hS))
def rm_X10_add : Room := { frames := 1, cells := 0, slots := 0, locals := 22 }
def f_X10_add_86 (B33 : QS → Int32 → Int32 → Int32 → Option (Int32 × QS)) (q : QS) (x1 : Int32) (x3 : Int32) (t0 : Int32) : Option (Int32 × QS) :=
  B33 q x1 t0 (x3 + (1 : Int32))
set_option maxHeartbeats 4000000 in
set_option maxRecDepth 100000 in
theorem g_X10_add_86 {E : En} {p : Program} {l : Launch} {e : Env} {s : State} {m : MethodId} {args : Array Value} {below : List Frame} {meth : Method} {c : Code} {A : Nat → Prop} {Q : State → Prop} (F : Fx E p s m args meth c (yX10_add).cls cX10_add 4 (some .int)) (hA : ∀ z : Nat, s.heap.size ≤ z → A z) {o : Int32 × QS} (hRt : RtI (wM E) E p l e rm_X10_add s m args below meth c A Q cX10_add o) {B33 : QS → Int32 → Int32 → Int32 → Option (Int32 × QS)} (hB33 : ∀ (q : QS) (x1 : Int32) (x2 : Int32) (x3 : Int32), B33 q x1 x2 x3 = some o → ∀ ls : Array Slot, lv_has ls 4 [(0, .ref (eA E 0)), (1, .int x1), (2, .int x2), (3, .int x3)] → Wq (wM E) E p l e rm_X10_add s m args below meth c A 0 0 Q q (F0 m 33 ls [])) (q : QS) (x1 : Int32) (x3 : Int32) (t0 : Int32) (h : f_X10_add_86 B33 q x1 x3 t0 = some o) (ls : Array Slot) (hl : lv_has ls 4 [(0, .ref (eA E 0)), (1, .int x1), (3, .int x3)]) : Wq (wM E) E p l e rm_X10_add s m args below meth c A 0 0 Q q (F0 m 86 ls [.int t0]) := by
  intro H locs hP hD hS
  have hx := F.1
  have hb := F.2.1
  unfold f_X10_add_86 at h
  refine lv_istore_n (lv' := [(2, .int t0), (0, .ref (eA E 0)), (1, .int x1), (3, .int x3)]) hx hb dX10_add_86 rfl hl (by decide) rfl (fun ls hl => ?_)
  refine lv_iinc (v := (x3 + (1 : Int32))) (lv' := [(3, .int (x3 + (1 : Int32))), (2, .int t0), (0, .ref (eA E 0)), (1, .int x1)]) hx hb dX10_add_87 hl (k := 3) rfl rfl (by decide) rfl (fun ls hl => ?_)
  refine lv_goto (tgt := 33) hx hb dX10_add_90 (by decide) ?_
  exact hB33 q x1 t0 (x3 + (1 : Int32)) h _ (lv_sub hl [2, 3, 1, 0] rfl) _ _ hP hD hS
def f_X10_add_81 (B33 : QS → Int32 → Int32 → Int32 → Option (Int32 × QS)) (q : QS) (x1 : Int32) (x3 : Int32) : Option (Int32 × QS) :=
  f_X10_add_86 B33 q x1 x3 (1 : Int32)
set_option maxHeartbeats 4000000 in
set_option maxRecDepth 100000 in
theorem g_X10_add_81 {E : En} {p : Program} {l : Launch} {e : Env} {s : State} {m : MethodId} {args : Array Value} {below : List Frame} {meth : Method} {c : Code} {A : Nat → Prop} {Q : State → Prop} (F : Fx E p s m args meth c (yX10_add).cls cX10_add 4 (some .int)) (hA : ∀ z : Nat, s.heap.size ≤ z → A z) {o : Int32 × QS} (hRt : RtI (wM E) E p l e rm_X10_add s m args below meth c A Q cX10_add o) {B33 : QS → Int32 → Int32 → Int32 → Option (Int32 × QS)} (hB33 : ∀ (q : QS) (x1 : Int32) (x2 : Int32) (x3 : Int32), B33 q x1 x2 x3 = some o → ∀ ls : Array Slot, lv_has ls 4 [(0, .ref (eA E 0)), (1, .int x1), (2, .int x2), (3, .int x3)] → Wq (wM E) E p l e rm_X10_add s m args below meth c A 0 0 Q q (F0 m 33 ls [])) (q : QS) (x1 : Int32) (x3 : Int32) (h : f_X10_add_81 B33 q x1 x3 = some o) (ls : Array Slot) (hl : lv_has ls 4 [(0, .ref (eA E 0)), (1, .int x1), (3, .int x3)]) : Wq (wM E) E p l e rm_X10_add s m args below meth c A 0 0 Q q (F0 m 81 ls []) := by
  intro H locs hP hD hS
  have hx := F.1
  have hb := F.2.1
  unfold f_X10_add_81 at h
  refine lv_iconst (v := 1) hx hb dX10_add_81 (by decide) ?_
  refine lv_goto (tgt := 86) hx hb dX10_add_82 (by decide) ?_
  exact g_X10_add_86 F hA hRt hB33 q x1 x3 (1 : Int32) h _ (lv_sub hl [0, 1, 2] rfl) _ _ hP hD hS
def f_X10_add_33_b (K93 : QS → Int32 → Int32 → Option (Int32 × QS)) (B33 : QS → Int32 → Int32 → Int32 → Option (Int32 × QS)) (q : QS) (x1 : Int32) (x2 : Int32) (x3 : Int32) : Option (Int32 × QS) :=
  if x2 = 0 then
    K93 q x1 x2
  else
    (rd (qI q 7) 3 x1).bind fun y5 =>
    if y5 ≤ x3 then
      K93 q x1 x2
    else
      (rd (qI q 6) 8 x3).bind fun y8 =>
      if y8 = 0 then
        f_X10_add_81 B33 q x1 x3
      else
        (rd (qI q 6) 8 x3).bind fun y11 =>
        (rd (qI q 1) 520 y11).bind fun y13 =>
        (rd (qI q 8) 24 (((8 : Int32) * x1) + x3)).bind fun y15 =>
        if y13 = y15 then
          f_X10_add_81 B33 q x1 x3
        else
          f_X10_add_86 B33 q x1 x3 (0 : Int32)
set_option maxHeartbeats 4000000 in
set_option maxRecDepth 100000 in
theorem g_X10_add_33_b {E : En} {p : Program} {l : Launch} {e : Env} {s : State} {m : MethodId} {args : Array Value} {below : List Frame} {meth : Method} {c : Code} {A : Nat → Prop} {Q : State → Prop} (F : Fx E p s m args meth c (yX10_add).cls cX10_add 4 (some .int)) (hA : ∀ z : Nat, s.heap.size ≤ z → A z) {o : Int32 × QS} (hRt : RtI (wM E) E p l e rm_X10_add s m args below meth c A Q cX10_add o) {K93 : QS → Int32 → Int32 → Option (Int32 × QS)} {B33 : QS → Int32 → Int32 → Int32 → Option (Int32 × QS)} (hK93 : ∀ (q : QS) (x1 : Int32) (x2 : Int32), K93 q x1 x2 = some o → ∀ ls : Array Slot, lv_has ls 4 [(0, .ref (eA E 0)), (1, .int x1), (2, .int x2)] → Wq (wM E) E p l e rm_X10_add s m args below meth c A 0 0 Q q (F0 m 93 ls [])) (hB33 : ∀ (q : QS) (x1 : Int32) (x2 : Int32) (x3 : Int32), B33 q x1 x2 x3 = some o → ∀ ls : Array Slot, lv_has ls 4 [(0, .ref (eA E 0)), (1, .int x1), (2, .int x2), (3, .int x3)] → Wq (wM E) E p l e rm_X10_add s m args below meth c A 0 0 Q q (F0 m 33 ls [])) (q : QS) (x1 : Int32) (x2 : Int32) (x3 : Int32) (h : f_X10_add_33_b K93 B33 q x1 x2 x3 = some o) (ls : Array Slot) (hl : lv_has ls 4 [(0, .ref (eA E 0)), (1, .int x1), (2, .int x2), (3, .int x3)]) : Wq (wM E) E p l e rm_X10_add s m args below meth c A 0 0 Q q (F0 m 33 ls []) := by
  intro H locs hP hD hS
  have hx := F.1
  have hb := F.2.1
  unfold f_X10_add_33_b at h
  refine lv_iload_n hx hb dX10_add_33 rfl (lv_at hl 2 rfl) ?_
  refine lv_if_eq (tgt := 93) hx hb dX10_add_34 (by decide) (fun c4 => ?_) (fun c4 => ?_)
  · rw [if_pos c4] at h
    exact hK93 q x1 x2 h _ (lv_sub hl [0, 1, 2] rfl) _ _ hP hD hS
  · rw [if_neg c4] at h
    refine lv_iload_n hx hb dX10_add_37 rfl (lv_at hl 3 rfl) ?_
    refine lv_aload_n hx hb dX10_add_38 rfl (lv_at hl 0 rfl) ?_
    refine r_get F hP i_X10 0 (me_0 E q) rfl 8 (by decide) rfl lf_X10_31 rfl dX10_add_39 ?_
    refine lv_iload_n hx hb dX10_add_42 rfl (lv_at hl 1 rfl) ?_
    obtain ⟨y5, e6, h⟩ := Option.bind_eq_some_iff.mp h
    refine r_iald F hP 7 (me_7 E q) e6 dX10_add_43 ?_
    refine lv_icmp_ge (tgt := 93) hx hb dX10_add_44 (by decide) (fun c7 => ?_) (fun c7 => ?_)
    · rw [if_pos c7] at h
      exact hK93 q x1 x2 h _ (lv_sub hl [0, 1, 2] rfl) _ _ hP hD hS
    · rw [if_neg c7] at h
      refine lv_aload_n hx hb dX10_add_47 rfl (lv_at hl 0 rfl) ?_
      refine r_get F hP i_X10 0 (me_0 E q) rfl 6 (by decide) rfl lf_X10_27 rfl dX10_add_48 ?_
      refine lv_iload_n hx hb dX10_add_51 rfl (lv_at hl 3 rfl) ?_
      obtain ⟨y8, e9, h⟩ := Option.bind_eq_some_iff.mp h
      refine r_iald F hP 6 (me_6 E q) e9 dX10_add_52 ?_
      refine lv_if_eq (tgt := 81) hx hb dX10_add_53 (by decide) (fun c10 => ?_) (fun c10 => ?_)
      · rw [if_pos c10] at h
        exact g_X10_add_81 F hA hRt hB33 q x1 x3 h _ (lv_sub hl [0, 1, 3] rfl) _ _ hP hD hS
      · rw [if_neg c10] at h
        refine lv_aload_n hx hb dX10_add_56 rfl (lv_at hl 0 rfl) ?_
        refine r_get F hP i_X10 0 (me_0 E q) rfl 1 (by decide) rfl lf_X10_7 rfl dX10_add_57 ?_
        refine lv_aload_n hx hb dX10_add_60 rfl (lv_at hl 0 rfl) ?_
        refine r_get F hP i_X10 0 (me_0 E q) rfl 6 (by decide) rfl lf_X10_27 rfl dX10_add_61 ?_
        refine lv_iload_n hx hb dX10_add_64 rfl (lv_at hl 3 rfl) ?_
        obtain ⟨y11, e12, h⟩ := Option.bind_eq_some_iff.mp h
        refine r_iald F hP 6 (me_6 E q) e12 dX10_add_65 ?_
        obtain ⟨y13, e14, h⟩ := Option.bind_eq_some_iff.mp h
        refine r_bald F hP 1 (me_1 E q) e14 dX10_add_66 ?_
        refine lv_aload_n hx hb dX10_add_67 rfl (lv_at hl 0 rfl) ?_
        refine r_get F hP i_X10 0 (me_0 E q) rfl 9 (by decide) rfl lf_X10_34 rfl dX10_add_68 ?_
        refine lv_bipush (v := 8) hx hb dX10_add_71 (by decide) ?_
        refine lv_iload_n hx hb dX10_add_73 rfl (lv_at hl 1 rfl) ?_
        refine lv_imul hx hb dX10_add_74 ?_
        refine lv_iload_n hx hb dX10_add_75 rfl (lv_at hl 3 rfl) ?_
        refine lv_iadd hx hb dX10_add_76 ?_
        obtain ⟨y15, e16, h⟩ := Option.bind_eq_some_iff.mp h
        refine r_iald F hP 8 (me_8 E q) e16 dX10_add_77 ?_
        refine lv_icmp_ne (tgt := 85) hx hb dX10_add_78 (by decide) (fun c17 => ?_) (fun c17 => ?_)
        · rw [if_neg c17] at h
          refine lv_iconst (v := 0) hx hb dX10_add_85 (by decide) ?_
          exact g_X10_add_86 F hA hRt hB33 q x1 x3 (0 : Int32) h _ (lv_sub hl [0, 1, 3] rfl) _ _ hP hD hS
        · rw [if_pos c17] at h
          exact g_X10_add_81 F hA hRt hB33 q x1 x3 h _ (lv_sub hl [0, 1, 3] rfl) _ _ hP hD hS
def f_X10_add_33 (K93 : QS → Int32 → Int32 → Option (Int32 × QS)) : Nat → QS → Int32 → Int32 → Int32 → Option (Int32 × QS)
  | 0 => fun _ _ _ _ => none
  | n + 1 => f_X10_add_33_b K93 (f_X10_add_33 K93 n)
theorem g_X10_add_33 {E : En} {p : Program} {l : Launch} {e : Env} {s : State} {m : MethodId} {args : Array Value} {below : List Frame} {meth : Method} {c : Code} {A : Nat → Prop} {Q : State → Prop} (F : Fx E p s m args meth c (yX10_add).cls cX10_add 4 (some .int)) (hA : ∀ z : Nat, s.heap.size ≤ z → A z) {o : Int32 × QS} (hRt : RtI (wM E) E p l e rm_X10_add s m args below meth c A Q cX10_add o) {K93 : QS → Int32 → Int32 → Option (Int32 × QS)} (hK93 : ∀ (q : QS) (x1 : Int32) (x2 : Int32), K93 q x1 x2 = some o → ∀ ls : Array Slot, lv_has ls 4 [(0, .ref (eA E 0)), (1, .int x1), (2, .int x2)] → Wq (wM E) E p l e rm_X10_add s m args below meth c A 0 0 Q q (F0 m 93 ls [])) (n : Nat) : ∀ (q : QS) (x1 : Int32) (x2 : Int32) (x3 : Int32), f_X10_add_33 K93 n q x1 x2 x3 = some o → ∀ ls : Array Slot, lv_has ls 4 [(0, .ref (eA E 0)), (1, .int x1), (2, .int x2), (3, .int x3)] → Wq (wM E) E p l e rm_X10_add s m args below meth c A 0 0 Q q (F0 m 33 ls []) := by
  induction n with
  | zero => intro q x1 x2 x3 h; cases h
  | succ n ih => intro q x1 x2 x3 h; exact g_X10_add_33_b F hA hRt hK93 ih q x1 x2 x3 h
def f_X10_add_101_b (B101 : QS → Int32 → Int32 → Option (Int32 × QS)) (q : QS) (x1 : Int32) (x3 : Int32) : Option (Int32 × QS) :=
  if (8 : Int32) ≤ x3 then
    (rd (qI q 9) 3 x1).bind fun y20 =>
    (wI q 9 3 x1 (y20 + (1 : Int32))).bind fun q22 =>
    (rd (qI q22 9) 3 x1).bind fun y24 =>
    some (y24, q22)
  else
    (rd (qI q 9) 3 x1).bind fun y26 =>
    (rd (qI q 6) 8 x3).bind fun y28 =>
    (wI q 10 960 (((8 : Int32) * (((40 : Int32) * x1) + y26)) + x3) (vp_nar .short ((y28).toInt16.toInt32))).bind fun q30 =>
    B101 q30 x1 (x3 + (1 : Int32))
set_option maxHeartbeats 4000000 in
set_option maxRecDepth 100000 in
theorem g_X10_add_101_b {E : En} {p : Program} {l : Launch} {e : Env} {s : State} {m : MethodId} {args : Array Value} {below : List Frame} {meth : Method} {c : Code} {A : Nat → Prop} {Q : State → Prop} (F : Fx E p s m args meth c (yX10_add).cls cX10_add 4 (some .int)) (hA : ∀ z : Nat, s.heap.size ≤ z → A z) {o : Int32 × QS} (hRt : RtI (wM E) E p l e rm_X10_add s m args below meth c A Q cX10_add o) {B101 : QS → Int32 → Int32 → Option (Int32 × QS)} (hB101 : ∀ (q : QS) (x1 : Int32) (x3 : Int32), B101 q x1 x3 = some o → ∀ ls : Array Slot, lv_has ls 4 [(0, .ref (eA E 0)), (1, .int x1), (3, .int x3)] → Wq (wM E) E p l e rm_X10_add s m args below meth c A 0 0 Q q (F0 m 101 ls [])) (q : QS) (x1 : Int32) (x3 : Int32) (h : f_X10_add_101_b B101 q x1 x3 = some o) (ls : Array Slot) (hl : lv_has ls 4 [(0, .ref (eA E 0)), (1, .int x1), (3, .int x3)]) : Wq (wM E) E p l e rm_X10_add s m args below meth c A 0 0 Q q (F0 m 101 ls []) := by
  intro H locs hP hD hS
  have hx := F.1
  have hb := F.2.1
  unfold f_X10_add_101_b at h
  refine lv_iload_n hx hb dX10_add_101 rfl (lv_at hl 2 rfl) ?_
  refine lv_bipush (v := 8) hx hb dX10_add_102 (by decide) ?_
  refine lv_icmp_ge (tgt := 141) hx hb dX10_add_104 (by decide) (fun c19 => ?_) (fun c19 => ?_)
  · rw [if_pos c19] at h
    refine lv_aload_n hx hb dX10_add_141 rfl (lv_at hl 0 rfl) ?_
    refine r_get F hP i_X10 0 (me_0 E q) rfl 10 (by decide) rfl lf_X10_37 rfl dX10_add_142 ?_
    refine lv_iload_n hx hb dX10_add_145 rfl (lv_at hl 1 rfl) ?_
    refine lv_dup2_11 hx hb dX10_add_146 rfl rfl ?_
    obtain ⟨y20, e21, h⟩ := Option.bind_eq_some_iff.mp h
    refine r_iald F hP 9 (me_9 E q) e21 dX10_add_147 ?_
    refine lv_iconst (v := 1) hx hb dX10_add_148 (by decide) ?_
    refine lv_iadd hx hb dX10_add_149 ?_
    obtain ⟨q22, e23, h⟩ := Option.bind_eq_some_iff.mp h
    refine r_iast F hP hD hS 9 (me_9 E q) (ms_9 E q) e23 dX10_add_150 ?_
    intro H locs hP hD hS
    refine lv_aload_n hx hb dX10_add_151 rfl (lv_at hl 0 rfl) ?_
    refine r_get F hP i_X10 0 (me_0 E q22) rfl 10 (by decide) rfl lf_X10_37 rfl dX10_add_152 ?_
    refine lv_iload_n hx hb dX10_add_155 rfl (lv_at hl 1 rfl) ?_
    obtain ⟨y24, e25, h⟩ := Option.bind_eq_some_iff.mp h
    refine r_iald F hP 9 (me_9 E q22) e25 dX10_add_156 ?_
    cases h
    exact hRt _ _ dX10_add_157 _ _ hP hD hS
  · rw [if_neg c19] at h
    refine lv_aload_n hx hb dX10_add_107 rfl (lv_at hl 0 rfl) ?_
    refine r_get F hP i_X10 0 (me_0 E q) rfl 11 (by decide) rfl lf_X10_40 rfl dX10_add_108 ?_
    refine lv_bipush (v := 8) hx hb dX10_add_111 (by decide) ?_
    refine lv_bipush (v := 40) hx hb dX10_add_113 (by decide) ?_
    refine lv_iload_n hx hb dX10_add_115 rfl (lv_at hl 1 rfl) ?_
    refine lv_imul hx hb dX10_add_116 ?_
    refine lv_aload_n hx hb dX10_add_117 rfl (lv_at hl 0 rfl) ?_
    refine r_get F hP i_X10 0 (me_0 E q) rfl 10 (by decide) rfl lf_X10_37 rfl dX10_add_118 ?_
    refine lv_iload_n hx hb dX10_add_121 rfl (lv_at hl 1 rfl) ?_
    obtain ⟨y26, e27, h⟩ := Option.bind_eq_some_iff.mp h
    refine r_iald F hP 9 (me_9 E q) e27 dX10_add_122 ?_
    refine lv_iadd hx hb dX10_add_123 ?_
    refine lv_imul hx hb dX10_add_124 ?_
    refine lv_iload_n hx hb dX10_add_125 rfl (lv_at hl 2 rfl) ?_
    refine lv_iadd hx hb dX10_add_126 ?_
    refine lv_aload_n hx hb dX10_add_127 rfl (lv_at hl 0 rfl) ?_
    refine r_get F hP i_X10 0 (me_0 E q) rfl 6 (by decide) rfl lf_X10_27 rfl dX10_add_128 ?_
    refine lv_iload_n hx hb dX10_add_131 rfl (lv_at hl 2 rfl) ?_
    obtain ⟨y28, e29, h⟩ := Option.bind_eq_some_iff.mp h
    refine r_iald F hP 6 (me_6 E q) e29 dX10_add_132 ?_
    refine lv_i2s (v := ((y28).toInt16.toInt32)) hx hb dX10_add_133 rfl ?_
    obtain ⟨q30, e31, h⟩ := Option.bind_eq_some_iff.mp h
    refine r_sast F hP hD hS 10 (me_10 E q) (ms_10 E q) e31 dX10_add_134 ?_
    intro H locs hP hD hS
    refine lv_iinc (v := (x3 + (1 : Int32))) (lv' := [(3, .int (x3 + (1 : Int32))), (0, .ref (eA E 0)), (1, .int x1)]) hx hb dX10_add_135 hl (k := 2) rfl rfl (by decide) rfl (fun ls hl => ?_)
    refine lv_goto (tgt := 101) hx hb dX10_add_138 (by decide) ?_
    exact hB101 q30 x1 (x3 + (1 : Int32)) h _ (lv_sub hl [1, 2, 0] rfl) _ _ hP hD hS
def f_X10_add_101 : Nat → QS → Int32 → Int32 → Option (Int32 × QS)
  | 0 => fun _ _ _ => none
  | n + 1 => f_X10_add_101_b (f_X10_add_101 n)
theorem g_X10_add_101 {E : En} {p : Program} {l : Launch} {e : Env} {s : State} {m : MethodId} {args : Array Value} {below : List Frame} {meth : Method} {c : Code} {A : Nat → Prop} {Q : State → Prop} (F : Fx E p s m args meth c (yX10_add).cls cX10_add 4 (some .int)) (hA : ∀ z : Nat, s.heap.size ≤ z → A z) {o : Int32 × QS} (hRt : RtI (wM E) E p l e rm_X10_add s m args below meth c A Q cX10_add o) (n : Nat) : ∀ (q : QS) (x1 : Int32) (x3 : Int32), f_X10_add_101 n q x1 x3 = some o → ∀ ls : Array Slot, lv_has ls 4 [(0, .ref (eA E 0)), (1, .int x1), (3, .int x3)] → Wq (wM E) E p l e rm_X10_add s m args below meth c A 0 0 Q q (F0 m 101 ls []) := by
  induction n with
  | zero => intro q x1 x3 h; cases h
  | succ n ih => intro q x1 x3 h; exact g_X10_add_101_b F hA hRt ih q x1 x3 h
def f_X10_add_93 (q : QS) (x1 : Int32) (x2 : Int32) : Option (Int32 × QS) :=
  if x2 = 0 then
    some ((-1 : Int32), q)
  else
    f_X10_add_101 FU q x1 (0 : Int32)
set_option maxHeartbeats 4000000 in
set_option maxRecDepth 100000 in
theorem g_X10_add_93 {E : En} {p : Program} {l : Launch} {e : Env} {s : State} {m : MethodId} {args : Array Value} {below : List Frame} {meth : Method} {c : Code} {A : Nat → Prop} {Q : State → Prop} (F : Fx E p s m args meth c (yX10_add).cls cX10_add 4 (some .int)) (hA : ∀ z : Nat, s.heap.size ≤ z → A z) {o : Int32 × QS} (hRt : RtI (wM E) E p l e rm_X10_add s m args below meth c A Q cX10_add o) (q : QS) (x1 : Int32) (x2 : Int32) (h : f_X10_add_93 q x1 x2 = some o) (ls : Array Slot) (hl : lv_has ls 4 [(0, .ref (eA E 0)), (1, .int x1), (2, .int x2)]) : Wq (wM E) E p l e rm_X10_add s m args below meth c A 0 0 Q q (F0 m 93 ls []) := by
  intro H locs hP hD hS
  have hx := F.1
  have hb := F.2.1
  unfold f_X10_add_93 at h
  refine lv_iload_n hx hb dX10_add_93 rfl (lv_at hl 2 rfl) ?_
  refine lv_if_ne (tgt := 99) hx hb dX10_add_94 (by decide) (fun c18 => ?_) (fun c18 => ?_)
  · rw [if_neg c18] at h
    refine lv_iconst (v := 0) hx hb dX10_add_99 (by decide) ?_
    refine lv_istore_n (lv' := [(3, .int (0 : Int32)), (0, .ref (eA E 0)), (1, .int x1), (2, .int x2)]) hx hb dX10_add_100 rfl hl (by decide) rfl (fun ls hl => ?_)
    exact g_X10_add_101 F hA hRt FU q x1 (0 : Int32) h _ (lv_sub hl [1, 2, 0] rfl) _ _ hP hD hS
  · rw [if_pos c18] at h
    refine lv_iconst (v := (-1)) hx hb dX10_add_97 (by decide) ?_
    cases h
    exact hRt _ _ dX10_add_98 _ _ hP hD hS
def f_X10_add_30 (q : QS) (x1 : Int32) (t0 : Int32) : Option (Int32 × QS) :=
  f_X10_add_33 (f_X10_add_93) FU q x1 t0 (0 : Int32)
set_option maxHeartbeats 4000000 in
set_option maxRecDepth 100000 in
theorem g_X10_add_30 {E : En} {p : Program} {l : Launch} {e : Env} {s : State} {m : MethodId} {args : Array Value} {below : List Frame} {meth : Method} {c : Code} {A : Nat → Prop} {Q : State → Prop} (F : Fx E p s m args meth c (yX10_add).cls cX10_add 4 (some .int)) (hA : ∀ z : Nat, s.heap.size ≤ z → A z) {o : Int32 × QS} (hRt : RtI (wM E) E p l e rm_X10_add s m args below meth c A Q cX10_add o) (q : QS) (x1 : Int32) (t0 : Int32) (h : f_X10_add_30 q x1 t0 = some o) (ls : Array Slot) (hl : lv_has ls 4 [(0, .ref (eA E 0)), (1, .int x1)]) : Wq (wM E) E p l e rm_X10_add s m args below meth c A 0 0 Q q (F0 m 30 ls [.int t0]) := by
  intro H locs hP hD hS
  have hx := F.1
  have hb := F.2.1
  unfold f_X10_add_30 at h
  refine lv_istore_n (lv' := [(2, .int t0), (0, .ref (eA E 0)), (1, .int x1)]) hx hb dX10_add_30 rfl hl (by decide) rfl (fun ls hl => ?_)
  refine lv_iconst (v := 0) hx hb dX10_add_31 (by decide) ?_
  refine lv_istore_n (lv' := [(3, .int (0 : Int32)), (2, .int t0), (0, .ref (eA E 0)), (1, .int x1)]) hx hb dX10_add_32 rfl hl (by decide) rfl (fun ls hl => ?_)
  exact g_X10_add_33 F hA hRt (g_X10_add_93 F hA hRt) FU q x1 t0 (0 : Int32) h _ (lv_sub hl [2, 3, 1, 0] rfl) _ _ hP hD hS
def f_X10_add_29 (q : QS) (x1 : Int32) : Option (Int32 × QS) :=
  f_X10_add_30 q x1 (0 : Int32)
set_option maxHeartbeats 4000000 in
set_option maxRecDepth 100000 in
theorem g_X10_add_29 {E : En} {p : Program} {l : Launch} {e : Env} {s : State} {m : MethodId} {args : Array Value} {below : List Frame} {meth : Method} {c : Code} {A : Nat → Prop} {Q : State → Prop} (F : Fx E p s m args meth c (yX10_add).cls cX10_add 4 (some .int)) (hA : ∀ z : Nat, s.heap.size ≤ z → A z) {o : Int32 × QS} (hRt : RtI (wM E) E p l e rm_X10_add s m args below meth c A Q cX10_add o) (q : QS) (x1 : Int32) (h : f_X10_add_29 q x1 = some o) (ls : Array Slot) (hl : lv_has ls 4 [(0, .ref (eA E 0)), (1, .int x1)]) : Wq (wM E) E p l e rm_X10_add s m args below meth c A 0 0 Q q (F0 m 29 ls []) := by
  intro H locs hP hD hS
  have hx := F.1
  have hb := F.2.1
  unfold f_X10_add_29 at h
  refine lv_iconst (v := 0) hx hb dX10_add_29 (by decide) ?_
  exact g_X10_add_30 F hA hRt q x1 (0 : Int32) h _ (lv_sub hl [0, 1] rfl) _ _ hP hD hS
def f_X10_add_0 (q : QS) (x1 : Int32) : Option (Int32 × QS) :=
  (f_X10_in x1 (0 : Int32) ((qF q 1) - (1 : Int32))).bind fun r1 =>
  if r1 = 0 then
    f_X10_add_29 q x1
  else
    (rd (qI q 9) 3 x1).bind fun y32 =>
    if (40 : Int32) ≤ y32 then
      f_X10_add_29 q x1
    else
      f_X10_add_30 q x1 (1 : Int32)
set_option maxHeartbeats 4000000 in
set_option maxRecDepth 100000 in
theorem g_X10_add_0 {E : En} {p : Program} {l : Launch} {e : Env} {s : State} {m : MethodId} {args : Array Value} {below : List Frame} {meth : Method} {c : Code} {A : Nat → Prop} {Q : State → Prop} (F : Fx E p s m args meth c (yX10_add).cls cX10_add 4 (some .int)) (hA : ∀ z : Nat, s.heap.size ≤ z → A z) {o : Int32 × QS} (hRt : RtI (wM E) E p l e rm_X10_add s m args below meth c A Q cX10_add o) (q : QS) (x1 : Int32) (h : f_X10_add_0 q x1 = some o) (ls : Array Slot) (hl : lv_has ls 4 [(0, .ref (eA E 0)), (1, .int x1)]) : Wq (wM E) E p l e rm_X10_add s m args below meth c A 0 0 Q q (F0 m 0 ls []) := by
  intro H locs hP hD hS
  have hx := F.1
  have hb := F.2.1
  unfold f_X10_add_0 at h
  refine lv_iload_n hx hb dX10_add_0 rfl (lv_at hl 1 rfl) ?_
  refine lv_iconst (v := 0) hx hb dX10_add_1 (by decide) ?_
  refine lv_aload_n hx hb dX10_add_2 rfl (lv_at hl 0 rfl) ?_
  refine r_get F hP i_X10 0 (me_0 E q) rfl 7 (by decide) rfl lf_X10_144 rfl dX10_add_3 ?_
  refine lv_iconst (v := 1) hx hb dX10_add_6 (by decide) ?_
  refine lv_isub hx hb dX10_add_7 ?_
  obtain ⟨r1, e2, h⟩ := Option.bind_eq_some_iff.mp h
  refine q_callS (As := [.int x1, .int (0 : Int32), .int ((qF q 1) - (1 : Int32))]) (rest := []) F hA hP hD hS (c_X10_in (E := E) (l := l) q x1 (0 : Int32) ((qF q 1) - (1 : Int32)) e2) k_X10_in st_X10_in lm_X10_169 ⟨rfl, rfl⟩ ⟨by decide, by decide⟩ rfl hl.1 rfl (Nat.le_of_ble_eq_true rfl) dX10_add_8 ⟨by decide, by decide⟩ ?_
  intro H locs hP hD hS
  refine lv_if_eq (tgt := 29) hx hb dX10_add_11 (by decide) (fun c3 => ?_) (fun c3 => ?_)
  · rw [if_pos c3] at h
    exact g_X10_add_29 F hA hRt q x1 h _ (lv_sub hl [0, 1] rfl) _ _ hP hD hS
  · rw [if_neg c3] at h
    refine lv_aload_n hx hb dX10_add_14 rfl (lv_at hl 0 rfl) ?_
    refine r_get F hP i_X10 0 (me_0 E q) rfl 10 (by decide) rfl lf_X10_37 rfl dX10_add_15 ?_
    refine lv_iload_n hx hb dX10_add_18 rfl (lv_at hl 1 rfl) ?_
    obtain ⟨y32, e33, h⟩ := Option.bind_eq_some_iff.mp h
    refine r_iald F hP 9 (me_9 E q) e33 dX10_add_19 ?_
    refine lv_bipush (v := 40) hx hb dX10_add_20 (by decide) ?_
    refine lv_icmp_ge (tgt := 29) hx hb dX10_add_22 (by decide) (fun c34 => ?_) (fun c34 => ?_)
    · rw [if_pos c34] at h
      exact g_X10_add_29 F hA hRt q x1 h _ (lv_sub hl [0, 1] rfl) _ _ hP hD hS
    · rw [if_neg c34] at h
      refine lv_iconst (v := 1) hx hb dX10_add_25 (by decide) ?_
      refine lv_goto (tgt := 30) hx hb dX10_add_26 (by decide) ?_
      exact g_X10_add_30 F hA hRt q x1 (1 : Int32) h _ (lv_sub hl [0, 1] rfl) _ _ hP hD hS
def f_X10_add (q : QS) (x1 : Int32) : Option (Int32 × QS) := f_X10_add_0 q x1
set_option maxRecDepth 100000 in
theorem c_X10_add {E : En} {l : Launch} (q : QS) (x1 : Int32) {o : Int32 × QS} (h : f_X10_add q x1 = some o) : Ct (wM E) E l yX10_add (wy yX10_add cX10_add 4 (some .int)) rm_X10_add q o.2 [.ref (eA E 0), .int x1] (some (.int o.1)) :=
  ct_I (o := o) (by decide +kernel) rfl (fun p e s m below meth c A Q F hA hRt H locs hP hD hS => en_W [.ref (eA E 0), .int x1] (Nat.le_of_ble_eq_true rfl) (fun ls hl => g_X10_add_0 F hA hRt q x1 h ls (lv_sub hl [0, 1] rfl) H locs hP hD hS))
def rm_X10_made : Room := { frames := 0, cells := 0, slots := 0, locals := 0 }
def f_X10_made_0 (q : QS) (x1 : Int32) (x2 : Int32) (x3 : Int32) (x4 : Int32) (x5 : Int32) : Option (Int32 × QS) :=
  (wI q 11 200 (qF q 2) x1).bind fun q1 =>
  (wI q1 12 200 (qF q1 2) x2).bind fun q3 =>
  (wI q3 13 200 (qF q3 2) x3).bind fun q5 =>
  (wI q5 14 200 (qF q5 2) x4).bind fun q7 =>
  (wI q7 15 200 (qF q7 2) (vp_nar .boolean x5)).bind fun q9 =>
  (wI q9 16 200 (qF q9 2) (vp_nar .boolean (0 : Int32))).bind fun q11 =>
  some (((qF (uF q11 2 ((qF q11 2) + (1 : Int32))) 2) - (1 : Int32)), (uF q11 2 ((qF q11 2) + (1 : Int32))))
set_option maxHeartbeats 4000000 in
set_option maxRecDepth 100000 in
theorem g_X10_made_0 {E : En} {p : Program} {l : Launch} {e : Env} {s : State} {m : MethodId} {args : Array Value} {below : List Frame} {meth : Method} {c : Code} {A : Nat → Prop} {Q : State → Prop} (F : Fx E p s m args meth c (yX10_made).cls cX10_made 6 (some .int)) (hA : ∀ z : Nat, s.heap.size ≤ z → A z) {o : Int32 × QS} (hRt : RtI (wM E) E p l e rm_X10_made s m args below meth c A Q cX10_made o) (q : QS) (x1 : Int32) (x2 : Int32) (x3 : Int32) (x4 : Int32) (x5 : Int32) (h : f_X10_made_0 q x1 x2 x3 x4 x5 = some o) (ls : Array Slot) (hl : lv_has ls 6 [(0, .ref (eA E 0)), (1, .int x1), (2, .int x2), (3, .int x3), (4, .int x4), (5, .int x5)]) : Wq (wM E) E p l e rm_X10_made s m args below meth c A 0 0 Q q (F0 m 0 ls []) := by
  intro H locs hP hD hS
  have hx := F.1
  have hb := F.2.1
  unfold f_X10_made_0 at h
  refine lv_aload_n hx hb dX10_made_0 rfl (lv_at hl 0 rfl) ?_
  refine r_get F hP i_X10 0 (me_0 E q) rfl 13 (by decide) rfl lf_X10_43 rfl dX10_made_1 ?_
  refine lv_aload_n hx hb dX10_made_4 rfl (lv_at hl 0 rfl) ?_
  refine r_get F hP i_X10 0 (me_0 E q) rfl 12 (by decide) rfl lf_X10_147 rfl dX10_made_5 ?_
  refine lv_iload_n hx hb dX10_made_8 rfl (lv_at hl 1 rfl) ?_
  obtain ⟨q1, e2, h⟩ := Option.bind_eq_some_iff.mp h
  refine r_iast F hP hD hS 11 (me_11 E q) (ms_11 E q) e2 dX10_made_9 ?_
  intro H locs hP hD hS
  refine lv_aload_n hx hb dX10_made_10 rfl (lv_at hl 0 rfl) ?_
  refine r_get F hP i_X10 0 (me_0 E q1) rfl 14 (by decide) rfl lf_X10_46 rfl dX10_made_11 ?_
  refine lv_aload_n hx hb dX10_made_14 rfl (lv_at hl 0 rfl) ?_
  refine r_get F hP i_X10 0 (me_0 E q1) rfl 12 (by decide) rfl lf_X10_147 rfl dX10_made_15 ?_
  refine lv_iload_n hx hb dX10_made_18 rfl (lv_at hl 2 rfl) ?_
  obtain ⟨q3, e4, h⟩ := Option.bind_eq_some_iff.mp h
  refine r_iast F hP hD hS 12 (me_12 E q1) (ms_12 E q1) e4 dX10_made_19 ?_
  intro H locs hP hD hS
  refine lv_aload_n hx hb dX10_made_20 rfl (lv_at hl 0 rfl) ?_
  refine r_get F hP i_X10 0 (me_0 E q3) rfl 15 (by decide) rfl lf_X10_49 rfl dX10_made_21 ?_
  refine lv_aload_n hx hb dX10_made_24 rfl (lv_at hl 0 rfl) ?_
  refine r_get F hP i_X10 0 (me_0 E q3) rfl 12 (by decide) rfl lf_X10_147 rfl dX10_made_25 ?_
  refine lv_iload_n hx hb dX10_made_28 rfl (lv_at hl 3 rfl) ?_
  obtain ⟨q5, e6, h⟩ := Option.bind_eq_some_iff.mp h
  refine r_iast F hP hD hS 13 (me_13 E q3) (ms_13 E q3) e6 dX10_made_29 ?_
  intro H locs hP hD hS
  refine lv_aload_n hx hb dX10_made_30 rfl (lv_at hl 0 rfl) ?_
  refine r_get F hP i_X10 0 (me_0 E q5) rfl 16 (by decide) rfl lf_X10_52 rfl dX10_made_31 ?_
  refine lv_aload_n hx hb dX10_made_34 rfl (lv_at hl 0 rfl) ?_
  refine r_get F hP i_X10 0 (me_0 E q5) rfl 12 (by decide) rfl lf_X10_147 rfl dX10_made_35 ?_
  refine lv_iload hx hb dX10_made_38 (lv_at hl 4 rfl) ?_
  obtain ⟨q7, e8, h⟩ := Option.bind_eq_some_iff.mp h
  refine r_iast F hP hD hS 14 (me_14 E q5) (ms_14 E q5) e8 dX10_made_40 ?_
  intro H locs hP hD hS
  refine lv_aload_n hx hb dX10_made_41 rfl (lv_at hl 0 rfl) ?_
  refine r_get F hP i_X10 0 (me_0 E q7) rfl 17 (by decide) rfl lf_X10_55 rfl dX10_made_42 ?_
  refine lv_aload_n hx hb dX10_made_45 rfl (lv_at hl 0 rfl) ?_
  refine r_get F hP i_X10 0 (me_0 E q7) rfl 12 (by decide) rfl lf_X10_147 rfl dX10_made_46 ?_
  refine lv_iload hx hb dX10_made_49 (lv_at hl 5 rfl) ?_
  obtain ⟨q9, e10, h⟩ := Option.bind_eq_some_iff.mp h
  refine r_zast F hP hD hS 15 (me_15 E q7) (ms_15 E q7) e10 dX10_made_51 ?_
  intro H locs hP hD hS
  refine lv_aload_n hx hb dX10_made_52 rfl (lv_at hl 0 rfl) ?_
  refine r_get F hP i_X10 0 (me_0 E q9) rfl 18 (by decide) rfl lf_X10_59 rfl dX10_made_53 ?_
  refine lv_aload_n hx hb dX10_made_56 rfl (lv_at hl 0 rfl) ?_
  refine r_get F hP i_X10 0 (me_0 E q9) rfl 12 (by decide) rfl lf_X10_147 rfl dX10_made_57 ?_
  refine lv_iconst (v := 0) hx hb dX10_made_60 (by decide) ?_
  obtain ⟨q11, e12, h⟩ := Option.bind_eq_some_iff.mp h
  refine r_zast F hP hD hS 16 (me_16 E q9) (ms_16 E q9) e12 dX10_made_61 ?_
  intro H locs hP hD hS
  refine lv_aload_n hx hb dX10_made_62 rfl (lv_at hl 0 rfl) ?_
  refine lv_dup hx hb dX10_made_63 rfl ?_
  refine r_get F hP i_X10 0 (me_0 E q11) rfl 12 (by decide) rfl lf_X10_147 rfl dX10_made_64 ?_
  refine lv_iconst (v := 1) hx hb dX10_made_67 (by decide) ?_
  refine lv_iadd hx hb dX10_made_68 ?_
  refine r_put (ty := .int) (q1 := (uF q11 2 ((qF q11 2) + (1 : Int32)))) F hP hD hS i_X10 tyX10_ok nmX10 0 (me_0 E q11) rfl 12 (by decide) rfl lf_X10_147 rfl (by decide +kernel) rfl rfl (Nat.le_of_ble_eq_true rfl) (mf_0_2 E q11 ((qF q11 2) + (1 : Int32))) dX10_made_69 ?_
  intro H locs hP hD hS
  refine lv_aload_n hx hb dX10_made_72 rfl (lv_at hl 0 rfl) ?_
  refine r_get F hP i_X10 0 (me_0 E (uF q11 2 ((qF q11 2) + (1 : Int32)))) rfl 12 (by decide) rfl lf_X10_147 rfl dX10_made_73 ?_
  refine lv_iconst (v := 1) hx hb dX10_made_76 (by decide) ?_
  refine lv_isub hx hb dX10_made_77 ?_
  cases h
  exact hRt _ _ dX10_made_78 _ _ hP hD hS
def f_X10_made (q : QS) (x1 : Int32) (x2 : Int32) (x3 : Int32) (x4 : Int32) (x5 : Int32) : Option (Int32 × QS) := f_X10_made_0 q x1 x2 x3 x4 x5
set_option maxRecDepth 100000 in
theorem c_X10_made {E : En} {l : Launch} (q : QS) (x1 : Int32) (x2 : Int32) (x3 : Int32) (x4 : Int32) (x5 : Int32) {o : Int32 × QS} (h : f_X10_made q x1 x2 x3 x4 x5 = some o) : Ct (wM E) E l yX10_made (wy yX10_made cX10_made 6 (some .int)) rm_X10_made q o.2 [.ref (eA E 0), .int x1, .int x2, .int x3, .int x4, .int x5] (some (.int o.1)) :=
  ct_I (o := o) (by decide +kernel) rfl (fun p e s m below meth c A Q F hA hRt H locs hP hD hS => en_W [.ref (eA E 0), .int x1, .int x2, .int x3, .int x4, .int x5] (Nat.le_of_ble_eq_true rfl) (fun ls hl => g_X10_made_0 F hA hRt q x1 x2 x3 x4 x5 h ls (lv_sub hl [0, 1, 2, 3, 4, 5] rfl) H locs hP hD hS))
def rm_X10_column : Room := { frames := 1, cells := 0, slots := 0, locals := 25 }
def f_X10_column_0 (q : QS) (x1 : Int32) (x2 : Int32) : Option (Int32 × QS) :=
  if (qF q 2) = (200 : Int32) then
    some ((-1 : Int32), q)
  else
    (f_X10_in x1 (0 : Int32) ((qF q 1) - (1 : Int32))).bind fun r2 =>
    if r2 = 0 then
      some ((-1 : Int32), q)
    else
      (rd (qI q 7) 3 x1).bind fun y5 =>
      (f_X10_in x2 (0 : Int32) (y5 - (1 : Int32))).bind fun r7 =>
      if r7 = 0 then
        some ((-1 : Int32), q)
      else
        (rd (qI q 8) 24 (((8 : Int32) * x1) + x2)).bind fun y10 =>
        (f_X10_made q (4 : Int32) x1 x2 y10 (0 : Int32)).bind fun r12 =>
        some (r12.1, r12.2)
set_option maxHeartbeats 4000000 in
set_option maxRecDepth 100000 in
theorem g_X10_column_0 {E : En} {p : Program} {l : Launch} {e : Env} {s : State} {m : MethodId} {args : Array Value} {below : List Frame} {meth : Method} {c : Code} {A : Nat → Prop} {Q : State → Prop} (F : Fx E p s m args meth c (yX10_column).cls cX10_column 3 (some .int)) (hA : ∀ z : Nat, s.heap.size ≤ z → A z) {o : Int32 × QS} (hRt : RtI (wM E) E p l e rm_X10_column s m args below meth c A Q cX10_column o) (q : QS) (x1 : Int32) (x2 : Int32) (h : f_X10_column_0 q x1 x2 = some o) (ls : Array Slot) (hl : lv_has ls 3 [(0, .ref (eA E 0)), (1, .int x1), (2, .int x2)]) : Wq (wM E) E p l e rm_X10_column s m args below meth c A 0 0 Q q (F0 m 0 ls []) := by
  intro H locs hP hD hS
  have hx := F.1
  have hb := F.2.1
  unfold f_X10_column_0 at h
  refine lv_aload_n hx hb dX10_column_0 rfl (lv_at hl 0 rfl) ?_
  refine r_get F hP i_X10 0 (me_0 E q) rfl 12 (by decide) rfl lf_X10_147 rfl dX10_column_1 ?_
  refine lv_sipush (v := 200) hx hb dX10_column_4 (by decide) ?_
  refine lv_icmp_eq (tgt := 40) hx hb dX10_column_7 (by decide) (fun c1 => ?_) (fun c1 => ?_)
  · rw [if_pos c1] at h
    refine lv_iconst (v := (-1)) hx hb dX10_column_40 (by decide) ?_
    cases h
    exact hRt _ _ dX10_column_41 _ _ hP hD hS
  · rw [if_neg c1] at h
    refine lv_iload_n hx hb dX10_column_10 rfl (lv_at hl 1 rfl) ?_
    refine lv_iconst (v := 0) hx hb dX10_column_11 (by decide) ?_
    refine lv_aload_n hx hb dX10_column_12 rfl (lv_at hl 0 rfl) ?_
    refine r_get F hP i_X10 0 (me_0 E q) rfl 7 (by decide) rfl lf_X10_144 rfl dX10_column_13 ?_
    refine lv_iconst (v := 1) hx hb dX10_column_16 (by decide) ?_
    refine lv_isub hx hb dX10_column_17 ?_
    obtain ⟨r2, e3, h⟩ := Option.bind_eq_some_iff.mp h
    refine q_callS (As := [.int x1, .int (0 : Int32), .int ((qF q 1) - (1 : Int32))]) (rest := []) F hA hP hD hS (c_X10_in (E := E) (l := l) q x1 (0 : Int32) ((qF q 1) - (1 : Int32)) e3) k_X10_in st_X10_in lm_X10_169 ⟨rfl, rfl⟩ ⟨by decide, by decide⟩ rfl hl.1 rfl (Nat.le_of_ble_eq_true rfl) dX10_column_18 ⟨by decide, by decide⟩ ?_
    intro H locs hP hD hS
    refine lv_if_eq (tgt := 40) hx hb dX10_column_21 (by decide) (fun c4 => ?_) (fun c4 => ?_)
    · rw [if_pos c4] at h
      refine lv_iconst (v := (-1)) hx hb dX10_column_40 (by decide) ?_
      cases h
      exact hRt _ _ dX10_column_41 _ _ hP hD hS
    · rw [if_neg c4] at h
      refine lv_iload_n hx hb dX10_column_24 rfl (lv_at hl 2 rfl) ?_
      refine lv_iconst (v := 0) hx hb dX10_column_25 (by decide) ?_
      refine lv_aload_n hx hb dX10_column_26 rfl (lv_at hl 0 rfl) ?_
      refine r_get F hP i_X10 0 (me_0 E q) rfl 8 (by decide) rfl lf_X10_31 rfl dX10_column_27 ?_
      refine lv_iload_n hx hb dX10_column_30 rfl (lv_at hl 1 rfl) ?_
      obtain ⟨y5, e6, h⟩ := Option.bind_eq_some_iff.mp h
      refine r_iald F hP 7 (me_7 E q) e6 dX10_column_31 ?_
      refine lv_iconst (v := 1) hx hb dX10_column_32 (by decide) ?_
      refine lv_isub hx hb dX10_column_33 ?_
      obtain ⟨r7, e8, h⟩ := Option.bind_eq_some_iff.mp h
      refine q_callS (As := [.int x2, .int (0 : Int32), .int (y5 - (1 : Int32))]) (rest := []) F hA hP hD hS (c_X10_in (E := E) (l := l) q x2 (0 : Int32) (y5 - (1 : Int32)) e8) k_X10_in st_X10_in lm_X10_169 ⟨rfl, rfl⟩ ⟨by decide, by decide⟩ rfl hl.1 rfl (Nat.le_of_ble_eq_true rfl) dX10_column_34 ⟨by decide, by decide⟩ ?_
      intro H locs hP hD hS
      refine lv_if_ne (tgt := 42) hx hb dX10_column_37 (by decide) (fun c9 => ?_) (fun c9 => ?_)
      · rw [if_neg c9] at h
        refine lv_aload_n hx hb dX10_column_42 rfl (lv_at hl 0 rfl) ?_
        refine lv_iconst (v := 4) hx hb dX10_column_43 (by decide) ?_
        refine lv_iload_n hx hb dX10_column_44 rfl (lv_at hl 1 rfl) ?_
        refine lv_iload_n hx hb dX10_column_45 rfl (lv_at hl 2 rfl) ?_
        refine lv_aload_n hx hb dX10_column_46 rfl (lv_at hl 0 rfl) ?_
        refine r_get F hP i_X10 0 (me_0 E q) rfl 9 (by decide) rfl lf_X10_34 rfl dX10_column_47 ?_
        refine lv_bipush (v := 8) hx hb dX10_column_50 (by decide) ?_
        refine lv_iload_n hx hb dX10_column_52 rfl (lv_at hl 1 rfl) ?_
        refine lv_imul hx hb dX10_column_53 ?_
        refine lv_iload_n hx hb dX10_column_54 rfl (lv_at hl 2 rfl) ?_
        refine lv_iadd hx hb dX10_column_55 ?_
        obtain ⟨y10, e11, h⟩ := Option.bind_eq_some_iff.mp h
        refine r_iald F hP 8 (me_8 E q) e11 dX10_column_56 ?_
        refine lv_iconst (v := 0) hx hb dX10_column_57 (by decide) ?_
        obtain ⟨r12, e13, h⟩ := Option.bind_eq_some_iff.mp h
        refine q_callV (As := [.int (4 : Int32), .int x1, .int x2, .int y10, .int (0 : Int32)]) (rest := []) F hA hP hD hS (c_X10_made (E := E) (l := l) q (4 : Int32) x1 x2 y10 (0 : Int32) e13) k_X10_made in_X10_made se_X10_made lm_X10_180 0 (me_0 E q) rfl ⟨rfl, rfl⟩ ⟨by decide, by decide⟩ rfl hl.1 rfl (Nat.le_of_ble_eq_true rfl) dX10_column_58 ⟨by decide, by decide⟩ ?_
        intro H locs hP hD hS
        cases h
        exact hRt _ _ dX10_column_61 _ _ hP hD hS
      · rw [if_pos c9] at h
        refine lv_iconst (v := (-1)) hx hb dX10_column_40 (by decide) ?_
        cases h
        exact hRt _ _ dX10_column_41 _ _ hP hD hS
def f_X10_column (q : QS) (x1 : Int32) (x2 : Int32) : Option (Int32 × QS) := f_X10_column_0 q x1 x2
set_option maxRecDepth 100000 in
theorem c_X10_column {E : En} {l : Launch} (q : QS) (x1 : Int32) (x2 : Int32) {o : Int32 × QS} (h : f_X10_column q x1 x2 = some o) : Ct (wM E) E l yX10_column (wy yX10_column cX10_column 3 (some .int)) rm_X10_column q o.2 [.ref (eA E 0), .int x1, .int x2] (some (.int o.1)) :=
  ct_I (o := o) (by decide +kernel) rfl (fun p e s m below meth c A Q F hA hRt H locs hP hD hS => en_W [.ref (eA E 0), .int x1, .int x2] (Nat.le_of_ble_eq_true rfl) (fun ls hl => g_X10_column_0 F hA hRt q x1 x2 h ls (lv_sub hl [0, 1, 2] rfl) H locs hP hD hS))
def rm_X10_constant : Room := { frames := 1, cells := 0, slots := 0, locals := 25 }
def f_X10_constant_0 (q : QS) : Option (Int32 × QS) :=
  if (qF q 2) = (200 : Int32) then
    some ((-1 : Int32), q)
  else
    (rd (qI q 6) 8 (0 : Int32)).bind fun y2 =>
    (rd (qI q 1) 520 y2).bind fun y4 =>
    (rd (qI q 6) 8 (0 : Int32)).bind fun y6 =>
    (rd (qI q 6) 8 (0 : Int32)).bind fun y8 =>
    (rd (qI q 1) 520 y8).bind fun y10 =>
    (f_X10_made q y4 y6 (0 : Int32) y10 (0 : Int32)).bind fun r12 =>
    some (r12.1, r12.2)
set_option maxHeartbeats 4000000 in
set_option maxRecDepth 100000 in
theorem g_X10_constant_0 {E : En} {p : Program} {l : Launch} {e : Env} {s : State} {m : MethodId} {args : Array Value} {below : List Frame} {meth : Method} {c : Code} {A : Nat → Prop} {Q : State → Prop} (F : Fx E p s m args meth c (yX10_constant).cls cX10_constant 1 (some .int)) (hA : ∀ z : Nat, s.heap.size ≤ z → A z) {o : Int32 × QS} (hRt : RtI (wM E) E p l e rm_X10_constant s m args below meth c A Q cX10_constant o) (q : QS) (h : f_X10_constant_0 q = some o) (ls : Array Slot) (hl : lv_has ls 1 [(0, .ref (eA E 0))]) : Wq (wM E) E p l e rm_X10_constant s m args below meth c A 0 0 Q q (F0 m 0 ls []) := by
  intro H locs hP hD hS
  have hx := F.1
  have hb := F.2.1
  unfold f_X10_constant_0 at h
  refine lv_aload_n hx hb dX10_constant_0 rfl (lv_at hl 0 rfl) ?_
  refine r_get F hP i_X10 0 (me_0 E q) rfl 12 (by decide) rfl lf_X10_147 rfl dX10_constant_1 ?_
  refine lv_sipush (v := 200) hx hb dX10_constant_4 (by decide) ?_
  refine lv_icmp_ne (tgt := 14) hx hb dX10_constant_7 (by decide) (fun c1 => ?_) (fun c1 => ?_)
  · rw [if_neg c1] at h
    refine lv_aload_n hx hb dX10_constant_14 rfl (lv_at hl 0 rfl) ?_
    refine lv_aload_n hx hb dX10_constant_15 rfl (lv_at hl 0 rfl) ?_
    refine r_get F hP i_X10 0 (me_0 E q) rfl 1 (by decide) rfl lf_X10_7 rfl dX10_constant_16 ?_
    refine lv_aload_n hx hb dX10_constant_19 rfl (lv_at hl 0 rfl) ?_
    refine r_get F hP i_X10 0 (me_0 E q) rfl 6 (by decide) rfl lf_X10_27 rfl dX10_constant_20 ?_
    refine lv_iconst (v := 0) hx hb dX10_constant_23 (by decide) ?_
    obtain ⟨y2, e3, h⟩ := Option.bind_eq_some_iff.mp h
    refine r_iald F hP 6 (me_6 E q) e3 dX10_constant_24 ?_
    obtain ⟨y4, e5, h⟩ := Option.bind_eq_some_iff.mp h
    refine r_bald F hP 1 (me_1 E q) e5 dX10_constant_25 ?_
    refine lv_aload_n hx hb dX10_constant_26 rfl (lv_at hl 0 rfl) ?_
    refine r_get F hP i_X10 0 (me_0 E q) rfl 6 (by decide) rfl lf_X10_27 rfl dX10_constant_27 ?_
    refine lv_iconst (v := 0) hx hb dX10_constant_30 (by decide) ?_
    obtain ⟨y6, e7, h⟩ := Option.bind_eq_some_iff.mp h
    refine r_iald F hP 6 (me_6 E q) e7 dX10_constant_31 ?_
    refine lv_iconst (v := 0) hx hb dX10_constant_32 (by decide) ?_
    refine lv_aload_n hx hb dX10_constant_33 rfl (lv_at hl 0 rfl) ?_
    refine r_get F hP i_X10 0 (me_0 E q) rfl 1 (by decide) rfl lf_X10_7 rfl dX10_constant_34 ?_
    refine lv_aload_n hx hb dX10_constant_37 rfl (lv_at hl 0 rfl) ?_
    refine r_get F hP i_X10 0 (me_0 E q) rfl 6 (by decide) rfl lf_X10_27 rfl dX10_constant_38 ?_
    refine lv_iconst (v := 0) hx hb dX10_constant_41 (by decide) ?_
    obtain ⟨y8, e9, h⟩ := Option.bind_eq_some_iff.mp h
    refine r_iald F hP 6 (me_6 E q) e9 dX10_constant_42 ?_
    obtain ⟨y10, e11, h⟩ := Option.bind_eq_some_iff.mp h
    refine r_bald F hP 1 (me_1 E q) e11 dX10_constant_43 ?_
    refine lv_iconst (v := 0) hx hb dX10_constant_44 (by decide) ?_
    obtain ⟨r12, e13, h⟩ := Option.bind_eq_some_iff.mp h
    refine q_callV (As := [.int y4, .int y6, .int (0 : Int32), .int y10, .int (0 : Int32)]) (rest := []) F hA hP hD hS (c_X10_made (E := E) (l := l) q y4 y6 (0 : Int32) y10 (0 : Int32) e13) k_X10_made in_X10_made se_X10_made lm_X10_180 0 (me_0 E q) rfl ⟨rfl, rfl⟩ ⟨by decide, by decide⟩ rfl hl.1 rfl (Nat.le_of_ble_eq_true rfl) dX10_constant_45 ⟨by decide, by decide⟩ ?_
    intro H locs hP hD hS
    cases h
    exact hRt _ _ dX10_constant_48 _ _ hP hD hS
  · rw [if_pos c1] at h
    refine lv_iconst (v := (-1)) hx hb dX10_constant_10 (by decide) ?_
    refine lv_goto (tgt := 48) hx hb dX10_constant_11 (by decide) ?_
    cases h
    exact hRt _ _ dX10_constant_48 _ _ hP hD hS
def f_X10_constant (q : QS) : Option (Int32 × QS) := f_X10_constant_0 q
set_option maxRecDepth 100000 in
theorem c_X10_constant {E : En} {l : Launch} (q : QS) {o : Int32 × QS} (h : f_X10_constant q = some o) : Ct (wM E) E l yX10_constant (wy yX10_constant cX10_constant 1 (some .int)) rm_X10_constant q o.2 [.ref (eA E 0)] (some (.int o.1)) :=
  ct_I (o := o) (by decide +kernel) rfl (fun p e s m below meth c A Q F hA hRt H locs hP hD hS => en_W [.ref (eA E 0)] (Nat.le_of_ble_eq_true rfl) (fun ls hl => g_X10_constant_0 F hA hRt q h ls (lv_sub hl [0] rfl) H locs hP hD hS))
def rm_X10_isTwo : Room := { frames := 0, cells := 0, slots := 0, locals := 0 }
def f_X10_isTwo_0 (x0 : Int32) : Option (Int32) :=
  if x0 < (11 : Int32) then
    if x0 ≤ (25 : Int32) then
      some (0 : Int32)
    else
      some (1 : Int32)
  else
    if x0 ≤ (22 : Int32) then
      some (1 : Int32)
    else
      if x0 ≤ (25 : Int32) then
        some (0 : Int32)
      else
        some (1 : Int32)
set_option maxHeartbeats 4000000 in
set_option maxRecDepth 100000 in
theorem g_X10_isTwo_0 {E : En} {p : Program} {l : Launch} {e : Env} {s : State} {m : MethodId} {args : Array Value} {below : List Frame} {meth : Method} {c : Code} {A : Nat → Prop} {Q : State → Prop} (F : Fx E p s m args meth c (yX10_isTwo).cls cX10_isTwo 1 (some .boolean)) (hA : ∀ z : Nat, s.heap.size ≤ z → A z) {q : QS} {o : Int32} (hRt : RtZ (wM E) E p l e rm_X10_isTwo s m args below meth c A Q cX10_isTwo (o, q)) (x0 : Int32) (h : f_X10_isTwo_0 x0 = some o) (ls : Array Slot) (hl : lv_has ls 1 [(0, .int x0)]) : Wq (wM E) E p l e rm_X10_isTwo s m args below meth c A 0 0 Q q (F0 m 0 ls []) := by
  intro H locs hP hD hS
  have hx := F.1
  have hb := F.2.1
  unfold f_X10_isTwo_0 at h
  refine lv_iload_n hx hb dX10_isTwo_0 rfl (lv_at hl 0 rfl) ?_
  refine lv_bipush (v := 11) hx hb dX10_isTwo_1 (by decide) ?_
  refine lv_icmp_lt (tgt := 12) hx hb dX10_isTwo_3 (by decide) (fun c1 => ?_) (fun c1 => ?_)
  · rw [if_pos c1] at h
    refine lv_iload_n hx hb dX10_isTwo_12 rfl (lv_at hl 0 rfl) ?_
    refine lv_bipush (v := 25) hx hb dX10_isTwo_13 (by decide) ?_
    refine lv_icmp_le (tgt := 22) hx hb dX10_isTwo_15 (by decide) (fun c2 => ?_) (fun c2 => ?_)
    · rw [if_pos c2] at h
      refine lv_iconst (v := 0) hx hb dX10_isTwo_22 (by decide) ?_
      cases h
      exact hRt _ _ zz_0 dX10_isTwo_23 _ _ hP hD hS
    · rw [if_neg c2] at h
      refine lv_iconst (v := 1) hx hb dX10_isTwo_18 (by decide) ?_
      refine lv_goto (tgt := 23) hx hb dX10_isTwo_19 (by decide) ?_
      cases h
      exact hRt _ _ zz_1 dX10_isTwo_23 _ _ hP hD hS
  · rw [if_neg c1] at h
    refine lv_iload_n hx hb dX10_isTwo_6 rfl (lv_at hl 0 rfl) ?_
    refine lv_bipush (v := 22) hx hb dX10_isTwo_7 (by decide) ?_
    refine lv_icmp_le (tgt := 18) hx hb dX10_isTwo_9 (by decide) (fun c3 => ?_) (fun c3 => ?_)
    · rw [if_pos c3] at h
      refine lv_iconst (v := 1) hx hb dX10_isTwo_18 (by decide) ?_
      refine lv_goto (tgt := 23) hx hb dX10_isTwo_19 (by decide) ?_
      cases h
      exact hRt _ _ zz_1 dX10_isTwo_23 _ _ hP hD hS
    · rw [if_neg c3] at h
      refine lv_iload_n hx hb dX10_isTwo_12 rfl (lv_at hl 0 rfl) ?_
      refine lv_bipush (v := 25) hx hb dX10_isTwo_13 (by decide) ?_
      refine lv_icmp_le (tgt := 22) hx hb dX10_isTwo_15 (by decide) (fun c4 => ?_) (fun c4 => ?_)
      · rw [if_pos c4] at h
        refine lv_iconst (v := 0) hx hb dX10_isTwo_22 (by decide) ?_
        cases h
        exact hRt _ _ zz_0 dX10_isTwo_23 _ _ hP hD hS
      · rw [if_neg c4] at h
        refine lv_iconst (v := 1) hx hb dX10_isTwo_18 (by decide) ?_
        refine lv_goto (tgt := 23) hx hb dX10_isTwo_19 (by decide) ?_
        cases h
        exact hRt _ _ zz_1 dX10_isTwo_23 _ _ hP hD hS
def f_X10_isTwo (x0 : Int32) : Option (Int32) := f_X10_isTwo_0 x0
set_option maxRecDepth 100000 in
theorem c_X10_isTwo {E : En} {l : Launch} (q : QS) (x0 : Int32) {o : Int32} (h : f_X10_isTwo x0 = some o) : Ct (wM E) E l yX10_isTwo (wy yX10_isTwo cX10_isTwo 1 (some .boolean)) rm_X10_isTwo q q [.int x0] (some (.int o)) :=
  ct_Z (o := (o, q)) (by decide +kernel) (fun p e s m below meth c A Q F hA hRt H locs hP hD hS => en_W [.int x0] (Nat.le_of_ble_eq_true rfl) (fun ls hl => g_X10_isTwo_0 F hA hRt x0 h ls (lv_sub hl [0] rfl) H locs hP hD hS))
def rm_X10_isFree : Room := { frames := 1, cells := 0, slots := 0, locals := 22 }
def f_X10_isFree_0 (q : QS) (x1 : Int32) : Option (Int32) :=
  (f_X10_in x1 (0 : Int32) ((qF q 2) - (1 : Int32))).bind fun r1 =>
  if r1 = 0 then
    some (0 : Int32)
  else
    (rd (qI q 16) 200 x1).bind fun y4 =>
    if y4 = 0 then
      some (1 : Int32)
    else
      some (0 : Int32)
set_option maxHeartbeats 4000000 in
set_option maxRecDepth 100000 in
theorem g_X10_isFree_0 {E : En} {p : Program} {l : Launch} {e : Env} {s : State} {m : MethodId} {args : Array Value} {below : List Frame} {meth : Method} {c : Code} {A : Nat → Prop} {Q : State → Prop} (F : Fx E p s m args meth c (yX10_isFree).cls cX10_isFree 2 (some .boolean)) (hA : ∀ z : Nat, s.heap.size ≤ z → A z) {q : QS} {o : Int32} (hRt : RtZ (wM E) E p l e rm_X10_isFree s m args below meth c A Q cX10_isFree (o, q)) (x1 : Int32) (h : f_X10_isFree_0 q x1 = some o) (ls : Array Slot) (hl : lv_has ls 2 [(0, .ref (eA E 0)), (1, .int x1)]) : Wq (wM E) E p l e rm_X10_isFree s m args below meth c A 0 0 Q q (F0 m 0 ls []) := by
  intro H locs hP hD hS
  have hx := F.1
  have hb := F.2.1
  unfold f_X10_isFree_0 at h
  refine lv_iload_n hx hb dX10_isFree_0 rfl (lv_at hl 1 rfl) ?_
  refine lv_iconst (v := 0) hx hb dX10_isFree_1 (by decide) ?_
  refine lv_aload_n hx hb dX10_isFree_2 rfl (lv_at hl 0 rfl) ?_
  refine r_get F hP i_X10 0 (me_0 E q) rfl 12 (by decide) rfl lf_X10_147 rfl dX10_isFree_3 ?_
  refine lv_iconst (v := 1) hx hb dX10_isFree_6 (by decide) ?_
  refine lv_isub hx hb dX10_isFree_7 ?_
  obtain ⟨r1, e2, h⟩ := Option.bind_eq_some_iff.mp h
  refine q_callS (As := [.int x1, .int (0 : Int32), .int ((qF q 2) - (1 : Int32))]) (rest := []) F hA hP hD hS (c_X10_in (E := E) (l := l) q x1 (0 : Int32) ((qF q 2) - (1 : Int32)) e2) k_X10_in st_X10_in lm_X10_169 ⟨rfl, rfl⟩ ⟨by decide, by decide⟩ rfl hl.1 rfl (Nat.le_of_ble_eq_true rfl) dX10_isFree_8 ⟨by decide, by decide⟩ ?_
  intro H locs hP hD hS
  refine lv_if_eq (tgt := 27) hx hb dX10_isFree_11 (by decide) (fun c3 => ?_) (fun c3 => ?_)
  · rw [if_pos c3] at h
    refine lv_iconst (v := 0) hx hb dX10_isFree_27 (by decide) ?_
    cases h
    exact hRt _ _ zz_0 dX10_isFree_28 _ _ hP hD hS
  · rw [if_neg c3] at h
    refine lv_aload_n hx hb dX10_isFree_14 rfl (lv_at hl 0 rfl) ?_
    refine r_get F hP i_X10 0 (me_0 E q) rfl 18 (by decide) rfl lf_X10_59 rfl dX10_isFree_15 ?_
    refine lv_iload_n hx hb dX10_isFree_18 rfl (lv_at hl 1 rfl) ?_
    obtain ⟨y4, e5, h⟩ := Option.bind_eq_some_iff.mp h
    refine r_zald F hP 16 (me_16 E q) e5 dX10_isFree_19 ?_
    refine lv_if_ne (tgt := 27) hx hb dX10_isFree_20 (by decide) (fun c6 => ?_) (fun c6 => ?_)
    · rw [if_neg c6] at h
      refine lv_iconst (v := 0) hx hb dX10_isFree_27 (by decide) ?_
      cases h
      exact hRt _ _ zz_0 dX10_isFree_28 _ _ hP hD hS
    · rw [if_pos c6] at h
      refine lv_iconst (v := 1) hx hb dX10_isFree_23 (by decide) ?_
      refine lv_goto (tgt := 28) hx hb dX10_isFree_24 (by decide) ?_
      cases h
      exact hRt _ _ zz_1 dX10_isFree_28 _ _ hP hD hS
def f_X10_isFree (q : QS) (x1 : Int32) : Option (Int32) := f_X10_isFree_0 q x1
set_option maxRecDepth 100000 in
theorem c_X10_isFree {E : En} {l : Launch} (q : QS) (x1 : Int32) {o : Int32} (h : f_X10_isFree q x1 = some o) : Ct (wM E) E l yX10_isFree (wy yX10_isFree cX10_isFree 2 (some .boolean)) rm_X10_isFree q q [.ref (eA E 0), .int x1] (some (.int o)) :=
  ct_Z (o := (o, q)) (by decide +kernel) (fun p e s m below meth c A Q F hA hRt H locs hP hD hS => en_W [.ref (eA E 0), .int x1] (Nat.le_of_ble_eq_true rfl) (fun ls hl => g_X10_isFree_0 F hA hRt x1 h ls (lv_sub hl [0, 1] rfl) H locs hP hD hS))
def rm_X10_fits : Room := { frames := 0, cells := 0, slots := 0, locals := 0 }
def f_X10_fits_0 (x0 : Int32) (x1 : Int32) : Option (Int32) :=
  if x0 = 0 then
    some (1 : Int32)
  else
    if x0 = x1 then
      some (1 : Int32)
    else
      some (0 : Int32)
set_option maxHeartbeats 4000000 in
set_option maxRecDepth 100000 in
theorem g_X10_fits_0 {E : En} {p : Program} {l : Launch} {e : Env} {s : State} {m : MethodId} {args : Array Value} {below : List Frame} {meth : Method} {c : Code} {A : Nat → Prop} {Q : State → Prop} (F : Fx E p s m args meth c (yX10_fits).cls cX10_fits 2 (some .boolean)) (hA : ∀ z : Nat, s.heap.size ≤ z → A z) {q : QS} {o : Int32} (hRt : RtZ (wM E) E p l e rm_X10_fits s m args below meth c A Q cX10_fits (o, q)) (x0 : Int32) (x1 : Int32) (h : f_X10_fits_0 x0 x1 = some o) (ls : Array Slot) (hl : lv_has ls 2 [(0, .int x0), (1, .int x1)]) : Wq (wM E) E p l e rm_X10_fits s m args below meth c A 0 0 Q q (F0 m 0 ls []) := by
  intro H locs hP hD hS
  have hx := F.1
  have hb := F.2.1
  unfold f_X10_fits_0 at h
  refine lv_iload_n hx hb dX10_fits_0 rfl (lv_at hl 0 rfl) ?_
  refine lv_if_eq (tgt := 9) hx hb dX10_fits_1 (by decide) (fun c1 => ?_) (fun c1 => ?_)
  · rw [if_pos c1] at h
    refine lv_iconst (v := 1) hx hb dX10_fits_9 (by decide) ?_
    refine lv_goto (tgt := 14) hx hb dX10_fits_10 (by decide) ?_
    cases h
    exact hRt _ _ zz_1 dX10_fits_14 _ _ hP hD hS
  · rw [if_neg c1] at h
    refine lv_iload_n hx hb dX10_fits_4 rfl (lv_at hl 0 rfl) ?_
    refine lv_iload_n hx hb dX10_fits_5 rfl (lv_at hl 1 rfl) ?_
    refine lv_icmp_ne (tgt := 13) hx hb dX10_fits_6 (by decide) (fun c2 => ?_) (fun c2 => ?_)
    · rw [if_neg c2] at h
      refine lv_iconst (v := 0) hx hb dX10_fits_13 (by decide) ?_
      cases h
      exact hRt _ _ zz_0 dX10_fits_14 _ _ hP hD hS
    · rw [if_pos c2] at h
      refine lv_iconst (v := 1) hx hb dX10_fits_9 (by decide) ?_
      refine lv_goto (tgt := 14) hx hb dX10_fits_10 (by decide) ?_
      cases h
      exact hRt _ _ zz_1 dX10_fits_14 _ _ hP hD hS
def f_X10_fits (x0 : Int32) (x1 : Int32) : Option (Int32) := f_X10_fits_0 x0 x1
set_option maxRecDepth 100000 in
theorem c_X10_fits {E : En} {l : Launch} (q : QS) (x0 : Int32) (x1 : Int32) {o : Int32} (h : f_X10_fits x0 x1 = some o) : Ct (wM E) E l yX10_fits (wy yX10_fits cX10_fits 2 (some .boolean)) rm_X10_fits q q [.int x0, .int x1] (some (.int o)) :=
  ct_Z (o := (o, q)) (by decide +kernel) (fun p e s m below meth c A Q F hA hRt H locs hP hD hS => en_W [.int x0, .int x1] (Nat.le_of_ble_eq_true rfl) (fun ls hl => g_X10_fits_0 F hA hRt x0 x1 h ls (lv_sub hl [0, 1] rfl) H locs hP hD hS))
def rm_X10_takes : Room := { frames := 1, cells := 0, slots := 0, locals := 21 }
def f_X10_takes_95 (x0 : Int32) (x1 : Int32) (x2 : Int32) (t0 : Int32) : Option (Int32) :=
  (f_X10_fits x1 t0).bind fun r10 =>
  if r10 = 0 then
    some (0 : Int32)
  else
    (f_X10_isTwo x0).bind fun r13 =>
    if r13 = 0 then
      some (1 : Int32)
    else
      (f_X10_fits x2 t0).bind fun r16 =>
      if r16 = 0 then
        some (0 : Int32)
      else
        some (1 : Int32)
set_option maxHeartbeats 4000000 in
set_option maxRecDepth 100000 in
theorem g_X10_takes_95 {E : En} {p : Program} {l : Launch} {e : Env} {s : State} {m : MethodId} {args : Array Value} {below : List Frame} {meth : Method} {c : Code} {A : Nat → Prop} {Q : State → Prop} (F : Fx E p s m args meth c (yX10_takes).cls cX10_takes 4 (some .boolean)) (hA : ∀ z : Nat, s.heap.size ≤ z → A z) {q : QS} {o : Int32} (hRt : RtZ (wM E) E p l e rm_X10_takes s m args below meth c A Q cX10_takes (o, q)) (x0 : Int32) (x1 : Int32) (x2 : Int32) (t0 : Int32) (h : f_X10_takes_95 x0 x1 x2 t0 = some o) (ls : Array Slot) (hl : lv_has ls 4 [(0, .int x0), (1, .int x1), (2, .int x2)]) : Wq (wM E) E p l e rm_X10_takes s m args below meth c A 0 0 Q q (F0 m 95 ls [.int t0]) := by
  intro H locs hP hD hS
  have hx := F.1
  have hb := F.2.1
  unfold f_X10_takes_95 at h
  refine lv_istore_n (lv' := [(3, .int t0), (0, .int x0), (1, .int x1), (2, .int x2)]) hx hb dX10_takes_95 rfl hl (by decide) rfl (fun ls hl => ?_)
  refine lv_iload_n hx hb dX10_takes_96 rfl (lv_at hl 2 rfl) ?_
  refine lv_iload_n hx hb dX10_takes_97 rfl (lv_at hl 0 rfl) ?_
  obtain ⟨r10, e11, h⟩ := Option.bind_eq_some_iff.mp h
  refine q_callS (As := [.int x1, .int t0]) (rest := []) F hA hP hD hS (c_X10_fits (E := E) (l := l) q x1 t0 e11) k_X10_fits st_X10_fits lm_X10_184 ⟨rfl, rfl⟩ ⟨by decide, by decide⟩ rfl hl.1 rfl (Nat.le_of_ble_eq_true rfl) dX10_takes_98 ⟨by decide, by decide⟩ ?_
  intro H locs hP hD hS
  refine lv_if_eq (tgt := 123) hx hb dX10_takes_101 (by decide) (fun c12 => ?_) (fun c12 => ?_)
  · rw [if_pos c12] at h
    refine lv_iconst (v := 0) hx hb dX10_takes_123 (by decide) ?_
    cases h
    exact hRt _ _ zz_0 dX10_takes_124 _ _ hP hD hS
  · rw [if_neg c12] at h
    refine lv_iload_n hx hb dX10_takes_104 rfl (lv_at hl 1 rfl) ?_
    obtain ⟨r13, e14, h⟩ := Option.bind_eq_some_iff.mp h
    refine q_callS (As := [.int x0]) (rest := []) F hA hP hD hS (c_X10_isTwo (E := E) (l := l) q x0 e14) k_X10_isTwo st_X10_isTwo lm_X10_188 ⟨rfl, rfl⟩ ⟨by decide, by decide⟩ rfl hl.1 rfl (Nat.le_of_ble_eq_true rfl) dX10_takes_105 ⟨by decide, by decide⟩ ?_
    intro H locs hP hD hS
    refine lv_if_eq (tgt := 119) hx hb dX10_takes_108 (by decide) (fun c15 => ?_) (fun c15 => ?_)
    · rw [if_pos c15] at h
      refine lv_iconst (v := 1) hx hb dX10_takes_119 (by decide) ?_
      refine lv_goto (tgt := 124) hx hb dX10_takes_120 (by decide) ?_
      cases h
      exact hRt _ _ zz_1 dX10_takes_124 _ _ hP hD hS
    · rw [if_neg c15] at h
      refine lv_iload_n hx hb dX10_takes_111 rfl (lv_at hl 3 rfl) ?_
      refine lv_iload_n hx hb dX10_takes_112 rfl (lv_at hl 0 rfl) ?_
      obtain ⟨r16, e17, h⟩ := Option.bind_eq_some_iff.mp h
      refine q_callS (As := [.int x2, .int t0]) (rest := []) F hA hP hD hS (c_X10_fits (E := E) (l := l) q x2 t0 e17) k_X10_fits st_X10_fits lm_X10_184 ⟨rfl, rfl⟩ ⟨by decide, by decide⟩ rfl hl.1 rfl (Nat.le_of_ble_eq_true rfl) dX10_takes_113 ⟨by decide, by decide⟩ ?_
      intro H locs hP hD hS
      refine lv_if_eq (tgt := 123) hx hb dX10_takes_116 (by decide) (fun c18 => ?_) (fun c18 => ?_)
      · rw [if_pos c18] at h
        refine lv_iconst (v := 0) hx hb dX10_takes_123 (by decide) ?_
        cases h
        exact hRt _ _ zz_0 dX10_takes_124 _ _ hP hD hS
      · rw [if_neg c18] at h
        refine lv_iconst (v := 1) hx hb dX10_takes_119 (by decide) ?_
        refine lv_goto (tgt := 124) hx hb dX10_takes_120 (by decide) ?_
        cases h
        exact hRt _ _ zz_1 dX10_takes_124 _ _ hP hD hS
def f_X10_takes_31 (x0 : Int32) (x1 : Int32) (x2 : Int32) : Option (Int32) :=
  if x0 = (6 : Int32) then
    some (1 : Int32)
  else
    if x0 = (23 : Int32) then
      some (1 : Int32)
    else
      if x0 = (24 : Int32) then
        some (1 : Int32)
      else
        if x0 = (8 : Int32) then
          if x1 = (3 : Int32) then
            some (0 : Int32)
          else
            some (1 : Int32)
        else
          if x0 = (9 : Int32) then
            if x1 = (3 : Int32) then
              some (0 : Int32)
            else
              some (1 : Int32)
          else
            if x0 = (16 : Int32) then
              f_X10_takes_95 x0 x1 x2 (2 : Int32)
            else
              if x0 < (25 : Int32) then
                f_X10_takes_95 x0 x1 x2 (1 : Int32)
              else
                f_X10_takes_95 x0 x1 x2 (3 : Int32)
set_option maxHeartbeats 4000000 in
set_option maxRecDepth 100000 in
theorem g_X10_takes_31 {E : En} {p : Program} {l : Launch} {e : Env} {s : State} {m : MethodId} {args : Array Value} {below : List Frame} {meth : Method} {c : Code} {A : Nat → Prop} {Q : State → Prop} (F : Fx E p s m args meth c (yX10_takes).cls cX10_takes 4 (some .boolean)) (hA : ∀ z : Nat, s.heap.size ≤ z → A z) {q : QS} {o : Int32} (hRt : RtZ (wM E) E p l e rm_X10_takes s m args below meth c A Q cX10_takes (o, q)) (x0 : Int32) (x1 : Int32) (x2 : Int32) (h : f_X10_takes_31 x0 x1 x2 = some o) (ls : Array Slot) (hl : lv_has ls 4 [(0, .int x0), (1, .int x1), (2, .int x2)]) : Wq (wM E) E p l e rm_X10_takes s m args below meth c A 0 0 Q q (F0 m 31 ls []) := by
  intro H locs hP hD hS
  have hx := F.1
  have hb := F.2.1
  unfold f_X10_takes_31 at h
  refine lv_iload_n hx hb dX10_takes_31 rfl (lv_at hl 0 rfl) ?_
  refine lv_bipush (v := 6) hx hb dX10_takes_32 (by decide) ?_
  refine lv_icmp_eq (tgt := 49) hx hb dX10_takes_34 (by decide) (fun c2 => ?_) (fun c2 => ?_)
  · rw [if_pos c2] at h
    refine lv_iconst (v := 1) hx hb dX10_takes_49 (by decide) ?_
    cases h
    exact hRt _ _ zz_1 dX10_takes_50 _ _ hP hD hS
  · rw [if_neg c2] at h
    refine lv_iload_n hx hb dX10_takes_37 rfl (lv_at hl 0 rfl) ?_
    refine lv_bipush (v := 23) hx hb dX10_takes_38 (by decide) ?_
    refine lv_icmp_eq (tgt := 49) hx hb dX10_takes_40 (by decide) (fun c3 => ?_) (fun c3 => ?_)
    · rw [if_pos c3] at h
      refine lv_iconst (v := 1) hx hb dX10_takes_49 (by decide) ?_
      cases h
      exact hRt _ _ zz_1 dX10_takes_50 _ _ hP hD hS
    · rw [if_neg c3] at h
      refine lv_iload_n hx hb dX10_takes_43 rfl (lv_at hl 0 rfl) ?_
      refine lv_bipush (v := 24) hx hb dX10_takes_44 (by decide) ?_
      refine lv_icmp_ne (tgt := 51) hx hb dX10_takes_46 (by decide) (fun c4 => ?_) (fun c4 => ?_)
      · rw [if_neg c4] at h
        refine lv_iload_n hx hb dX10_takes_51 rfl (lv_at hl 0 rfl) ?_
        refine lv_bipush (v := 8) hx hb dX10_takes_52 (by decide) ?_
        refine lv_icmp_eq (tgt := 63) hx hb dX10_takes_54 (by decide) (fun c5 => ?_) (fun c5 => ?_)
        · rw [if_pos c5] at h
          refine lv_iload_n hx hb dX10_takes_63 rfl (lv_at hl 1 rfl) ?_
          refine lv_iconst (v := 3) hx hb dX10_takes_64 (by decide) ?_
          refine lv_icmp_eq (tgt := 72) hx hb dX10_takes_65 (by decide) (fun c6 => ?_) (fun c6 => ?_)
          · rw [if_pos c6] at h
            refine lv_iconst (v := 0) hx hb dX10_takes_72 (by decide) ?_
            cases h
            exact hRt _ _ zz_0 dX10_takes_73 _ _ hP hD hS
          · rw [if_neg c6] at h
            refine lv_iconst (v := 1) hx hb dX10_takes_68 (by decide) ?_
            refine lv_goto (tgt := 73) hx hb dX10_takes_69 (by decide) ?_
            cases h
            exact hRt _ _ zz_1 dX10_takes_73 _ _ hP hD hS
        · rw [if_neg c5] at h
          refine lv_iload_n hx hb dX10_takes_57 rfl (lv_at hl 0 rfl) ?_
          refine lv_bipush (v := 9) hx hb dX10_takes_58 (by decide) ?_
          refine lv_icmp_ne (tgt := 74) hx hb dX10_takes_60 (by decide) (fun c7 => ?_) (fun c7 => ?_)
          · rw [if_neg c7] at h
            refine lv_iload_n hx hb dX10_takes_74 rfl (lv_at hl 0 rfl) ?_
            refine lv_bipush (v := 16) hx hb dX10_takes_75 (by decide) ?_
            refine lv_icmp_ne (tgt := 84) hx hb dX10_takes_77 (by decide) (fun c8 => ?_) (fun c8 => ?_)
            · rw [if_neg c8] at h
              refine lv_iload_n hx hb dX10_takes_84 rfl (lv_at hl 0 rfl) ?_
              refine lv_bipush (v := 25) hx hb dX10_takes_85 (by decide) ?_
              refine lv_icmp_lt (tgt := 94) hx hb dX10_takes_87 (by decide) (fun c9 => ?_) (fun c9 => ?_)
              · rw [if_pos c9] at h
                refine lv_iconst (v := 1) hx hb dX10_takes_94 (by decide) ?_
                exact g_X10_takes_95 F hA hRt x0 x1 x2 (1 : Int32) h _ (lv_sub hl [0, 1, 2] rfl) _ _ hP hD hS
              · rw [if_neg c9] at h
                refine lv_iconst (v := 3) hx hb dX10_takes_90 (by decide) ?_
                refine lv_goto (tgt := 95) hx hb dX10_takes_91 (by decide) ?_
                exact g_X10_takes_95 F hA hRt x0 x1 x2 (3 : Int32) h _ (lv_sub hl [0, 1, 2] rfl) _ _ hP hD hS
            · rw [if_pos c8] at h
              refine lv_iconst (v := 2) hx hb dX10_takes_80 (by decide) ?_
              refine lv_goto (tgt := 95) hx hb dX10_takes_81 (by decide) ?_
              exact g_X10_takes_95 F hA hRt x0 x1 x2 (2 : Int32) h _ (lv_sub hl [0, 1, 2] rfl) _ _ hP hD hS
          · rw [if_pos c7] at h
            refine lv_iload_n hx hb dX10_takes_63 rfl (lv_at hl 1 rfl) ?_
            refine lv_iconst (v := 3) hx hb dX10_takes_64 (by decide) ?_
            refine lv_icmp_eq (tgt := 72) hx hb dX10_takes_65 (by decide) (fun c19 => ?_) (fun c19 => ?_)
            · rw [if_pos c19] at h
              refine lv_iconst (v := 0) hx hb dX10_takes_72 (by decide) ?_
              cases h
              exact hRt _ _ zz_0 dX10_takes_73 _ _ hP hD hS
            · rw [if_neg c19] at h
              refine lv_iconst (v := 1) hx hb dX10_takes_68 (by decide) ?_
              refine lv_goto (tgt := 73) hx hb dX10_takes_69 (by decide) ?_
              cases h
              exact hRt _ _ zz_1 dX10_takes_73 _ _ hP hD hS
      · rw [if_pos c4] at h
        refine lv_iconst (v := 1) hx hb dX10_takes_49 (by decide) ?_
        cases h
        exact hRt _ _ zz_1 dX10_takes_50 _ _ hP hD hS
def f_X10_takes_0 (x0 : Int32) (x1 : Int32) (x2 : Int32) : Option (Int32) :=
  if x0 < (17 : Int32) then
    f_X10_takes_31 x0 x1 x2
  else
    if (22 : Int32) < x0 then
      f_X10_takes_31 x0 x1 x2
    else
      if x1 = 0 then
        some (1 : Int32)
      else
        if x2 = 0 then
          some (1 : Int32)
        else
          if x1 = x2 then
            some (1 : Int32)
          else
            some (0 : Int32)
set_option maxHeartbeats 4000000 in
set_option maxRecDepth 100000 in
theorem g_X10_takes_0 {E : En} {p : Program} {l : Launch} {e : Env} {s : State} {m : MethodId} {args : Array Value} {below : List Frame} {meth : Method} {c : Code} {A : Nat → Prop} {Q : State → Prop} (F : Fx E p s m args meth c (yX10_takes).cls cX10_takes 4 (some .boolean)) (hA : ∀ z : Nat, s.heap.size ≤ z → A z) {q : QS} {o : Int32} (hRt : RtZ (wM E) E p l e rm_X10_takes s m args below meth c A Q cX10_takes (o, q)) (x0 : Int32) (x1 : Int32) (x2 : Int32) (h : f_X10_takes_0 x0 x1 x2 = some o) (ls : Array Slot) (hl : lv_has ls 4 [(0, .int x0), (1, .int x1), (2, .int x2)]) : Wq (wM E) E p l e rm_X10_takes s m args below meth c A 0 0 Q q (F0 m 0 ls []) := by
  intro H locs hP hD hS
  have hx := F.1
  have hb := F.2.1
  unfold f_X10_takes_0 at h
  refine lv_iload_n hx hb dX10_takes_0 rfl (lv_at hl 0 rfl) ?_
  refine lv_bipush (v := 17) hx hb dX10_takes_1 (by decide) ?_
  refine lv_icmp_lt (tgt := 31) hx hb dX10_takes_3 (by decide) (fun c1 => ?_) (fun c1 => ?_)
  · rw [if_pos c1] at h
    exact g_X10_takes_31 F hA hRt x0 x1 x2 h _ (lv_sub hl [0, 1, 2] rfl) _ _ hP hD hS
  · rw [if_neg c1] at h
    refine lv_iload_n hx hb dX10_takes_6 rfl (lv_at hl 0 rfl) ?_
    refine lv_bipush (v := 22) hx hb dX10_takes_7 (by decide) ?_
    refine lv_icmp_gt (tgt := 31) hx hb dX10_takes_9 (by decide) (fun c20 => ?_) (fun c20 => ?_)
    · rw [if_pos c20] at h
      exact g_X10_takes_31 F hA hRt x0 x1 x2 h _ (lv_sub hl [0, 1, 2] rfl) _ _ hP hD hS
    · rw [if_neg c20] at h
      refine lv_iload_n hx hb dX10_takes_12 rfl (lv_at hl 1 rfl) ?_
      refine lv_if_eq (tgt := 25) hx hb dX10_takes_13 (by decide) (fun c21 => ?_) (fun c21 => ?_)
      · rw [if_pos c21] at h
        refine lv_iconst (v := 1) hx hb dX10_takes_25 (by decide) ?_
        refine lv_goto (tgt := 30) hx hb dX10_takes_26 (by decide) ?_
        cases h
        exact hRt _ _ zz_1 dX10_takes_30 _ _ hP hD hS
      · rw [if_neg c21] at h
        refine lv_iload_n hx hb dX10_takes_16 rfl (lv_at hl 2 rfl) ?_
        refine lv_if_eq (tgt := 25) hx hb dX10_takes_17 (by decide) (fun c22 => ?_) (fun c22 => ?_)
        · rw [if_pos c22] at h
          refine lv_iconst (v := 1) hx hb dX10_takes_25 (by decide) ?_
          refine lv_goto (tgt := 30) hx hb dX10_takes_26 (by decide) ?_
          cases h
          exact hRt _ _ zz_1 dX10_takes_30 _ _ hP hD hS
        · rw [if_neg c22] at h
          refine lv_iload_n hx hb dX10_takes_20 rfl (lv_at hl 1 rfl) ?_
          refine lv_iload_n hx hb dX10_takes_21 rfl (lv_at hl 2 rfl) ?_
          refine lv_icmp_ne (tgt := 29) hx hb dX10_takes_22 (by decide) (fun c23 => ?_) (fun c23 => ?_)
          · rw [if_neg c23] at h
            refine lv_iconst (v := 0) hx hb dX10_takes_29 (by decide) ?_
            cases h
            exact hRt _ _ zz_0 dX10_takes_30 _ _ hP hD hS
          · rw [if_pos c23] at h
            refine lv_iconst (v := 1) hx hb dX10_takes_25 (by decide) ?_
            refine lv_goto (tgt := 30) hx hb dX10_takes_26 (by decide) ?_
            cases h
            exact hRt _ _ zz_1 dX10_takes_30 _ _ hP hD hS
def f_X10_takes (x0 : Int32) (x1 : Int32) (x2 : Int32) : Option (Int32) := f_X10_takes_0 x0 x1 x2
set_option maxRecDepth 100000 in
theorem c_X10_takes {E : En} {l : Launch} (q : QS) (x0 : Int32) (x1 : Int32) (x2 : Int32) {o : Int32} (h : f_X10_takes x0 x1 x2 = some o) : Ct (wM E) E l yX10_takes (wy yX10_takes cX10_takes 4 (some .boolean)) rm_X10_takes q q [.int x0, .int x1, .int x2] (some (.int o)) :=
  ct_Z (o := (o, q)) (by decide +kernel) (fun p e s m below meth c A Q F hA hRt H locs hP hD hS => en_W [.int x0, .int x1, .int x2] (Nat.le_of_ble_eq_true rfl) (fun ls hl => g_X10_takes_0 F hA hRt x0 x1 x2 h ls (lv_sub hl [0, 1, 2] rfl) H locs hP hD hS))
def rm_X10_node : Room := { frames := 2, cells := 0, slots := 0, locals := 44 }
def f_X10_node_190 (q : QS) (x1 : Int32) (x2 : Int32) (x3 : Int32) (x4 : Int32) (x5 : Int32) (t1 : Int32) (t2 : Int32) (t3 : Int32) : Option (Int32 × QS) :=
  if x1 < (10 : Int32) then
    (f_X10_made q t1 t2 t3 x5 (1 : Int32)).bind fun r27 =>
    some (r27.1, r27.2)
  else
    (rd (qI q 15) 200 x2).bind fun y29 =>
    if y29 = 0 then
      if x4 = 0 then
        (f_X10_made q t1 t2 t3 x5 (0 : Int32)).bind fun r35 =>
        some (r35.1, r35.2)
      else
        (rd (qI q 15) 200 x3).bind fun y37 =>
        if y37 = 0 then
          (f_X10_made q t1 t2 t3 x5 (0 : Int32)).bind fun r40 =>
          some (r40.1, r40.2)
        else
          (f_X10_made q t1 t2 t3 x5 (1 : Int32)).bind fun r42 =>
          some (r42.1, r42.2)
    else
      (f_X10_made q t1 t2 t3 x5 (1 : Int32)).bind fun r32 =>
      some (r32.1, r32.2)
set_option maxHeartbeats 4000000 in
set_option maxRecDepth 100000 in
theorem g_X10_node_190 {E : En} {p : Program} {l : Launch} {e : Env} {s : State} {m : MethodId} {args : Array Value} {below : List Frame} {meth : Method} {c : Code} {A : Nat → Prop} {Q : State → Prop} (F : Fx E p s m args meth c (yX10_node).cls cX10_node 6 (some .int)) (hA : ∀ z : Nat, s.heap.size ≤ z → A z) {o : Int32 × QS} (hRt : RtI (wM E) E p l e rm_X10_node s m args below meth c A Q cX10_node o) (q : QS) (x1 : Int32) (x2 : Int32) (x3 : Int32) (x4 : Int32) (x5 : Int32) (t1 : Int32) (t2 : Int32) (t3 : Int32) (h : f_X10_node_190 q x1 x2 x3 x4 x5 t1 t2 t3 = some o) (ls : Array Slot) (hl : lv_has ls 6 [(0, .ref (eA E 0)), (1, .int x1), (2, .int x2), (3, .int x3), (4, .int x4), (5, .int x5)]) : Wq (wM E) E p l e rm_X10_node s m args below meth c A 0 0 Q q (F0 m 190 ls [.int t3, .int t2, .int t1, .ref (eA E 0)]) := by
  intro H locs hP hD hS
  have hx := F.1
  have hb := F.2.1
  unfold f_X10_node_190 at h
  refine lv_iload hx hb dX10_node_190 (lv_at hl 5 rfl) ?_
  refine lv_iload_n hx hb dX10_node_192 rfl (lv_at hl 1 rfl) ?_
  refine lv_bipush (v := 10) hx hb dX10_node_193 (by decide) ?_
  refine lv_icmp_lt (tgt := 221) hx hb dX10_node_195 (by decide) (fun c26 => ?_) (fun c26 => ?_)
  · rw [if_pos c26] at h
    refine lv_iconst (v := 1) hx hb dX10_node_221 (by decide) ?_
    refine lv_goto (tgt := 226) hx hb dX10_node_222 (by decide) ?_
    obtain ⟨r27, e28, h⟩ := Option.bind_eq_some_iff.mp h
    refine q_callV (As := [.int t1, .int t2, .int t3, .int x5, .int (1 : Int32)]) (rest := []) F hA hP hD hS (c_X10_made (E := E) (l := l) q t1 t2 t3 x5 (1 : Int32) e28) k_X10_made in_X10_made se_X10_made lm_X10_180 0 (me_0 E q) rfl ⟨rfl, rfl⟩ ⟨by decide, by decide⟩ rfl hl.1 rfl (Nat.le_of_ble_eq_true rfl) dX10_node_226 ⟨by decide, by decide⟩ ?_
    intro H locs hP hD hS
    cases h
    exact hRt _ _ dX10_node_229 _ _ hP hD hS
  · rw [if_neg c26] at h
    refine lv_aload_n hx hb dX10_node_198 rfl (lv_at hl 0 rfl) ?_
    refine r_get F hP i_X10 0 (me_0 E q) rfl 17 (by decide) rfl lf_X10_55 rfl dX10_node_199 ?_
    refine lv_iload_n hx hb dX10_node_202 rfl (lv_at hl 2 rfl) ?_
    obtain ⟨y29, e30, h⟩ := Option.bind_eq_some_iff.mp h
    refine r_zald F hP 15 (me_15 E q) e30 dX10_node_203 ?_
    refine lv_if_ne (tgt := 221) hx hb dX10_node_204 (by decide) (fun c31 => ?_) (fun c31 => ?_)
    · rw [if_neg c31] at h
      refine lv_iconst (v := 1) hx hb dX10_node_221 (by decide) ?_
      refine lv_goto (tgt := 226) hx hb dX10_node_222 (by decide) ?_
      obtain ⟨r32, e33, h⟩ := Option.bind_eq_some_iff.mp h
      refine q_callV (As := [.int t1, .int t2, .int t3, .int x5, .int (1 : Int32)]) (rest := []) F hA hP hD hS (c_X10_made (E := E) (l := l) q t1 t2 t3 x5 (1 : Int32) e33) k_X10_made in_X10_made se_X10_made lm_X10_180 0 (me_0 E q) rfl ⟨rfl, rfl⟩ ⟨by decide, by decide⟩ rfl hl.1 rfl (Nat.le_of_ble_eq_true rfl) dX10_node_226 ⟨by decide, by decide⟩ ?_
      intro H locs hP hD hS
      cases h
      exact hRt _ _ dX10_node_229 _ _ hP hD hS
    · rw [if_pos c31] at h
      refine lv_iload hx hb dX10_node_207 (lv_at hl 4 rfl) ?_
      refine lv_if_eq (tgt := 225) hx hb dX10_node_209 (by decide) (fun c34 => ?_) (fun c34 => ?_)
      · rw [if_pos c34] at h
        refine lv_iconst (v := 0) hx hb dX10_node_225 (by decide) ?_
        obtain ⟨r35, e36, h⟩ := Option.bind_eq_some_iff.mp h
        refine q_callV (As := [.int t1, .int t2, .int t3, .int x5, .int (0 : Int32)]) (rest := []) F hA hP hD hS (c_X10_made (E := E) (l := l) q t1 t2 t3 x5 (0 : Int32) e36) k_X10_made in_X10_made se_X10_made lm_X10_180 0 (me_0 E q) rfl ⟨rfl, rfl⟩ ⟨by decide, by decide⟩ rfl hl.1 rfl (Nat.le_of_ble_eq_true rfl) dX10_node_226 ⟨by decide, by decide⟩ ?_
        intro H locs hP hD hS
        cases h
        exact hRt _ _ dX10_node_229 _ _ hP hD hS
      · rw [if_neg c34] at h
        refine lv_aload_n hx hb dX10_node_212 rfl (lv_at hl 0 rfl) ?_
        refine r_get F hP i_X10 0 (me_0 E q) rfl 17 (by decide) rfl lf_X10_55 rfl dX10_node_213 ?_
        refine lv_iload_n hx hb dX10_node_216 rfl (lv_at hl 3 rfl) ?_
        obtain ⟨y37, e38, h⟩ := Option.bind_eq_some_iff.mp h
        refine r_zald F hP 15 (me_15 E q) e38 dX10_node_217 ?_
        refine lv_if_eq (tgt := 225) hx hb dX10_node_218 (by decide) (fun c39 => ?_) (fun c39 => ?_)
        · rw [if_pos c39] at h
          refine lv_iconst (v := 0) hx hb dX10_node_225 (by decide) ?_
          obtain ⟨r40, e41, h⟩ := Option.bind_eq_some_iff.mp h
          refine q_callV (As := [.int t1, .int t2, .int t3, .int x5, .int (0 : Int32)]) (rest := []) F hA hP hD hS (c_X10_made (E := E) (l := l) q t1 t2 t3 x5 (0 : Int32) e41) k_X10_made in_X10_made se_X10_made lm_X10_180 0 (me_0 E q) rfl ⟨rfl, rfl⟩ ⟨by decide, by decide⟩ rfl hl.1 rfl (Nat.le_of_ble_eq_true rfl) dX10_node_226 ⟨by decide, by decide⟩ ?_
          intro H locs hP hD hS
          cases h
          exact hRt _ _ dX10_node_229 _ _ hP hD hS
        · rw [if_neg c39] at h
          refine lv_iconst (v := 1) hx hb dX10_node_221 (by decide) ?_
          refine lv_goto (tgt := 226) hx hb dX10_node_222 (by decide) ?_
          obtain ⟨r42, e43, h⟩ := Option.bind_eq_some_iff.mp h
          refine q_callV (As := [.int t1, .int t2, .int t3, .int x5, .int (1 : Int32)]) (rest := []) F hA hP hD hS (c_X10_made (E := E) (l := l) q t1 t2 t3 x5 (1 : Int32) e43) k_X10_made in_X10_made se_X10_made lm_X10_180 0 (me_0 E q) rfl ⟨rfl, rfl⟩ ⟨by decide, by decide⟩ rfl hl.1 rfl (Nat.le_of_ble_eq_true rfl) dX10_node_226 ⟨by decide, by decide⟩ ?_
          intro H locs hP hD hS
          cases h
          exact hRt _ _ dX10_node_229 _ _ hP hD hS
def f_X10_node_175 (q : QS) (x1 : Int32) (x2 : Int32) (x3 : Int32) (x4 : Int32) (t0 : Int32) : Option (Int32 × QS) :=
  if x4 = 0 then
    f_X10_node_190 q x1 x2 x3 x4 t0 x1 x2 (-1 : Int32)
  else
    f_X10_node_190 q x1 x2 x3 x4 t0 x1 x2 x3
set_option maxHeartbeats 4000000 in
set_option maxRecDepth 100000 in
theorem g_X10_node_175 {E : En} {p : Program} {l : Launch} {e : Env} {s : State} {m : MethodId} {args : Array Value} {below : List Frame} {meth : Method} {c : Code} {A : Nat → Prop} {Q : State → Prop} (F : Fx E p s m args meth c (yX10_node).cls cX10_node 6 (some .int)) (hA : ∀ z : Nat, s.heap.size ≤ z → A z) {o : Int32 × QS} (hRt : RtI (wM E) E p l e rm_X10_node s m args below meth c A Q cX10_node o) (q : QS) (x1 : Int32) (x2 : Int32) (x3 : Int32) (x4 : Int32) (t0 : Int32) (h : f_X10_node_175 q x1 x2 x3 x4 t0 = some o) (ls : Array Slot) (hl : lv_has ls 6 [(0, .ref (eA E 0)), (1, .int x1), (2, .int x2), (3, .int x3), (4, .int x4)]) : Wq (wM E) E p l e rm_X10_node s m args below meth c A 0 0 Q q (F0 m 175 ls [.int t0]) := by
  intro H locs hP hD hS
  have hx := F.1
  have hb := F.2.1
  unfold f_X10_node_175 at h
  refine lv_istore (lv' := [(5, .int t0), (0, .ref (eA E 0)), (1, .int x1), (2, .int x2), (3, .int x3), (4, .int x4)]) hx hb dX10_node_175 hl (by decide) rfl (fun ls hl => ?_)
  refine lv_aload_n hx hb dX10_node_177 rfl (lv_at hl 1 rfl) ?_
  refine lv_iload_n hx hb dX10_node_178 rfl (lv_at hl 2 rfl) ?_
  refine lv_iload_n hx hb dX10_node_179 rfl (lv_at hl 3 rfl) ?_
  refine lv_iload hx hb dX10_node_180 (lv_at hl 5 rfl) ?_
  refine lv_if_eq (tgt := 189) hx hb dX10_node_182 (by decide) (fun c25 => ?_) (fun c25 => ?_)
  · rw [if_pos c25] at h
    refine lv_iconst (v := (-1)) hx hb dX10_node_189 (by decide) ?_
    exact g_X10_node_190 F hA hRt q x1 x2 x3 x4 t0 x1 x2 (-1 : Int32) h _ (lv_sub hl [1, 2, 3, 4, 5, 0] rfl) _ _ hP hD hS
  · rw [if_neg c25] at h
    refine lv_iload_n hx hb dX10_node_185 rfl (lv_at hl 4 rfl) ?_
    refine lv_goto (tgt := 190) hx hb dX10_node_186 (by decide) ?_
    exact g_X10_node_190 F hA hRt q x1 x2 x3 x4 t0 x1 x2 x3 h _ (lv_sub hl [1, 2, 3, 4, 5, 0] rfl) _ _ hP hD hS
def f_X10_node_145 (q : QS) (x1 : Int32) (x2 : Int32) (x3 : Int32) (x4 : Int32) : Option (Int32 × QS) :=
  (rd (qI q 14) 200 x2).bind fun y23 =>
  f_X10_node_175 q x1 x2 x3 x4 y23
set_option maxHeartbeats 4000000 in
set_option maxRecDepth 100000 in
theorem g_X10_node_145 {E : En} {p : Program} {l : Launch} {e : Env} {s : State} {m : MethodId} {args : Array Value} {below : List Frame} {meth : Method} {c : Code} {A : Nat → Prop} {Q : State → Prop} (F : Fx E p s m args meth c (yX10_node).cls cX10_node 6 (some .int)) (hA : ∀ z : Nat, s.heap.size ≤ z → A z) {o : Int32 × QS} (hRt : RtI (wM E) E p l e rm_X10_node s m args below meth c A Q cX10_node o) (q : QS) (x1 : Int32) (x2 : Int32) (x3 : Int32) (x4 : Int32) (h : f_X10_node_145 q x1 x2 x3 x4 = some o) (ls : Array Slot) (hl : lv_has ls 6 [(0, .ref (eA E 0)), (1, .int x1), (2, .int x2), (3, .int x3), (4, .int x4)]) : Wq (wM E) E p l e rm_X10_node s m args below meth c A 0 0 Q q (F0 m 145 ls []) := by
  intro H locs hP hD hS
  have hx := F.1
  have hb := F.2.1
  unfold f_X10_node_145 at h
  refine lv_aload_n hx hb dX10_node_145 rfl (lv_at hl 0 rfl) ?_
  refine r_get F hP i_X10 0 (me_0 E q) rfl 16 (by decide) rfl lf_X10_52 rfl dX10_node_146 ?_
  refine lv_iload_n hx hb dX10_node_149 rfl (lv_at hl 2 rfl) ?_
  obtain ⟨y23, e24, h⟩ := Option.bind_eq_some_iff.mp h
  refine r_iald F hP 14 (me_14 E q) e24 dX10_node_150 ?_
  refine lv_goto (tgt := 175) hx hb dX10_node_151 (by decide) ?_
  exact g_X10_node_175 F hA hRt q x1 x2 x3 x4 y23 h _ (lv_sub hl [0, 1, 2, 3, 4] rfl) _ _ hP hD hS
def f_X10_node_133 (q : QS) (x1 : Int32) (x2 : Int32) (x3 : Int32) (x4 : Int32) : Option (Int32 × QS) :=
  if x1 = (8 : Int32) then
    f_X10_node_145 q x1 x2 x3 x4
  else
    if x1 = (9 : Int32) then
      f_X10_node_145 q x1 x2 x3 x4
    else
      if (16 : Int32) ≤ x1 then
        if x1 = (16 : Int32) then
          f_X10_node_175 q x1 x2 x3 x4 (2 : Int32)
        else
          f_X10_node_175 q x1 x2 x3 x4 (3 : Int32)
      else
        f_X10_node_175 q x1 x2 x3 x4 (1 : Int32)
set_option maxHeartbeats 4000000 in
set_option maxRecDepth 100000 in
theorem g_X10_node_133 {E : En} {p : Program} {l : Launch} {e : Env} {s : State} {m : MethodId} {args : Array Value} {below : List Frame} {meth : Method} {c : Code} {A : Nat → Prop} {Q : State → Prop} (F : Fx E p s m args meth c (yX10_node).cls cX10_node 6 (some .int)) (hA : ∀ z : Nat, s.heap.size ≤ z → A z) {o : Int32 × QS} (hRt : RtI (wM E) E p l e rm_X10_node s m args below meth c A Q cX10_node o) (q : QS) (x1 : Int32) (x2 : Int32) (x3 : Int32) (x4 : Int32) (h : f_X10_node_133 q x1 x2 x3 x4 = some o) (ls : Array Slot) (hl : lv_has ls 6 [(0, .ref (eA E 0)), (1, .int x1), (2, .int x2), (3, .int x3), (4, .int x4)]) : Wq (wM E) E p l e rm_X10_node s m args below meth c A 0 0 Q q (F0 m 133 ls []) := by
  intro H locs hP hD hS
  have hx := F.1
  have hb := F.2.1
  unfold f_X10_node_133 at h
  refine lv_iload_n hx hb dX10_node_133 rfl (lv_at hl 1 rfl) ?_
  refine lv_bipush (v := 8) hx hb dX10_node_134 (by decide) ?_
  refine lv_icmp_eq (tgt := 145) hx hb dX10_node_136 (by decide) (fun c22 => ?_) (fun c22 => ?_)
  · rw [if_pos c22] at h
    exact g_X10_node_145 F hA hRt q x1 x2 x3 x4 h _ (lv_sub hl [0, 1, 2, 3, 4] rfl) _ _ hP hD hS
  · rw [if_neg c22] at h
    refine lv_iload_n hx hb dX10_node_139 rfl (lv_at hl 1 rfl) ?_
    refine lv_bipush (v := 9) hx hb dX10_node_140 (by decide) ?_
    refine lv_icmp_ne (tgt := 154) hx hb dX10_node_142 (by decide) (fun c44 => ?_) (fun c44 => ?_)
    · rw [if_neg c44] at h
      refine lv_iload_n hx hb dX10_node_154 rfl (lv_at hl 1 rfl) ?_
      refine lv_bipush (v := 16) hx hb dX10_node_155 (by decide) ?_
      refine lv_icmp_ge (tgt := 164) hx hb dX10_node_157 (by decide) (fun c45 => ?_) (fun c45 => ?_)
      · rw [if_pos c45] at h
        refine lv_iload_n hx hb dX10_node_164 rfl (lv_at hl 1 rfl) ?_
        refine lv_bipush (v := 16) hx hb dX10_node_165 (by decide) ?_
        refine lv_icmp_ne (tgt := 174) hx hb dX10_node_167 (by decide) (fun c46 => ?_) (fun c46 => ?_)
        · rw [if_neg c46] at h
          refine lv_iconst (v := 3) hx hb dX10_node_174 (by decide) ?_
          exact g_X10_node_175 F hA hRt q x1 x2 x3 x4 (3 : Int32) h _ (lv_sub hl [0, 1, 2, 3, 4] rfl) _ _ hP hD hS
        · rw [if_pos c46] at h
          refine lv_iconst (v := 2) hx hb dX10_node_170 (by decide) ?_
          refine lv_goto (tgt := 175) hx hb dX10_node_171 (by decide) ?_
          exact g_X10_node_175 F hA hRt q x1 x2 x3 x4 (2 : Int32) h _ (lv_sub hl [0, 1, 2, 3, 4] rfl) _ _ hP hD hS
      · rw [if_neg c45] at h
        refine lv_iconst (v := 1) hx hb dX10_node_160 (by decide) ?_
        refine lv_goto (tgt := 175) hx hb dX10_node_161 (by decide) ?_
        exact g_X10_node_175 F hA hRt q x1 x2 x3 x4 (1 : Int32) h _ (lv_sub hl [0, 1, 2, 3, 4] rfl) _ _ hP hD hS
    · rw [if_pos c44] at h
      exact g_X10_node_145 F hA hRt q x1 x2 x3 x4 h _ (lv_sub hl [0, 1, 2, 3, 4] rfl) _ _ hP hD hS
def f_X10_node_114 (q : QS) (x1 : Int32) (x2 : Int32) (x3 : Int32) (x4 : Int32) : Option (Int32 × QS) :=
  (wI q 16 200 x2 (vp_nar .boolean (1 : Int32))).bind fun q19 =>
  if x4 = 0 then
    f_X10_node_133 q19 x1 x2 x3 x4
  else
    (wI q19 16 200 x3 (vp_nar .boolean (1 : Int32))).bind fun q47 =>
    f_X10_node_133 q47 x1 x2 x3 x4
set_option maxHeartbeats 4000000 in
set_option maxRecDepth 100000 in
theorem g_X10_node_114 {E : En} {p : Program} {l : Launch} {e : Env} {s : State} {m : MethodId} {args : Array Value} {below : List Frame} {meth : Method} {c : Code} {A : Nat → Prop} {Q : State → Prop} (F : Fx E p s m args meth c (yX10_node).cls cX10_node 6 (some .int)) (hA : ∀ z : Nat, s.heap.size ≤ z → A z) {o : Int32 × QS} (hRt : RtI (wM E) E p l e rm_X10_node s m args below meth c A Q cX10_node o) (q : QS) (x1 : Int32) (x2 : Int32) (x3 : Int32) (x4 : Int32) (h : f_X10_node_114 q x1 x2 x3 x4 = some o) (ls : Array Slot) (hl : lv_has ls 6 [(0, .ref (eA E 0)), (1, .int x1), (2, .int x2), (3, .int x3), (4, .int x4)]) : Wq (wM E) E p l e rm_X10_node s m args below meth c A 0 0 Q q (F0 m 114 ls []) := by
  intro H locs hP hD hS
  have hx := F.1
  have hb := F.2.1
  unfold f_X10_node_114 at h
  refine lv_aload_n hx hb dX10_node_114 rfl (lv_at hl 0 rfl) ?_
  refine r_get F hP i_X10 0 (me_0 E q) rfl 18 (by decide) rfl lf_X10_59 rfl dX10_node_115 ?_
  refine lv_iload_n hx hb dX10_node_118 rfl (lv_at hl 2 rfl) ?_
  refine lv_iconst (v := 1) hx hb dX10_node_119 (by decide) ?_
  obtain ⟨q19, e20, h⟩ := Option.bind_eq_some_iff.mp h
  refine r_zast F hP hD hS 16 (me_16 E q) (ms_16 E q) e20 dX10_node_120 ?_
  intro H locs hP hD hS
  refine lv_iload hx hb dX10_node_121 (lv_at hl 4 rfl) ?_
  refine lv_if_eq (tgt := 133) hx hb dX10_node_123 (by decide) (fun c21 => ?_) (fun c21 => ?_)
  · rw [if_pos c21] at h
    exact g_X10_node_133 F hA hRt q19 x1 x2 x3 x4 h _ (lv_sub hl [0, 1, 2, 3, 4] rfl) _ _ hP hD hS
  · rw [if_neg c21] at h
    refine lv_aload_n hx hb dX10_node_126 rfl (lv_at hl 0 rfl) ?_
    refine r_get F hP i_X10 0 (me_0 E q19) rfl 18 (by decide) rfl lf_X10_59 rfl dX10_node_127 ?_
    refine lv_iload_n hx hb dX10_node_130 rfl (lv_at hl 3 rfl) ?_
    refine lv_iconst (v := 1) hx hb dX10_node_131 (by decide) ?_
    obtain ⟨q47, e48, h⟩ := Option.bind_eq_some_iff.mp h
    refine r_zast F hP hD hS 16 (me_16 E q19) (ms_16 E q19) e48 dX10_node_132 ?_
    intro H locs hP hD hS
    exact g_X10_node_133 F hA hRt q47 x1 x2 x3 x4 h _ (lv_sub hl [0, 1, 2, 3, 4] rfl) _ _ hP hD hS
def f_X10_node_91 (q : QS) (x1 : Int32) (x2 : Int32) (x3 : Int32) (x4 : Int32) (t0 : Int32) (t1 : Int32) (t2 : Int32) : Option (Int32 × QS) :=
  (f_X10_takes t0 t1 t2).bind fun r15 =>
  if r15 = 0 then
    some ((-1 : Int32), q)
  else
    if (10 : Int32) ≤ x1 then
      f_X10_node_114 q x1 x2 x3 x4
    else
      (rd (qI q 15) 200 x2).bind fun y49 =>
      if y49 = 0 then
        f_X10_node_114 q x1 x2 x3 x4
      else
        some ((-1 : Int32), q)
set_option maxHeartbeats 4000000 in
set_option maxRecDepth 100000 in
theorem g_X10_node_91 {E : En} {p : Program} {l : Launch} {e : Env} {s : State} {m : MethodId} {args : Array Value} {below : List Frame} {meth : Method} {c : Code} {A : Nat → Prop} {Q : State → Prop} (F : Fx E p s m args meth c (yX10_node).cls cX10_node 6 (some .int)) (hA : ∀ z : Nat, s.heap.size ≤ z → A z) {o : Int32 × QS} (hRt : RtI (wM E) E p l e rm_X10_node s m args below meth c A Q cX10_node o) (q : QS) (x1 : Int32) (x2 : Int32) (x3 : Int32) (x4 : Int32) (t0 : Int32) (t1 : Int32) (t2 : Int32) (h : f_X10_node_91 q x1 x2 x3 x4 t0 t1 t2 = some o) (ls : Array Slot) (hl : lv_has ls 6 [(0, .ref (eA E 0)), (1, .int x1), (2, .int x2), (3, .int x3), (4, .int x4)]) : Wq (wM E) E p l e rm_X10_node s m args below meth c A 0 0 Q q (F0 m 91 ls [.int t2, .int t1, .int t0]) := by
  intro H locs hP hD hS
  have hx := F.1
  have hb := F.2.1
  unfold f_X10_node_91 at h
  obtain ⟨r15, e16, h⟩ := Option.bind_eq_some_iff.mp h
  refine q_callS (As := [.int t0, .int t1, .int t2]) (rest := []) F hA hP hD hS (c_X10_takes (E := E) (l := l) q t0 t1 t2 e16) k_X10_takes st_X10_takes lm_X10_195 ⟨rfl, rfl⟩ ⟨by decide, by decide⟩ rfl hl.1 rfl (Nat.le_of_ble_eq_true rfl) dX10_node_91 ⟨by decide, by decide⟩ ?_
  intro H locs hP hD hS
  refine lv_if_eq (tgt := 112) hx hb dX10_node_94 (by decide) (fun c17 => ?_) (fun c17 => ?_)
  · rw [if_pos c17] at h
    refine lv_iconst (v := (-1)) hx hb dX10_node_112 (by decide) ?_
    cases h
    exact hRt _ _ dX10_node_113 _ _ hP hD hS
  · rw [if_neg c17] at h
    refine lv_iload_n hx hb dX10_node_97 rfl (lv_at hl 1 rfl) ?_
    refine lv_bipush (v := 10) hx hb dX10_node_98 (by decide) ?_
    refine lv_icmp_ge (tgt := 114) hx hb dX10_node_100 (by decide) (fun c18 => ?_) (fun c18 => ?_)
    · rw [if_pos c18] at h
      exact g_X10_node_114 F hA hRt q x1 x2 x3 x4 h _ (lv_sub hl [0, 1, 2, 3, 4] rfl) _ _ hP hD hS
    · rw [if_neg c18] at h
      refine lv_aload_n hx hb dX10_node_103 rfl (lv_at hl 0 rfl) ?_
      refine r_get F hP i_X10 0 (me_0 E q) rfl 17 (by decide) rfl lf_X10_55 rfl dX10_node_104 ?_
      refine lv_iload_n hx hb dX10_node_107 rfl (lv_at hl 2 rfl) ?_
      obtain ⟨y49, e50, h⟩ := Option.bind_eq_some_iff.mp h
      refine r_zald F hP 15 (me_15 E q) e50 dX10_node_108 ?_
      refine lv_if_eq (tgt := 114) hx hb dX10_node_109 (by decide) (fun c51 => ?_) (fun c51 => ?_)
      · rw [if_pos c51] at h
        exact g_X10_node_114 F hA hRt q x1 x2 x3 x4 h _ (lv_sub hl [0, 1, 2, 3, 4] rfl) _ _ hP hD hS
      · rw [if_neg c51] at h
        refine lv_iconst (v := (-1)) hx hb dX10_node_112 (by decide) ?_
        cases h
        exact hRt _ _ dX10_node_113 _ _ hP hD hS
def f_X10_node_69 (q : QS) (x1 : Int32) (x2 : Int32) (x3 : Int32) (x4 : Int32) : Option (Int32 × QS) :=
  (rd (qI q 14) 200 x2).bind fun y12 =>
  if x4 = 0 then
    f_X10_node_91 q x1 x2 x3 x4 x1 y12 (0 : Int32)
  else
    (rd (qI q 14) 200 x3).bind fun y52 =>
    f_X10_node_91 q x1 x2 x3 x4 x1 y12 y52
set_option maxHeartbeats 4000000 in
set_option maxRecDepth 100000 in
theorem g_X10_node_69 {E : En} {p : Program} {l : Launch} {e : Env} {s : State} {m : MethodId} {args : Array Value} {below : List Frame} {meth : Method} {c : Code} {A : Nat → Prop} {Q : State → Prop} (F : Fx E p s m args meth c (yX10_node).cls cX10_node 6 (some .int)) (hA : ∀ z : Nat, s.heap.size ≤ z → A z) {o : Int32 × QS} (hRt : RtI (wM E) E p l e rm_X10_node s m args below meth c A Q cX10_node o) (q : QS) (x1 : Int32) (x2 : Int32) (x3 : Int32) (x4 : Int32) (h : f_X10_node_69 q x1 x2 x3 x4 = some o) (ls : Array Slot) (hl : lv_has ls 6 [(0, .ref (eA E 0)), (1, .int x1), (2, .int x2), (3, .int x3), (4, .int x4)]) : Wq (wM E) E p l e rm_X10_node s m args below meth c A 0 0 Q q (F0 m 69 ls []) := by
  intro H locs hP hD hS
  have hx := F.1
  have hb := F.2.1
  unfold f_X10_node_69 at h
  refine lv_iload_n hx hb dX10_node_69 rfl (lv_at hl 1 rfl) ?_
  refine lv_aload_n hx hb dX10_node_70 rfl (lv_at hl 0 rfl) ?_
  refine r_get F hP i_X10 0 (me_0 E q) rfl 16 (by decide) rfl lf_X10_52 rfl dX10_node_71 ?_
  refine lv_iload_n hx hb dX10_node_74 rfl (lv_at hl 2 rfl) ?_
  obtain ⟨y12, e13, h⟩ := Option.bind_eq_some_iff.mp h
  refine r_iald F hP 14 (me_14 E q) e13 dX10_node_75 ?_
  refine lv_iload hx hb dX10_node_76 (lv_at hl 4 rfl) ?_
  refine lv_if_eq (tgt := 90) hx hb dX10_node_78 (by decide) (fun c14 => ?_) (fun c14 => ?_)
  · rw [if_pos c14] at h
    refine lv_iconst (v := 0) hx hb dX10_node_90 (by decide) ?_
    exact g_X10_node_91 F hA hRt q x1 x2 x3 x4 x1 y12 (0 : Int32) h _ (lv_sub hl [0, 1, 2, 3, 4] rfl) _ _ hP hD hS
  · rw [if_neg c14] at h
    refine lv_aload_n hx hb dX10_node_81 rfl (lv_at hl 0 rfl) ?_
    refine r_get F hP i_X10 0 (me_0 E q) rfl 16 (by decide) rfl lf_X10_52 rfl dX10_node_82 ?_
    refine lv_iload_n hx hb dX10_node_85 rfl (lv_at hl 3 rfl) ?_
    obtain ⟨y52, e53, h⟩ := Option.bind_eq_some_iff.mp h
    refine r_iald F hP 14 (me_14 E q) e53 dX10_node_86 ?_
    refine lv_goto (tgt := 91) hx hb dX10_node_87 (by decide) ?_
    exact g_X10_node_91 F hA hRt q x1 x2 x3 x4 x1 y12 y52 h _ (lv_sub hl [0, 1, 2, 3, 4] rfl) _ _ hP hD hS
def f_X10_node_0 (q : QS) (x1 : Int32) (x2 : Int32) (x3 : Int32) : Option (Int32 × QS) :=
  (f_X10_in x1 (5 : Int32) (27 : Int32)).bind fun r1 =>
  if r1 = 0 then
    some ((-1 : Int32), q)
  else
    if (qF q 2) = (200 : Int32) then
      some ((-1 : Int32), q)
    else
      if x1 = (5 : Int32) then
        (f_X10_made q (5 : Int32) (-1 : Int32) (-1 : Int32) (1 : Int32) (1 : Int32)).bind fun r58 =>
        some (r58.1, r58.2)
      else
        (f_X10_isTwo x1).bind fun r6 =>
        (f_X10_isFree q x2).bind fun r8 =>
        if r8 = 0 then
          some ((-1 : Int32), q)
        else
          if r6 = 0 then
            f_X10_node_69 q x1 x2 x3 r6
          else
            (f_X10_isFree q x3).bind fun r54 =>
            if r54 = 0 then
              some ((-1 : Int32), q)
            else
              if x2 = x3 then
                some ((-1 : Int32), q)
              else
                f_X10_node_69 q x1 x2 x3 r6
set_option maxHeartbeats 4000000 in
set_option maxRecDepth 100000 in
theorem g_X10_node_0 {E : En} {p : Program} {l : Launch} {e : Env} {s : State} {m : MethodId} {args : Array Value} {below : List Frame} {meth : Method} {c : Code} {A : Nat → Prop} {Q : State → Prop} (F : Fx E p s m args meth c (yX10_node).cls cX10_node 6 (some .int)) (hA : ∀ z : Nat, s.heap.size ≤ z → A z) {o : Int32 × QS} (hRt : RtI (wM E) E p l e rm_X10_node s m args below meth c A Q cX10_node o) (q : QS) (x1 : Int32) (x2 : Int32) (x3 : Int32) (h : f_X10_node_0 q x1 x2 x3 = some o) (ls : Array Slot) (hl : lv_has ls 6 [(0, .ref (eA E 0)), (1, .int x1), (2, .int x2), (3, .int x3)]) : Wq (wM E) E p l e rm_X10_node s m args below meth c A 0 0 Q q (F0 m 0 ls []) := by
  intro H locs hP hD hS
  have hx := F.1
  have hb := F.2.1
  unfold f_X10_node_0 at h
  refine lv_iload_n hx hb dX10_node_0 rfl (lv_at hl 1 rfl) ?_
  refine lv_iconst (v := 5) hx hb dX10_node_1 (by decide) ?_
  refine lv_bipush (v := 27) hx hb dX10_node_2 (by decide) ?_
  obtain ⟨r1, e2, h⟩ := Option.bind_eq_some_iff.mp h
  refine q_callS (As := [.int x1, .int (5 : Int32), .int (27 : Int32)]) (rest := []) F hA hP hD hS (c_X10_in (E := E) (l := l) q x1 (5 : Int32) (27 : Int32) e2) k_X10_in st_X10_in lm_X10_169 ⟨rfl, rfl⟩ ⟨by decide, by decide⟩ rfl hl.1 rfl (Nat.le_of_ble_eq_true rfl) dX10_node_4 ⟨by decide, by decide⟩ ?_
  intro H locs hP hD hS
  refine lv_if_eq (tgt := 20) hx hb dX10_node_7 (by decide) (fun c3 => ?_) (fun c3 => ?_)
  · rw [if_pos c3] at h
    refine lv_iconst (v := (-1)) hx hb dX10_node_20 (by decide) ?_
    cases h
    exact hRt _ _ dX10_node_21 _ _ hP hD hS
  · rw [if_neg c3] at h
    refine lv_aload_n hx hb dX10_node_10 rfl (lv_at hl 0 rfl) ?_
    refine r_get F hP i_X10 0 (me_0 E q) rfl 12 (by decide) rfl lf_X10_147 rfl dX10_node_11 ?_
    refine lv_sipush (v := 200) hx hb dX10_node_14 (by decide) ?_
    refine lv_icmp_ne (tgt := 22) hx hb dX10_node_17 (by decide) (fun c4 => ?_) (fun c4 => ?_)
    · rw [if_neg c4] at h
      refine lv_iload_n hx hb dX10_node_22 rfl (lv_at hl 1 rfl) ?_
      refine lv_iconst (v := 5) hx hb dX10_node_23 (by decide) ?_
      refine lv_icmp_ne (tgt := 37) hx hb dX10_node_24 (by decide) (fun c5 => ?_) (fun c5 => ?_)
      · rw [if_neg c5] at h
        refine lv_iload_n hx hb dX10_node_37 rfl (lv_at hl 1 rfl) ?_
        obtain ⟨r6, e7, h⟩ := Option.bind_eq_some_iff.mp h
        refine q_callS (As := [.int x1]) (rest := []) F hA hP hD hS (c_X10_isTwo (E := E) (l := l) q x1 e7) k_X10_isTwo st_X10_isTwo lm_X10_188 ⟨rfl, rfl⟩ ⟨by decide, by decide⟩ rfl hl.1 rfl (Nat.le_of_ble_eq_true rfl) dX10_node_38 ⟨by decide, by decide⟩ ?_
        intro H locs hP hD hS
        refine lv_istore (lv' := [(4, .int r6), (0, .ref (eA E 0)), (1, .int x1), (2, .int x2), (3, .int x3)]) hx hb dX10_node_41 hl (by decide) rfl (fun ls hl => ?_)
        refine lv_aload_n hx hb dX10_node_43 rfl (lv_at hl 1 rfl) ?_
        refine lv_iload_n hx hb dX10_node_44 rfl (lv_at hl 3 rfl) ?_
        obtain ⟨r8, e9, h⟩ := Option.bind_eq_some_iff.mp h
        refine q_callV (As := [.int x2]) (rest := []) F hA hP hD hS (c_X10_isFree (E := E) (l := l) q x2 e9) k_X10_isFree in_X10_isFree se_X10_isFree lm_X10_192 0 (me_0 E q) rfl ⟨rfl, rfl⟩ ⟨by decide, by decide⟩ rfl hl.1 rfl (Nat.le_of_ble_eq_true rfl) dX10_node_45 ⟨by decide, by decide⟩ ?_
        intro H locs hP hD hS
        refine lv_if_eq (tgt := 112) hx hb dX10_node_48 (by decide) (fun c10 => ?_) (fun c10 => ?_)
        · rw [if_pos c10] at h
          refine lv_iconst (v := (-1)) hx hb dX10_node_112 (by decide) ?_
          cases h
          exact hRt _ _ dX10_node_113 _ _ hP hD hS
        · rw [if_neg c10] at h
          refine lv_iload hx hb dX10_node_51 (lv_at hl 0 rfl) ?_
          refine lv_if_eq (tgt := 69) hx hb dX10_node_53 (by decide) (fun c11 => ?_) (fun c11 => ?_)
          · rw [if_pos c11] at h
            exact g_X10_node_69 F hA hRt q x1 x2 x3 r6 h _ (lv_sub hl [1, 2, 3, 4, 0] rfl) _ _ hP hD hS
          · rw [if_neg c11] at h
            refine lv_aload_n hx hb dX10_node_56 rfl (lv_at hl 1 rfl) ?_
            refine lv_iload_n hx hb dX10_node_57 rfl (lv_at hl 4 rfl) ?_
            obtain ⟨r54, e55, h⟩ := Option.bind_eq_some_iff.mp h
            refine q_callV (As := [.int x3]) (rest := []) F hA hP hD hS (c_X10_isFree (E := E) (l := l) q x3 e55) k_X10_isFree in_X10_isFree se_X10_isFree lm_X10_192 0 (me_0 E q) rfl ⟨rfl, rfl⟩ ⟨by decide, by decide⟩ rfl hl.1 rfl (Nat.le_of_ble_eq_true rfl) dX10_node_58 ⟨by decide, by decide⟩ ?_
            intro H locs hP hD hS
            refine lv_if_eq (tgt := 112) hx hb dX10_node_61 (by decide) (fun c56 => ?_) (fun c56 => ?_)
            · rw [if_pos c56] at h
              refine lv_iconst (v := (-1)) hx hb dX10_node_112 (by decide) ?_
              cases h
              exact hRt _ _ dX10_node_113 _ _ hP hD hS
            · rw [if_neg c56] at h
              refine lv_iload_n hx hb dX10_node_64 rfl (lv_at hl 3 rfl) ?_
              refine lv_iload_n hx hb dX10_node_65 rfl (lv_at hl 4 rfl) ?_
              refine lv_icmp_eq (tgt := 112) hx hb dX10_node_66 (by decide) (fun c57 => ?_) (fun c57 => ?_)
              · rw [if_pos c57] at h
                refine lv_iconst (v := (-1)) hx hb dX10_node_112 (by decide) ?_
                cases h
                exact hRt _ _ dX10_node_113 _ _ hP hD hS
              · rw [if_neg c57] at h
                exact g_X10_node_69 F hA hRt q x1 x2 x3 r6 h _ (lv_sub hl [1, 2, 3, 4, 0] rfl) _ _ hP hD hS
      · rw [if_pos c5] at h
        refine lv_aload_n hx hb dX10_node_27 rfl (lv_at hl 0 rfl) ?_
        refine lv_iconst (v := 5) hx hb dX10_node_28 (by decide) ?_
        refine lv_iconst (v := (-1)) hx hb dX10_node_29 (by decide) ?_
        refine lv_iconst (v := (-1)) hx hb dX10_node_30 (by decide) ?_
        refine lv_iconst (v := 1) hx hb dX10_node_31 (by decide) ?_
        refine lv_iconst (v := 1) hx hb dX10_node_32 (by decide) ?_
        obtain ⟨r58, e59, h⟩ := Option.bind_eq_some_iff.mp h
        refine q_callV (As := [.int (5 : Int32), .int (-1 : Int32), .int (-1 : Int32), .int (1 : Int32), .int (1 : Int32)]) (rest := []) F hA hP hD hS (c_X10_made (E := E) (l := l) q (5 : Int32) (-1 : Int32) (-1 : Int32) (1 : Int32) (1 : Int32) e59) k_X10_made in_X10_made se_X10_made lm_X10_180 0 (me_0 E q) rfl ⟨rfl, rfl⟩ ⟨by decide, by decide⟩ rfl hl.1 rfl (Nat.le_of_ble_eq_true rfl) dX10_node_33 ⟨by decide, by decide⟩ ?_
        intro H locs hP hD hS
        cases h
        exact hRt _ _ dX10_node_36 _ _ hP hD hS
    · rw [if_pos c4] at h
      refine lv_iconst (v := (-1)) hx hb dX10_node_20 (by decide) ?_
      cases h
      exact hRt _ _ dX10_node_21 _ _ hP hD hS
def f_X10_node (q : QS) (x1 : Int32) (x2 : Int32) (x3 : Int32) : Option (Int32 × QS) := f_X10_node_0 q x1 x2 x3
set_option maxRecDepth 100000 in
theorem c_X10_node {E : En} {l : Launch} (q : QS) (x1 : Int32) (x2 : Int32) (x3 : Int32) {o : Int32 × QS} (h : f_X10_node q x1 x2 x3 = some o) : Ct (wM E) E l yX10_node (wy yX10_node cX10_node 6 (some .int)) rm_X10_node q o.2 [.ref (eA E 0), .int x1, .int x2, .int x3] (some (.int o.1)) :=
  ct_I (o := o) (by decide +kernel) rfl (fun p e s m below meth c A Q F hA hRt H locs hP hD hS => en_W [.ref (eA E 0), .int x1, .int x2, .int x3] (Nat.le_of_ble_eq_true rfl) (fun ls hl => g_X10_node_0 F hA hRt q x1 x2 x3 h ls (lv_sub hl [0, 1, 2, 3] rfl) H locs hP hD hS))
def rm_X10_type : Room := { frames := 1, cells := 0, slots := 0, locals := 22 }
def f_X10_type_0 (q : QS) (x1 : Int32) : Option (Int32) :=
  (f_X10_in x1 (0 : Int32) ((qF q 2) - (1 : Int32))).bind fun r1 =>
  if r1 = 0 then
    some (-1 : Int32)
  else
    (rd (qI q 14) 200 x1).bind fun y4 =>
    (rd (qI q 15) 200 x1).bind fun y6 =>
    if y6 = 0 then
      some (y4 + (0 : Int32))
    else
      some (y4 + (10 : Int32))
set_option maxHeartbeats 4000000 in
set_option maxRecDepth 100000 in
theorem g_X10_type_0 {E : En} {p : Program} {l : Launch} {e : Env} {s : State} {m : MethodId} {args : Array Value} {below : List Frame} {meth : Method} {c : Code} {A : Nat → Prop} {Q : State → Prop} (F : Fx E p s m args meth c (yX10_type).cls cX10_type 2 (some .int)) (hA : ∀ z : Nat, s.heap.size ≤ z → A z) {q : QS} {o : Int32} (hRt : RtI (wM E) E p l e rm_X10_type s m args below meth c A Q cX10_type (o, q)) (x1 : Int32) (h : f_X10_type_0 q x1 = some o) (ls : Array Slot) (hl : lv_has ls 2 [(0, .ref (eA E 0)), (1, .int x1)]) : Wq (wM E) E p l e rm_X10_type s m args below meth c A 0 0 Q q (F0 m 0 ls []) := by
  intro H locs hP hD hS
  have hx := F.1
  have hb := F.2.1
  unfold f_X10_type_0 at h
  refine lv_iload_n hx hb dX10_type_0 rfl (lv_at hl 1 rfl) ?_
  refine lv_iconst (v := 0) hx hb dX10_type_1 (by decide) ?_
  refine lv_aload_n hx hb dX10_type_2 rfl (lv_at hl 0 rfl) ?_
  refine r_get F hP i_X10 0 (me_0 E q) rfl 12 (by decide) rfl lf_X10_147 rfl dX10_type_3 ?_
  refine lv_iconst (v := 1) hx hb dX10_type_6 (by decide) ?_
  refine lv_isub hx hb dX10_type_7 ?_
  obtain ⟨r1, e2, h⟩ := Option.bind_eq_some_iff.mp h
  refine q_callS (As := [.int x1, .int (0 : Int32), .int ((qF q 2) - (1 : Int32))]) (rest := []) F hA hP hD hS (c_X10_in (E := E) (l := l) q x1 (0 : Int32) ((qF q 2) - (1 : Int32)) e2) k_X10_in st_X10_in lm_X10_169 ⟨rfl, rfl⟩ ⟨by decide, by decide⟩ rfl hl.1 rfl (Nat.le_of_ble_eq_true rfl) dX10_type_8 ⟨by decide, by decide⟩ ?_
  intro H locs hP hD hS
  refine lv_if_ne (tgt := 18) hx hb dX10_type_11 (by decide) (fun c3 => ?_) (fun c3 => ?_)
  · rw [if_neg c3] at h
    refine lv_aload_n hx hb dX10_type_18 rfl (lv_at hl 0 rfl) ?_
    refine r_get F hP i_X10 0 (me_0 E q) rfl 16 (by decide) rfl lf_X10_52 rfl dX10_type_19 ?_
    refine lv_iload_n hx hb dX10_type_22 rfl (lv_at hl 1 rfl) ?_
    obtain ⟨y4, e5, h⟩ := Option.bind_eq_some_iff.mp h
    refine r_iald F hP 14 (me_14 E q) e5 dX10_type_23 ?_
    refine lv_aload_n hx hb dX10_type_24 rfl (lv_at hl 0 rfl) ?_
    refine r_get F hP i_X10 0 (me_0 E q) rfl 17 (by decide) rfl lf_X10_55 rfl dX10_type_25 ?_
    refine lv_iload_n hx hb dX10_type_28 rfl (lv_at hl 1 rfl) ?_
    obtain ⟨y6, e7, h⟩ := Option.bind_eq_some_iff.mp h
    refine r_zald F hP 15 (me_15 E q) e7 dX10_type_29 ?_
    refine lv_if_eq (tgt := 38) hx hb dX10_type_30 (by decide) (fun c8 => ?_) (fun c8 => ?_)
    · rw [if_pos c8] at h
      refine lv_iconst (v := 0) hx hb dX10_type_38 (by decide) ?_
      refine lv_iadd hx hb dX10_type_39 ?_
      cases h
      exact hRt _ _ dX10_type_40 _ _ hP hD hS
    · rw [if_neg c8] at h
      refine lv_bipush (v := 10) hx hb dX10_type_33 (by decide) ?_
      refine lv_goto (tgt := 39) hx hb dX10_type_35 (by decide) ?_
      refine lv_iadd hx hb dX10_type_39 ?_
      cases h
      exact hRt _ _ dX10_type_40 _ _ hP hD hS
  · rw [if_pos c3] at h
    refine lv_iconst (v := (-1)) hx hb dX10_type_14 (by decide) ?_
    refine lv_goto (tgt := 40) hx hb dX10_type_15 (by decide) ?_
    cases h
    exact hRt _ _ dX10_type_40 _ _ hP hD hS
def f_X10_type (q : QS) (x1 : Int32) : Option (Int32) := f_X10_type_0 q x1
set_option maxRecDepth 100000 in
theorem c_X10_type {E : En} {l : Launch} (q : QS) (x1 : Int32) {o : Int32} (h : f_X10_type q x1 = some o) : Ct (wM E) E l yX10_type (wy yX10_type cX10_type 2 (some .int)) rm_X10_type q q [.ref (eA E 0), .int x1] (some (.int o)) :=
  ct_I (o := (o, q)) (by decide +kernel) rfl (fun p e s m below meth c A Q F hA hRt H locs hP hD hS => en_W [.ref (eA E 0), .int x1] (Nat.le_of_ble_eq_true rfl) (fun ls hl => g_X10_type_0 F hA hRt x1 h ls (lv_sub hl [0, 1] rfl) H locs hP hD hS))
def rm_X10_where : Room := { frames := 1, cells := 0, slots := 0, locals := 22 }
def f_X10_where_41 (q : QS) (x1 : Int32) : Option (Int32 × QS) :=
  some ((1 : Int32), (uF q 3 x1))
set_option maxHeartbeats 4000000 in
set_option maxRecDepth 100000 in
theorem g_X10_where_41 {E : En} {p : Program} {l : Launch} {e : Env} {s : State} {m : MethodId} {args : Array Value} {below : List Frame} {meth : Method} {c : Code} {A : Nat → Prop} {Q : State → Prop} (F : Fx E p s m args meth c (yX10_where).cls cX10_where 3 (some .boolean)) (hA : ∀ z : Nat, s.heap.size ≤ z → A z) {o : Int32 × QS} (hRt : RtZ (wM E) E p l e rm_X10_where s m args below meth c A Q cX10_where o) (q : QS) (x1 : Int32) (h : f_X10_where_41 q x1 = some o) (ls : Array Slot) (hl : lv_has ls 3 [(0, .ref (eA E 0)), (1, .int x1)]) : Wq (wM E) E p l e rm_X10_where s m args below meth c A 0 0 Q q (F0 m 41 ls []) := by
  intro H locs hP hD hS
  have hx := F.1
  have hb := F.2.1
  unfold f_X10_where_41 at h
  refine lv_iconst (v := 1) hx hb dX10_where_41 (by decide) ?_
  refine lv_goto (tgt := 46) hx hb dX10_where_42 (by decide) ?_
  refine lv_istore_n (lv' := [(2, .int (1 : Int32)), (0, .ref (eA E 0)), (1, .int x1)]) hx hb dX10_where_46 rfl hl (by decide) rfl (fun ls hl => ?_)
  refine lv_aload_n hx hb dX10_where_47 rfl (lv_at hl 1 rfl) ?_
  refine lv_iload_n hx hb dX10_where_48 rfl (lv_at hl 0 rfl) ?_
  refine lv_if_eq (tgt := 56) hx hb dX10_where_49 (by decide) (fun c2 => ?_) (fun c2 => ?_)
  · exact absurd c2 (by decide)
  refine lv_iload_n hx hb dX10_where_52 rfl (lv_at hl 2 rfl) ?_
  refine lv_goto (tgt := 60) hx hb dX10_where_53 (by decide) ?_
  refine r_put (ty := .int) (q1 := (uF q 3 x1)) F hP hD hS i_X10 tyX10_ok nmX10 0 (me_0 E q) rfl 28 (by decide) rfl lf_X10_89 rfl (by decide +kernel) rfl rfl (Nat.le_of_ble_eq_true rfl) (mf_0_3 E q x1) dX10_where_60 ?_
  intro H locs hP hD hS
  refine lv_iload_n hx hb dX10_where_63 rfl (lv_at hl 0 rfl) ?_
  cases h
  exact hRt _ _ zz_1 dX10_where_64 _ _ hP hD hS
def f_X10_where_45 (q : QS) (x1 : Int32) : Option (Int32 × QS) :=
  some ((0 : Int32), (uF q 3 (qF q 3)))
set_option maxHeartbeats 4000000 in
set_option maxRecDepth 100000 in
theorem g_X10_where_45 {E : En} {p : Program} {l : Launch} {e : Env} {s : State} {m : MethodId} {args : Array Value} {below : List Frame} {meth : Method} {c : Code} {A : Nat → Prop} {Q : State → Prop} (F : Fx E p s m args meth c (yX10_where).cls cX10_where 3 (some .boolean)) (hA : ∀ z : Nat, s.heap.size ≤ z → A z) {o : Int32 × QS} (hRt : RtZ (wM E) E p l e rm_X10_where s m args below meth c A Q cX10_where o) (q : QS) (x1 : Int32) (h : f_X10_where_45 q x1 = some o) (ls : Array Slot) (hl : lv_has ls 3 [(0, .ref (eA E 0)), (1, .int x1)]) : Wq (wM E) E p l e rm_X10_where s m args below meth c A 0 0 Q q (F0 m 45 ls []) := by
  intro H locs hP hD hS
  have hx := F.1
  have hb := F.2.1
  unfold f_X10_where_45 at h
  refine lv_iconst (v := 0) hx hb dX10_where_45 (by decide) ?_
  refine lv_istore_n (lv' := [(2, .int (0 : Int32)), (0, .ref (eA E 0)), (1, .int x1)]) hx hb dX10_where_46 rfl hl (by decide) rfl (fun ls hl => ?_)
  refine lv_aload_n hx hb dX10_where_47 rfl (lv_at hl 1 rfl) ?_
  refine lv_iload_n hx hb dX10_where_48 rfl (lv_at hl 0 rfl) ?_
  refine lv_if_eq (tgt := 56) hx hb dX10_where_49 (by decide) (fun c6 => ?_) (fun c6 => ?_)
  rotate_left
  · exact absurd c6 (by decide)
  refine lv_aload_n hx hb dX10_where_56 rfl (lv_at hl 1 rfl) ?_
  refine r_get F hP i_X10 0 (me_0 E q) rfl 28 (by decide) rfl lf_X10_89 rfl dX10_where_57 ?_
  refine r_put (ty := .int) (q1 := (uF q 3 (qF q 3))) F hP hD hS i_X10 tyX10_ok nmX10 0 (me_0 E q) rfl 28 (by decide) rfl lf_X10_89 rfl (by decide +kernel) rfl rfl (Nat.le_of_ble_eq_true rfl) (mf_0_3 E q (qF q 3)) dX10_where_60 ?_
  intro H locs hP hD hS
  refine lv_iload_n hx hb dX10_where_63 rfl (lv_at hl 0 rfl) ?_
  cases h
  exact hRt _ _ zz_0 dX10_where_64 _ _ hP hD hS
def f_X10_where_0 (q : QS) (x1 : Int32) : Option (Int32 × QS) :=
  if x1 = (-1 : Int32) then
    f_X10_where_41 q x1
  else
    (f_X10_in x1 (0 : Int32) ((qF q 2) - (1 : Int32))).bind fun r3 =>
    if r3 = 0 then
      f_X10_where_45 q x1
    else
      (rd (qI q 14) 200 x1).bind fun y7 =>
      (f_X10_fits y7 (3 : Int32)).bind fun r9 =>
      if r9 = 0 then
        f_X10_where_45 q x1
      else
        (rd (qI q 15) 200 x1).bind fun y12 =>
        if y12 = 0 then
          f_X10_where_41 q x1
        else
          f_X10_where_45 q x1
set_option maxHeartbeats 4000000 in
set_option maxRecDepth 100000 in
theorem g_X10_where_0 {E : En} {p : Program} {l : Launch} {e : Env} {s : State} {m : MethodId} {args : Array Value} {below : List Frame} {meth : Method} {c : Code} {A : Nat → Prop} {Q : State → Prop} (F : Fx E p s m args meth c (yX10_where).cls cX10_where 3 (some .boolean)) (hA : ∀ z : Nat, s.heap.size ≤ z → A z) {o : Int32 × QS} (hRt : RtZ (wM E) E p l e rm_X10_where s m args below meth c A Q cX10_where o) (q : QS) (x1 : Int32) (h : f_X10_where_0 q x1 = some o) (ls : Array Slot) (hl : lv_has ls 3 [(0, .ref (eA E 0)), (1, .int x1)]) : Wq (wM E) E p l e rm_X10_where s m args below meth c A 0 0 Q q (F0 m 0 ls []) := by
  intro H locs hP hD hS
  have hx := F.1
  have hb := F.2.1
  unfold f_X10_where_0 at h
  refine lv_iload_n hx hb dX10_where_0 rfl (lv_at hl 1 rfl) ?_
  refine lv_iconst (v := (-1)) hx hb dX10_where_1 (by decide) ?_
  refine lv_icmp_eq (tgt := 41) hx hb dX10_where_2 (by decide) (fun c1 => ?_) (fun c1 => ?_)
  · rw [if_pos c1] at h
    exact g_X10_where_41 F hA hRt q x1 h _ (lv_sub hl [0, 1] rfl) _ _ hP hD hS
  · rw [if_neg c1] at h
    refine lv_iload_n hx hb dX10_where_5 rfl (lv_at hl 1 rfl) ?_
    refine lv_iconst (v := 0) hx hb dX10_where_6 (by decide) ?_
    refine lv_aload_n hx hb dX10_where_7 rfl (lv_at hl 0 rfl) ?_
    refine r_get F hP i_X10 0 (me_0 E q) rfl 12 (by decide) rfl lf_X10_147 rfl dX10_where_8 ?_
    refine lv_iconst (v := 1) hx hb dX10_where_11 (by decide) ?_
    refine lv_isub hx hb dX10_where_12 ?_
    obtain ⟨r3, e4, h⟩ := Option.bind_eq_some_iff.mp h
    refine q_callS (As := [.int x1, .int (0 : Int32), .int ((qF q 2) - (1 : Int32))]) (rest := []) F hA hP hD hS (c_X10_in (E := E) (l := l) q x1 (0 : Int32) ((qF q 2) - (1 : Int32)) e4) k_X10_in st_X10_in lm_X10_169 ⟨rfl, rfl⟩ ⟨by decide, by decide⟩ rfl hl.1 rfl (Nat.le_of_ble_eq_true rfl) dX10_where_13 ⟨by decide, by decide⟩ ?_
    intro H locs hP hD hS
    refine lv_if_eq (tgt := 45) hx hb dX10_where_16 (by decide) (fun c5 => ?_) (fun c5 => ?_)
    · rw [if_pos c5] at h
      exact g_X10_where_45 F hA hRt q x1 h _ (lv_sub hl [0, 1] rfl) _ _ hP hD hS
    · rw [if_neg c5] at h
      refine lv_aload_n hx hb dX10_where_19 rfl (lv_at hl 0 rfl) ?_
      refine r_get F hP i_X10 0 (me_0 E q) rfl 16 (by decide) rfl lf_X10_52 rfl dX10_where_20 ?_
      refine lv_iload_n hx hb dX10_where_23 rfl (lv_at hl 1 rfl) ?_
      obtain ⟨y7, e8, h⟩ := Option.bind_eq_some_iff.mp h
      refine r_iald F hP 14 (me_14 E q) e8 dX10_where_24 ?_
      refine lv_iconst (v := 3) hx hb dX10_where_25 (by decide) ?_
      obtain ⟨r9, e10, h⟩ := Option.bind_eq_some_iff.mp h
      refine q_callS (As := [.int y7, .int (3 : Int32)]) (rest := []) F hA hP hD hS (c_X10_fits (E := E) (l := l) q y7 (3 : Int32) e10) k_X10_fits st_X10_fits lm_X10_184 ⟨rfl, rfl⟩ ⟨by decide, by decide⟩ rfl hl.1 rfl (Nat.le_of_ble_eq_true rfl) dX10_where_26 ⟨by decide, by decide⟩ ?_
      intro H locs hP hD hS
      refine lv_if_eq (tgt := 45) hx hb dX10_where_29 (by decide) (fun c11 => ?_) (fun c11 => ?_)
      · rw [if_pos c11] at h
        exact g_X10_where_45 F hA hRt q x1 h _ (lv_sub hl [0, 1] rfl) _ _ hP hD hS
      · rw [if_neg c11] at h
        refine lv_aload_n hx hb dX10_where_32 rfl (lv_at hl 0 rfl) ?_
        refine r_get F hP i_X10 0 (me_0 E q) rfl 17 (by decide) rfl lf_X10_55 rfl dX10_where_33 ?_
        refine lv_iload_n hx hb dX10_where_36 rfl (lv_at hl 1 rfl) ?_
        obtain ⟨y12, e13, h⟩ := Option.bind_eq_some_iff.mp h
        refine r_zald F hP 15 (me_15 E q) e13 dX10_where_37 ?_
        refine lv_if_ne (tgt := 45) hx hb dX10_where_38 (by decide) (fun c14 => ?_) (fun c14 => ?_)
        · rw [if_neg c14] at h
          exact g_X10_where_45 F hA hRt q x1 h _ (lv_sub hl [0, 1] rfl) _ _ hP hD hS
        · rw [if_pos c14] at h
          exact g_X10_where_41 F hA hRt q x1 h _ (lv_sub hl [0, 1] rfl) _ _ hP hD hS
def f_X10_where (q : QS) (x1 : Int32) : Option (Int32 × QS) := f_X10_where_0 q x1
set_option maxRecDepth 100000 in
theorem c_X10_where {E : En} {l : Launch} (q : QS) (x1 : Int32) {o : Int32 × QS} (h : f_X10_where q x1 = some o) : Ct (wM E) E l yX10_where (wy yX10_where cX10_where 3 (some .boolean)) rm_X10_where q o.2 [.ref (eA E 0), .int x1] (some (.int o.1)) :=
  ct_Z (o := o) (by decide +kernel) (fun p e s m below meth c A Q F hA hRt H locs hP hD hS => en_W [.ref (eA E 0), .int x1] (Nat.le_of_ble_eq_true rfl) (fun ls hl => g_X10_where_0 F hA hRt q x1 h ls (lv_sub hl [0, 1] rfl) H locs hP hD hS))
def rm_X10_item : Room := { frames := 1, cells := 0, slots := 0, locals := 22 }
def f_X10_item_0 (q : QS) (x1 : Int32) : Option (Int32 × QS) :=
  (f_X10_in x1 (0 : Int32) ((qF q 2) - (1 : Int32))).bind fun r1 =>
  if r1 = 0 then
    some ((-1 : Int32), q)
  else
    if (qF q 4) = (8 : Int32) then
      some ((-1 : Int32), q)
    else
      (wI q 26 8 (qF q 4) x1).bind fun q5 =>
      some (((qF (uF q5 4 ((qF q5 4) + (1 : Int32))) 4) - (1 : Int32)), (uF q5 4 ((qF q5 4) + (1 : Int32))))
set_option maxHeartbeats 4000000 in
set_option maxRecDepth 100000 in
theorem g_X10_item_0 {E : En} {p : Program} {l : Launch} {e : Env} {s : State} {m : MethodId} {args : Array Value} {below : List Frame} {meth : Method} {c : Code} {A : Nat → Prop} {Q : State → Prop} (F : Fx E p s m args meth c (yX10_item).cls cX10_item 2 (some .int)) (hA : ∀ z : Nat, s.heap.size ≤ z → A z) {o : Int32 × QS} (hRt : RtI (wM E) E p l e rm_X10_item s m args below meth c A Q cX10_item o) (q : QS) (x1 : Int32) (h : f_X10_item_0 q x1 = some o) (ls : Array Slot) (hl : lv_has ls 2 [(0, .ref (eA E 0)), (1, .int x1)]) : Wq (wM E) E p l e rm_X10_item s m args below meth c A 0 0 Q q (F0 m 0 ls []) := by
  intro H locs hP hD hS
  have hx := F.1
  have hb := F.2.1
  unfold f_X10_item_0 at h
  refine lv_iload_n hx hb dX10_item_0 rfl (lv_at hl 1 rfl) ?_
  refine lv_iconst (v := 0) hx hb dX10_item_1 (by decide) ?_
  refine lv_aload_n hx hb dX10_item_2 rfl (lv_at hl 0 rfl) ?_
  refine r_get F hP i_X10 0 (me_0 E q) rfl 12 (by decide) rfl lf_X10_147 rfl dX10_item_3 ?_
  refine lv_iconst (v := 1) hx hb dX10_item_6 (by decide) ?_
  refine lv_isub hx hb dX10_item_7 ?_
  obtain ⟨r1, e2, h⟩ := Option.bind_eq_some_iff.mp h
  refine q_callS (As := [.int x1, .int (0 : Int32), .int ((qF q 2) - (1 : Int32))]) (rest := []) F hA hP hD hS (c_X10_in (E := E) (l := l) q x1 (0 : Int32) ((qF q 2) - (1 : Int32)) e2) k_X10_in st_X10_in lm_X10_169 ⟨rfl, rfl⟩ ⟨by decide, by decide⟩ rfl hl.1 rfl (Nat.le_of_ble_eq_true rfl) dX10_item_8 ⟨by decide, by decide⟩ ?_
  intro H locs hP hD hS
  refine lv_if_eq (tgt := 23) hx hb dX10_item_11 (by decide) (fun c3 => ?_) (fun c3 => ?_)
  · rw [if_pos c3] at h
    refine lv_iconst (v := (-1)) hx hb dX10_item_23 (by decide) ?_
    cases h
    exact hRt _ _ dX10_item_24 _ _ hP hD hS
  · rw [if_neg c3] at h
    refine lv_aload_n hx hb dX10_item_14 rfl (lv_at hl 0 rfl) ?_
    refine r_get F hP i_X10 0 (me_0 E q) rfl 29 (by decide) rfl lf_X10_150 rfl dX10_item_15 ?_
    refine lv_bipush (v := 8) hx hb dX10_item_18 (by decide) ?_
    refine lv_icmp_ne (tgt := 25) hx hb dX10_item_20 (by decide) (fun c4 => ?_) (fun c4 => ?_)
    · rw [if_neg c4] at h
      refine lv_aload_n hx hb dX10_item_25 rfl (lv_at hl 0 rfl) ?_
      refine r_get F hP i_X10 0 (me_0 E q) rfl 30 (by decide) rfl lf_X10_93 rfl dX10_item_26 ?_
      refine lv_aload_n hx hb dX10_item_29 rfl (lv_at hl 0 rfl) ?_
      refine r_get F hP i_X10 0 (me_0 E q) rfl 29 (by decide) rfl lf_X10_150 rfl dX10_item_30 ?_
      refine lv_iload_n hx hb dX10_item_33 rfl (lv_at hl 1 rfl) ?_
      obtain ⟨q5, e6, h⟩ := Option.bind_eq_some_iff.mp h
      refine r_iast F hP hD hS 26 (me_26 E q) (ms_26 E q) e6 dX10_item_34 ?_
      intro H locs hP hD hS
      refine lv_aload_n hx hb dX10_item_35 rfl (lv_at hl 0 rfl) ?_
      refine lv_dup hx hb dX10_item_36 rfl ?_
      refine r_get F hP i_X10 0 (me_0 E q5) rfl 29 (by decide) rfl lf_X10_150 rfl dX10_item_37 ?_
      refine lv_iconst (v := 1) hx hb dX10_item_40 (by decide) ?_
      refine lv_iadd hx hb dX10_item_41 ?_
      refine r_put (ty := .int) (q1 := (uF q5 4 ((qF q5 4) + (1 : Int32)))) F hP hD hS i_X10 tyX10_ok nmX10 0 (me_0 E q5) rfl 29 (by decide) rfl lf_X10_150 rfl (by decide +kernel) rfl rfl (Nat.le_of_ble_eq_true rfl) (mf_0_4 E q5 ((qF q5 4) + (1 : Int32))) dX10_item_42 ?_
      intro H locs hP hD hS
      refine lv_aload_n hx hb dX10_item_45 rfl (lv_at hl 0 rfl) ?_
      refine r_get F hP i_X10 0 (me_0 E (uF q5 4 ((qF q5 4) + (1 : Int32)))) rfl 29 (by decide) rfl lf_X10_150 rfl dX10_item_46 ?_
      refine lv_iconst (v := 1) hx hb dX10_item_49 (by decide) ?_
      refine lv_isub hx hb dX10_item_50 ?_
      cases h
      exact hRt _ _ dX10_item_51 _ _ hP hD hS
    · rw [if_pos c4] at h
      refine lv_iconst (v := (-1)) hx hb dX10_item_23 (by decide) ?_
      cases h
      exact hRt _ _ dX10_item_24 _ _ hP hD hS
def f_X10_item (q : QS) (x1 : Int32) : Option (Int32 × QS) := f_X10_item_0 q x1
set_option maxRecDepth 100000 in
theorem c_X10_item {E : En} {l : Launch} (q : QS) (x1 : Int32) {o : Int32 × QS} (h : f_X10_item q x1 = some o) : Ct (wM E) E l yX10_item (wy yX10_item cX10_item 2 (some .int)) rm_X10_item q o.2 [.ref (eA E 0), .int x1] (some (.int o.1)) :=
  ct_I (o := o) (by decide +kernel) rfl (fun p e s m below meth c A Q F hA hRt H locs hP hD hS => en_W [.ref (eA E 0), .int x1] (Nat.le_of_ble_eq_true rfl) (fun ls hl => g_X10_item_0 F hA hRt q x1 h ls (lv_sub hl [0, 1] rfl) H locs hP hD hS))
def rm_X10_group : Room := { frames := 1, cells := 0, slots := 0, locals := 22 }
def f_X10_group_37 (q : QS) (x1 : Int32) (t0 : Int32) : Option (Int32 × QS) :=
  if t0 = 0 then
    if vp_nar .boolean t0 = t0 then some (t0, q) else none
  else
    (wI q 27 4 (qF q 5) x1).bind fun q6 =>
    if vp_nar .boolean t0 = t0 then some (t0, (uF q6 5 ((qF q6 5) + (1 : Int32)))) else none
set_option maxHeartbeats 4000000 in
set_option maxRecDepth 100000 in
theorem g_X10_group_37 {E : En} {p : Program} {l : Launch} {e : Env} {s : State} {m : MethodId} {args : Array Value} {below : List Frame} {meth : Method} {c : Code} {A : Nat → Prop} {Q : State → Prop} (F : Fx E p s m args meth c (yX10_group).cls cX10_group 3 (some .boolean)) (hA : ∀ z : Nat, s.heap.size ≤ z → A z) {o : Int32 × QS} (hRt : RtZ (wM E) E p l e rm_X10_group s m args below meth c A Q cX10_group o) (q : QS) (x1 : Int32) (t0 : Int32) (h : f_X10_group_37 q x1 t0 = some o) (ls : Array Slot) (hl : lv_has ls 3 [(0, .ref (eA E 0)), (1, .int x1)]) : Wq (wM E) E p l e rm_X10_group s m args below meth c A 0 0 Q q (F0 m 37 ls [.int t0]) := by
  intro H locs hP hD hS
  have hx := F.1
  have hb := F.2.1
  unfold f_X10_group_37 at h
  refine lv_istore_n (lv' := [(2, .int t0), (0, .ref (eA E 0)), (1, .int x1)]) hx hb dX10_group_37 rfl hl (by decide) rfl (fun ls hl => ?_)
  refine lv_iload_n hx hb dX10_group_38 rfl (lv_at hl 0 rfl) ?_
  refine lv_if_eq (tgt := 62) hx hb dX10_group_39 (by decide) (fun c4 => ?_) (fun c4 => ?_)
  · rw [if_pos c4] at h
    refine lv_iload_n hx hb dX10_group_62 rfl (lv_at hl 0 rfl) ?_
    by_cases z5 : vp_nar .boolean t0 = t0
    rotate_left
    · rw [if_neg z5] at h; cases h
    rw [if_pos z5] at h
    cases h
    exact hRt _ _ z5 dX10_group_63 _ _ hP hD hS
  · rw [if_neg c4] at h
    refine lv_aload_n hx hb dX10_group_42 rfl (lv_at hl 1 rfl) ?_
    refine r_get F hP i_X10 0 (me_0 E q) rfl 32 (by decide) rfl lf_X10_96 rfl dX10_group_43 ?_
    refine lv_aload_n hx hb dX10_group_46 rfl (lv_at hl 1 rfl) ?_
    refine r_get F hP i_X10 0 (me_0 E q) rfl 31 (by decide) rfl lf_X10_153 rfl dX10_group_47 ?_
    refine lv_iload_n hx hb dX10_group_50 rfl (lv_at hl 2 rfl) ?_
    obtain ⟨q6, e7, h⟩ := Option.bind_eq_some_iff.mp h
    refine r_iast F hP hD hS 27 (me_27 E q) (ms_27 E q) e7 dX10_group_51 ?_
    intro H locs hP hD hS
    refine lv_aload_n hx hb dX10_group_52 rfl (lv_at hl 1 rfl) ?_
    refine lv_dup hx hb dX10_group_53 rfl ?_
    refine r_get F hP i_X10 0 (me_0 E q6) rfl 31 (by decide) rfl lf_X10_153 rfl dX10_group_54 ?_
    refine lv_iconst (v := 1) hx hb dX10_group_57 (by decide) ?_
    refine lv_iadd hx hb dX10_group_58 ?_
    refine r_put (ty := .int) (q1 := (uF q6 5 ((qF q6 5) + (1 : Int32)))) F hP hD hS i_X10 tyX10_ok nmX10 0 (me_0 E q6) rfl 31 (by decide) rfl lf_X10_153 rfl (by decide +kernel) rfl rfl (Nat.le_of_ble_eq_true rfl) (mf_0_5 E q6 ((qF q6 5) + (1 : Int32))) dX10_group_59 ?_
    intro H locs hP hD hS
    refine lv_iload_n hx hb dX10_group_62 rfl (lv_at hl 0 rfl) ?_
    by_cases z8 : vp_nar .boolean t0 = t0
    rotate_left
    · rw [if_neg z8] at h; cases h
    rw [if_pos z8] at h
    cases h
    exact hRt _ _ z8 dX10_group_63 _ _ hP hD hS
def f_X10_group_36 (q : QS) (x1 : Int32) : Option (Int32 × QS) :=
  f_X10_group_37 q x1 (0 : Int32)
set_option maxHeartbeats 4000000 in
set_option maxRecDepth 100000 in
theorem g_X10_group_36 {E : En} {p : Program} {l : Launch} {e : Env} {s : State} {m : MethodId} {args : Array Value} {below : List Frame} {meth : Method} {c : Code} {A : Nat → Prop} {Q : State → Prop} (F : Fx E p s m args meth c (yX10_group).cls cX10_group 3 (some .boolean)) (hA : ∀ z : Nat, s.heap.size ≤ z → A z) {o : Int32 × QS} (hRt : RtZ (wM E) E p l e rm_X10_group s m args below meth c A Q cX10_group o) (q : QS) (x1 : Int32) (h : f_X10_group_36 q x1 = some o) (ls : Array Slot) (hl : lv_has ls 3 [(0, .ref (eA E 0)), (1, .int x1)]) : Wq (wM E) E p l e rm_X10_group s m args below meth c A 0 0 Q q (F0 m 36 ls []) := by
  intro H locs hP hD hS
  have hx := F.1
  have hb := F.2.1
  unfold f_X10_group_36 at h
  refine lv_iconst (v := 0) hx hb dX10_group_36 (by decide) ?_
  exact g_X10_group_37 F hA hRt q x1 (0 : Int32) h _ (lv_sub hl [0, 1] rfl) _ _ hP hD hS
def f_X10_group_0 (q : QS) (x1 : Int32) : Option (Int32 × QS) :=
  (f_X10_in x1 (0 : Int32) ((qF q 2) - (1 : Int32))).bind fun r1 =>
  if r1 = 0 then
    f_X10_group_36 q x1
  else
    (rd (qI q 11) 200 x1).bind fun y9 =>
    if y9 = (4 : Int32) then
      if (4 : Int32) ≤ (qF q 5) then
        f_X10_group_36 q x1
      else
        f_X10_group_37 q x1 (1 : Int32)
    else
      f_X10_group_36 q x1
set_option maxHeartbeats 4000000 in
set_option maxRecDepth 100000 in
theorem g_X10_group_0 {E : En} {p : Program} {l : Launch} {e : Env} {s : State} {m : MethodId} {args : Array Value} {below : List Frame} {meth : Method} {c : Code} {A : Nat → Prop} {Q : State → Prop} (F : Fx E p s m args meth c (yX10_group).cls cX10_group 3 (some .boolean)) (hA : ∀ z : Nat, s.heap.size ≤ z → A z) {o : Int32 × QS} (hRt : RtZ (wM E) E p l e rm_X10_group s m args below meth c A Q cX10_group o) (q : QS) (x1 : Int32) (h : f_X10_group_0 q x1 = some o) (ls : Array Slot) (hl : lv_has ls 3 [(0, .ref (eA E 0)), (1, .int x1)]) : Wq (wM E) E p l e rm_X10_group s m args below meth c A 0 0 Q q (F0 m 0 ls []) := by
  intro H locs hP hD hS
  have hx := F.1
  have hb := F.2.1
  unfold f_X10_group_0 at h
  refine lv_iload_n hx hb dX10_group_0 rfl (lv_at hl 1 rfl) ?_
  refine lv_iconst (v := 0) hx hb dX10_group_1 (by decide) ?_
  refine lv_aload_n hx hb dX10_group_2 rfl (lv_at hl 0 rfl) ?_
  refine r_get F hP i_X10 0 (me_0 E q) rfl 12 (by decide) rfl lf_X10_147 rfl dX10_group_3 ?_
  refine lv_iconst (v := 1) hx hb dX10_group_6 (by decide) ?_
  refine lv_isub hx hb dX10_group_7 ?_
  obtain ⟨r1, e2, h⟩ := Option.bind_eq_some_iff.mp h
  refine q_callS (As := [.int x1, .int (0 : Int32), .int ((qF q 2) - (1 : Int32))]) (rest := []) F hA hP hD hS (c_X10_in (E := E) (l := l) q x1 (0 : Int32) ((qF q 2) - (1 : Int32)) e2) k_X10_in st_X10_in lm_X10_169 ⟨rfl, rfl⟩ ⟨by decide, by decide⟩ rfl hl.1 rfl (Nat.le_of_ble_eq_true rfl) dX10_group_8 ⟨by decide, by decide⟩ ?_
  intro H locs hP hD hS
  refine lv_if_eq (tgt := 36) hx hb dX10_group_11 (by decide) (fun c3 => ?_) (fun c3 => ?_)
  · rw [if_pos c3] at h
    exact g_X10_group_36 F hA hRt q x1 h _ (lv_sub hl [0, 1] rfl) _ _ hP hD hS
  · rw [if_neg c3] at h
    refine lv_aload_n hx hb dX10_group_14 rfl (lv_at hl 0 rfl) ?_
    refine r_get F hP i_X10 0 (me_0 E q) rfl 13 (by decide) rfl lf_X10_43 rfl dX10_group_15 ?_
    refine lv_iload_n hx hb dX10_group_18 rfl (lv_at hl 1 rfl) ?_
    obtain ⟨y9, e10, h⟩ := Option.bind_eq_some_iff.mp h
    refine r_iald F hP 11 (me_11 E q) e10 dX10_group_19 ?_
    refine lv_iconst (v := 4) hx hb dX10_group_20 (by decide) ?_
    refine lv_icmp_ne (tgt := 36) hx hb dX10_group_21 (by decide) (fun c11 => ?_) (fun c11 => ?_)
    · rw [if_neg c11] at h
      exact g_X10_group_36 F hA hRt q x1 h _ (lv_sub hl [0, 1] rfl) _ _ hP hD hS
    · rw [if_pos c11] at h
      refine lv_aload_n hx hb dX10_group_24 rfl (lv_at hl 0 rfl) ?_
      refine r_get F hP i_X10 0 (me_0 E q) rfl 31 (by decide) rfl lf_X10_153 rfl dX10_group_25 ?_
      refine lv_iconst (v := 4) hx hb dX10_group_28 (by decide) ?_
      refine lv_icmp_ge (tgt := 36) hx hb dX10_group_29 (by decide) (fun c12 => ?_) (fun c12 => ?_)
      · rw [if_pos c12] at h
        exact g_X10_group_36 F hA hRt q x1 h _ (lv_sub hl [0, 1] rfl) _ _ hP hD hS
      · rw [if_neg c12] at h
        refine lv_iconst (v := 1) hx hb dX10_group_32 (by decide) ?_
        refine lv_goto (tgt := 37) hx hb dX10_group_33 (by decide) ?_
        exact g_X10_group_37 F hA hRt q x1 (1 : Int32) h _ (lv_sub hl [0, 1] rfl) _ _ hP hD hS
def f_X10_group (q : QS) (x1 : Int32) : Option (Int32 × QS) := f_X10_group_0 q x1
set_option maxRecDepth 100000 in
theorem c_X10_group {E : En} {l : Launch} (q : QS) (x1 : Int32) {o : Int32 × QS} (h : f_X10_group q x1 = some o) : Ct (wM E) E l yX10_group (wy yX10_group cX10_group 3 (some .boolean)) rm_X10_group q o.2 [.ref (eA E 0), .int x1] (some (.int o.1)) :=
  ct_Z (o := o) (by decide +kernel) (fun p e s m below meth c A Q F hA hRt H locs hP hD hS => en_W [.ref (eA E 0), .int x1] (Nat.le_of_ble_eq_true rfl) (fun ls hl => g_X10_group_0 F hA hRt q x1 h ls (lv_sub hl [0, 1] rfl) H locs hP hD hS))
def rm_X10_order : Room := { frames := 1, cells := 0, slots := 0, locals := 22 }
def f_X10_order_27 (q : QS) (x1 : Int32) (x2 : Int32) (t0 : Int32) : Option (Int32 × QS) :=
  if t0 = 0 then
    if vp_nar .boolean t0 = t0 then some (t0, q) else none
  else
    (wI q 28 4 (qF q 6) x1).bind fun q6 =>
    (wI q6 29 4 (qF q6 6) (vp_nar .boolean x2)).bind fun q8 =>
    if vp_nar .boolean t0 = t0 then some (t0, (uF q8 6 ((qF q8 6) + (1 : Int32)))) else none
set_option maxHeartbeats 4000000 in
set_option maxRecDepth 100000 in
theorem g_X10_order_27 {E : En} {p : Program} {l : Launch} {e : Env} {s : State} {m : MethodId} {args : Array Value} {below : List Frame} {meth : Method} {c : Code} {A : Nat → Prop} {Q : State → Prop} (F : Fx E p s m args meth c (yX10_order).cls cX10_order 4 (some .boolean)) (hA : ∀ z : Nat, s.heap.size ≤ z → A z) {o : Int32 × QS} (hRt : RtZ (wM E) E p l e rm_X10_order s m args below meth c A Q cX10_order o) (q : QS) (x1 : Int32) (x2 : Int32) (t0 : Int32) (h : f_X10_order_27 q x1 x2 t0 = some o) (ls : Array Slot) (hl : lv_has ls 4 [(0, .ref (eA E 0)), (1, .int x1), (2, .int x2)]) : Wq (wM E) E p l e rm_X10_order s m args below meth c A 0 0 Q q (F0 m 27 ls [.int t0]) := by
  intro H locs hP hD hS
  have hx := F.1
  have hb := F.2.1
  unfold f_X10_order_27 at h
  refine lv_istore_n (lv' := [(3, .int t0), (0, .ref (eA E 0)), (1, .int x1), (2, .int x2)]) hx hb dX10_order_27 rfl hl (by decide) rfl (fun ls hl => ?_)
  refine lv_iload_n hx hb dX10_order_28 rfl (lv_at hl 0 rfl) ?_
  refine lv_if_eq (tgt := 62) hx hb dX10_order_29 (by decide) (fun c4 => ?_) (fun c4 => ?_)
  · rw [if_pos c4] at h
    refine lv_iload_n hx hb dX10_order_62 rfl (lv_at hl 0 rfl) ?_
    by_cases z5 : vp_nar .boolean t0 = t0
    rotate_left
    · rw [if_neg z5] at h; cases h
    rw [if_pos z5] at h
    cases h
    exact hRt _ _ z5 dX10_order_63 _ _ hP hD hS
  · rw [if_neg c4] at h
    refine lv_aload_n hx hb dX10_order_32 rfl (lv_at hl 1 rfl) ?_
    refine r_get F hP i_X10 0 (me_0 E q) rfl 34 (by decide) rfl lf_X10_99 rfl dX10_order_33 ?_
    refine lv_aload_n hx hb dX10_order_36 rfl (lv_at hl 1 rfl) ?_
    refine r_get F hP i_X10 0 (me_0 E q) rfl 33 (by decide) rfl lf_X10_156 rfl dX10_order_37 ?_
    refine lv_iload_n hx hb dX10_order_40 rfl (lv_at hl 2 rfl) ?_
    obtain ⟨q6, e7, h⟩ := Option.bind_eq_some_iff.mp h
    refine r_iast F hP hD hS 28 (me_28 E q) (ms_28 E q) e7 dX10_order_41 ?_
    intro H locs hP hD hS
    refine lv_aload_n hx hb dX10_order_42 rfl (lv_at hl 1 rfl) ?_
    refine r_get F hP i_X10 0 (me_0 E q6) rfl 35 (by decide) rfl lf_X10_102 rfl dX10_order_43 ?_
    refine lv_aload_n hx hb dX10_order_46 rfl (lv_at hl 1 rfl) ?_
    refine r_get F hP i_X10 0 (me_0 E q6) rfl 33 (by decide) rfl lf_X10_156 rfl dX10_order_47 ?_
    refine lv_iload_n hx hb dX10_order_50 rfl (lv_at hl 3 rfl) ?_
    obtain ⟨q8, e9, h⟩ := Option.bind_eq_some_iff.mp h
    refine r_zast F hP hD hS 29 (me_29 E q6) (ms_29 E q6) e9 dX10_order_51 ?_
    intro H locs hP hD hS
    refine lv_aload_n hx hb dX10_order_52 rfl (lv_at hl 1 rfl) ?_
    refine lv_dup hx hb dX10_order_53 rfl ?_
    refine r_get F hP i_X10 0 (me_0 E q8) rfl 33 (by decide) rfl lf_X10_156 rfl dX10_order_54 ?_
    refine lv_iconst (v := 1) hx hb dX10_order_57 (by decide) ?_
    refine lv_iadd hx hb dX10_order_58 ?_
    refine r_put (ty := .int) (q1 := (uF q8 6 ((qF q8 6) + (1 : Int32)))) F hP hD hS i_X10 tyX10_ok nmX10 0 (me_0 E q8) rfl 33 (by decide) rfl lf_X10_156 rfl (by decide +kernel) rfl rfl (Nat.le_of_ble_eq_true rfl) (mf_0_6 E q8 ((qF q8 6) + (1 : Int32))) dX10_order_59 ?_
    intro H locs hP hD hS
    refine lv_iload_n hx hb dX10_order_62 rfl (lv_at hl 0 rfl) ?_
    by_cases z10 : vp_nar .boolean t0 = t0
    rotate_left
    · rw [if_neg z10] at h; cases h
    rw [if_pos z10] at h
    cases h
    exact hRt _ _ z10 dX10_order_63 _ _ hP hD hS
def f_X10_order_26 (q : QS) (x1 : Int32) (x2 : Int32) : Option (Int32 × QS) :=
  f_X10_order_27 q x1 x2 (0 : Int32)
set_option maxHeartbeats 4000000 in
set_option maxRecDepth 100000 in
theorem g_X10_order_26 {E : En} {p : Program} {l : Launch} {e : Env} {s : State} {m : MethodId} {args : Array Value} {below : List Frame} {meth : Method} {c : Code} {A : Nat → Prop} {Q : State → Prop} (F : Fx E p s m args meth c (yX10_order).cls cX10_order 4 (some .boolean)) (hA : ∀ z : Nat, s.heap.size ≤ z → A z) {o : Int32 × QS} (hRt : RtZ (wM E) E p l e rm_X10_order s m args below meth c A Q cX10_order o) (q : QS) (x1 : Int32) (x2 : Int32) (h : f_X10_order_26 q x1 x2 = some o) (ls : Array Slot) (hl : lv_has ls 4 [(0, .ref (eA E 0)), (1, .int x1), (2, .int x2)]) : Wq (wM E) E p l e rm_X10_order s m args below meth c A 0 0 Q q (F0 m 26 ls []) := by
  intro H locs hP hD hS
  have hx := F.1
  have hb := F.2.1
  unfold f_X10_order_26 at h
  refine lv_iconst (v := 0) hx hb dX10_order_26 (by decide) ?_
  exact g_X10_order_27 F hA hRt q x1 x2 (0 : Int32) h _ (lv_sub hl [0, 1, 2] rfl) _ _ hP hD hS
def f_X10_order_0 (q : QS) (x1 : Int32) (x2 : Int32) : Option (Int32 × QS) :=
  (f_X10_in x1 (0 : Int32) ((qF q 4) - (1 : Int32))).bind fun r1 =>
  if r1 = 0 then
    f_X10_order_26 q x1 x2
  else
    if (4 : Int32) ≤ (qF q 6) then
      f_X10_order_26 q x1 x2
    else
      f_X10_order_27 q x1 x2 (1 : Int32)
set_option maxHeartbeats 4000000 in
set_option maxRecDepth 100000 in
theorem g_X10_order_0 {E : En} {p : Program} {l : Launch} {e : Env} {s : State} {m : MethodId} {args : Array Value} {below : List Frame} {meth : Method} {c : Code} {A : Nat → Prop} {Q : State → Prop} (F : Fx E p s m args meth c (yX10_order).cls cX10_order 4 (some .boolean)) (hA : ∀ z : Nat, s.heap.size ≤ z → A z) {o : Int32 × QS} (hRt : RtZ (wM E) E p l e rm_X10_order s m args below meth c A Q cX10_order o) (q : QS) (x1 : Int32) (x2 : Int32) (h : f_X10_order_0 q x1 x2 = some o) (ls : Array Slot) (hl : lv_has ls 4 [(0, .ref (eA E 0)), (1, .int x1), (2, .int x2)]) : Wq (wM E) E p l e rm_X10_order s m args below meth c A 0 0 Q q (F0 m 0 ls []) := by
  intro H locs hP hD hS
  have hx := F.1
  have hb := F.2.1
  unfold f_X10_order_0 at h
  refine lv_iload_n hx hb dX10_order_0 rfl (lv_at hl 1 rfl) ?_
  refine lv_iconst (v := 0) hx hb dX10_order_1 (by decide) ?_
  refine lv_aload_n hx hb dX10_order_2 rfl (lv_at hl 0 rfl) ?_
  refine r_get F hP i_X10 0 (me_0 E q) rfl 29 (by decide) rfl lf_X10_150 rfl dX10_order_3 ?_
  refine lv_iconst (v := 1) hx hb dX10_order_6 (by decide) ?_
  refine lv_isub hx hb dX10_order_7 ?_
  obtain ⟨r1, e2, h⟩ := Option.bind_eq_some_iff.mp h
  refine q_callS (As := [.int x1, .int (0 : Int32), .int ((qF q 4) - (1 : Int32))]) (rest := []) F hA hP hD hS (c_X10_in (E := E) (l := l) q x1 (0 : Int32) ((qF q 4) - (1 : Int32)) e2) k_X10_in st_X10_in lm_X10_169 ⟨rfl, rfl⟩ ⟨by decide, by decide⟩ rfl hl.1 rfl (Nat.le_of_ble_eq_true rfl) dX10_order_8 ⟨by decide, by decide⟩ ?_
  intro H locs hP hD hS
  refine lv_if_eq (tgt := 26) hx hb dX10_order_11 (by decide) (fun c3 => ?_) (fun c3 => ?_)
  · rw [if_pos c3] at h
    exact g_X10_order_26 F hA hRt q x1 x2 h _ (lv_sub hl [0, 1, 2] rfl) _ _ hP hD hS
  · rw [if_neg c3] at h
    refine lv_aload_n hx hb dX10_order_14 rfl (lv_at hl 0 rfl) ?_
    refine r_get F hP i_X10 0 (me_0 E q) rfl 33 (by decide) rfl lf_X10_156 rfl dX10_order_15 ?_
    refine lv_iconst (v := 4) hx hb dX10_order_18 (by decide) ?_
    refine lv_icmp_ge (tgt := 26) hx hb dX10_order_19 (by decide) (fun c11 => ?_) (fun c11 => ?_)
    · rw [if_pos c11] at h
      exact g_X10_order_26 F hA hRt q x1 x2 h _ (lv_sub hl [0, 1, 2] rfl) _ _ hP hD hS
    · rw [if_neg c11] at h
      refine lv_iconst (v := 1) hx hb dX10_order_22 (by decide) ?_
      refine lv_goto (tgt := 27) hx hb dX10_order_23 (by decide) ?_
      exact g_X10_order_27 F hA hRt q x1 x2 (1 : Int32) h _ (lv_sub hl [0, 1, 2] rfl) _ _ hP hD hS
def f_X10_order (q : QS) (x1 : Int32) (x2 : Int32) : Option (Int32 × QS) := f_X10_order_0 q x1 x2
set_option maxRecDepth 100000 in
theorem c_X10_order {E : En} {l : Launch} (q : QS) (x1 : Int32) (x2 : Int32) {o : Int32 × QS} (h : f_X10_order q x1 x2 = some o) : Ct (wM E) E l yX10_order (wy yX10_order cX10_order 4 (some .boolean)) rm_X10_order q o.2 [.ref (eA E 0), .int x1, .int x2] (some (.int o.1)) :=
  ct_Z (o := o) (by decide +kernel) (fun p e s m below meth c A Q F hA hRt H locs hP hD hS => en_W [.ref (eA E 0), .int x1, .int x2] (Nat.le_of_ble_eq_true rfl) (fun ls hl => g_X10_order_0 F hA hRt q x1 x2 h ls (lv_sub hl [0, 1, 2] rfl) H locs hP hD hS))
def rm_X10_limit : Room := { frames := 0, cells := 0, slots := 0, locals := 0 }
def f_X10_limit_0 (q : QS) (x1 : Int32) : Option (Int32 × QS) :=
  if x1 < (-1 : Int32) then
    if x1 < (-1 : Int32) then
      some ((0 : Int32), (uF q 7 (qF q 7)))
    else
      some ((1 : Int32), (uF q 7 (qF q 7)))
  else
    if x1 < (-1 : Int32) then
      some ((0 : Int32), (uF q 7 x1))
    else
      some ((1 : Int32), (uF q 7 x1))
set_option maxHeartbeats 4000000 in
set_option maxRecDepth 100000 in
theorem g_X10_limit_0 {E : En} {p : Program} {l : Launch} {e : Env} {s : State} {m : MethodId} {args : Array Value} {below : List Frame} {meth : Method} {c : Code} {A : Nat → Prop} {Q : State → Prop} (F : Fx E p s m args meth c (yX10_limit).cls cX10_limit 2 (some .boolean)) (hA : ∀ z : Nat, s.heap.size ≤ z → A z) {o : Int32 × QS} (hRt : RtZ (wM E) E p l e rm_X10_limit s m args below meth c A Q cX10_limit o) (q : QS) (x1 : Int32) (h : f_X10_limit_0 q x1 = some o) (ls : Array Slot) (hl : lv_has ls 2 [(0, .ref (eA E 0)), (1, .int x1)]) : Wq (wM E) E p l e rm_X10_limit s m args below meth c A 0 0 Q q (F0 m 0 ls []) := by
  intro H locs hP hD hS
  have hx := F.1
  have hb := F.2.1
  unfold f_X10_limit_0 at h
  refine lv_aload_n hx hb dX10_limit_0 rfl (lv_at hl 0 rfl) ?_
  refine lv_iload_n hx hb dX10_limit_1 rfl (lv_at hl 1 rfl) ?_
  refine lv_iconst (v := (-1)) hx hb dX10_limit_2 (by decide) ?_
  refine lv_icmp_lt (tgt := 10) hx hb dX10_limit_3 (by decide) (fun c1 => ?_) (fun c1 => ?_)
  · rw [if_pos c1] at h
    refine lv_aload_n hx hb dX10_limit_10 rfl (lv_at hl 0 rfl) ?_
    refine r_get F hP i_X10 0 (me_0 E q) rfl 36 (by decide) rfl lf_X10_105 rfl dX10_limit_11 ?_
    refine r_put (ty := .int) (q1 := (uF q 7 (qF q 7))) F hP hD hS i_X10 tyX10_ok nmX10 0 (me_0 E q) rfl 36 (by decide) rfl lf_X10_105 rfl (by decide +kernel) rfl rfl (Nat.le_of_ble_eq_true rfl) (mf_0_7 E q (qF q 7)) dX10_limit_14 ?_
    intro H locs hP hD hS
    refine lv_iload_n hx hb dX10_limit_17 rfl (lv_at hl 1 rfl) ?_
    refine lv_iconst (v := (-1)) hx hb dX10_limit_18 (by decide) ?_
    refine lv_icmp_lt (tgt := 26) hx hb dX10_limit_19 (by decide) (fun c2 => ?_) (fun c2 => ?_)
    · rw [if_pos c2] at h
      refine lv_iconst (v := 0) hx hb dX10_limit_26 (by decide) ?_
      cases h
      exact hRt _ _ zz_0 dX10_limit_27 _ _ hP hD hS
    · rw [if_neg c2] at h
      refine lv_iconst (v := 1) hx hb dX10_limit_22 (by decide) ?_
      refine lv_goto (tgt := 27) hx hb dX10_limit_23 (by decide) ?_
      cases h
      exact hRt _ _ zz_1 dX10_limit_27 _ _ hP hD hS
  · rw [if_neg c1] at h
    refine lv_iload_n hx hb dX10_limit_6 rfl (lv_at hl 1 rfl) ?_
    refine lv_goto (tgt := 14) hx hb dX10_limit_7 (by decide) ?_
    refine r_put (ty := .int) (q1 := (uF q 7 x1)) F hP hD hS i_X10 tyX10_ok nmX10 0 (me_0 E q) rfl 36 (by decide) rfl lf_X10_105 rfl (by decide +kernel) rfl rfl (Nat.le_of_ble_eq_true rfl) (mf_0_7 E q x1) dX10_limit_14 ?_
    intro H locs hP hD hS
    refine lv_iload_n hx hb dX10_limit_17 rfl (lv_at hl 1 rfl) ?_
    refine lv_iconst (v := (-1)) hx hb dX10_limit_18 (by decide) ?_
    refine lv_icmp_lt (tgt := 26) hx hb dX10_limit_19 (by decide) (fun c3 => ?_) (fun c3 => ?_)
    · rw [if_pos c3] at h
      refine lv_iconst (v := 0) hx hb dX10_limit_26 (by decide) ?_
      cases h
      exact hRt _ _ zz_0 dX10_limit_27 _ _ hP hD hS
    · rw [if_neg c3] at h
      refine lv_iconst (v := 1) hx hb dX10_limit_22 (by decide) ?_
      refine lv_goto (tgt := 27) hx hb dX10_limit_23 (by decide) ?_
      cases h
      exact hRt _ _ zz_1 dX10_limit_27 _ _ hP hD hS
def f_X10_limit (q : QS) (x1 : Int32) : Option (Int32 × QS) := f_X10_limit_0 q x1
set_option maxRecDepth 100000 in
theorem c_X10_limit {E : En} {l : Launch} (q : QS) (x1 : Int32) {o : Int32 × QS} (h : f_X10_limit q x1 = some o) : Ct (wM E) E l yX10_limit (wy yX10_limit cX10_limit 2 (some .boolean)) rm_X10_limit q o.2 [.ref (eA E 0), .int x1] (some (.int o.1)) :=
  ct_Z (o := o) (by decide +kernel) (fun p e s m below meth c A Q F hA hRt H locs hP hD hS => en_W [.ref (eA E 0), .int x1] (Nat.le_of_ble_eq_true rfl) (fun ls hl => g_X10_limit_0 F hA hRt q x1 h ls (lv_sub hl [0, 1] rfl) H locs hP hD hS))
def rm_X10_distinct : Room := { frames := 0, cells := 0, slots := 0, locals := 0 }
def f_X10_distinct_0 (q : QS) (x1 : Int32) : Option (QS) :=
  if vp_nar .boolean x1 = x1 then
    some (uF q 8 x1)
  else none
set_option maxHeartbeats 4000000 in
set_option maxRecDepth 100000 in
theorem g_X10_distinct_0 {E : En} {p : Program} {l : Launch} {e : Env} {s : State} {m : MethodId} {args : Array Value} {below : List Frame} {meth : Method} {c : Code} {A : Nat → Prop} {Q : State → Prop} (F : Fx E p s m args meth c (yX10_distinct).cls cX10_distinct 2 none) (hA : ∀ z : Nat, s.heap.size ≤ z → A z) {o : QS} (hRt : RtV (wM E) E p l e rm_X10_distinct s m args below meth c A Q cX10_distinct o) (q : QS) (x1 : Int32) (h : f_X10_distinct_0 q x1 = some o) (ls : Array Slot) (hl : lv_has ls 2 [(0, .ref (eA E 0)), (1, .int x1)]) : Wq (wM E) E p l e rm_X10_distinct s m args below meth c A 0 0 Q q (F0 m 0 ls []) := by
  intro H locs hP hD hS
  have hx := F.1
  have hb := F.2.1
  unfold f_X10_distinct_0 at h
  refine lv_aload_n hx hb dX10_distinct_0 rfl (lv_at hl 0 rfl) ?_
  refine lv_iload_n hx hb dX10_distinct_1 rfl (lv_at hl 1 rfl) ?_
  by_cases z1 : vp_nar .boolean x1 = x1
  rotate_left
  · rw [if_neg z1] at h; cases h
  rw [if_pos z1] at h
  refine r_put (ty := .boolean) (q1 := (uF q 8 x1)) F hP hD hS i_X10 tyX10_ok nmX10 0 (me_0 E q) rfl 37 (by decide) rfl lf_X10_159 rfl (by decide +kernel) (zz_nar z1) (zz_fit z1) (Nat.le_of_ble_eq_true rfl) (mf_0_8 E q x1) dX10_distinct_2 ?_
  intro H locs hP hD hS
  cases h
  exact hRt _ _ dX10_distinct_5 _ _ hP hD hS
def f_X10_distinct (q : QS) (x1 : Int32) : Option (QS) := f_X10_distinct_0 q x1
set_option maxRecDepth 100000 in
theorem c_X10_distinct {E : En} {l : Launch} (q : QS) (x1 : Int32) {o : QS} (h : f_X10_distinct q x1 = some o) : Ct (wM E) E l yX10_distinct (wy yX10_distinct cX10_distinct 2 none) rm_X10_distinct q o [.ref (eA E 0), .int x1] none :=
  ct_V (o := o) (by decide +kernel) (fun p e s m below meth c A Q F hA hRt H locs hP hD hS => en_W [.ref (eA E 0), .int x1] (Nat.le_of_ble_eq_true rfl) (fun ls hl => g_X10_distinct_0 F hA hRt q x1 h ls (lv_sub hl [0, 1] rfl) H locs hP hD hS))
def rm_X10_putByte : Room := { frames := 0, cells := 0, slots := 0, locals := 0 }
def f_X10_putByte_0 (q : QS) (x1 : Int32) (x2 : Int32) (x3 : Int32) : Option (QS) :=
  (rd (qL q 20) 800 (x1 + (x2 / (8 : Int32)))).bind fun y1 =>
  (wL q 20 800 (x1 + (x2 / (8 : Int32))) ((y1 &&& (((255 : Int64) <<< ((((56 : Int32) - ((8 : Int32) * (x2 - x2 / (8 : Int32) * (8 : Int32))))).toInt64 &&& 63)) ^^^ (-1 : Int64))) ||| (((x3).toInt64) <<< ((((56 : Int32) - ((8 : Int32) * (x2 - x2 / (8 : Int32) * (8 : Int32))))).toInt64 &&& 63)))).bind fun q3 =>
  some q3
set_option maxHeartbeats 4000000 in
set_option maxRecDepth 100000 in
theorem g_X10_putByte_0 {E : En} {p : Program} {l : Launch} {e : Env} {s : State} {m : MethodId} {args : Array Value} {below : List Frame} {meth : Method} {c : Code} {A : Nat → Prop} {Q : State → Prop} (F : Fx E p s m args meth c (yX10_putByte).cls cX10_putByte 6 none) (hA : ∀ z : Nat, s.heap.size ≤ z → A z) {o : QS} (hRt : RtV (wM E) E p l e rm_X10_putByte s m args below meth c A Q cX10_putByte o) (q : QS) (x1 : Int32) (x2 : Int32) (x3 : Int32) (h : f_X10_putByte_0 q x1 x2 x3 = some o) (ls : Array Slot) (hl : lv_has ls 6 [(0, .ref (eA E 0)), (1, .int x1), (2, .int x2), (3, .int x3)]) : Wq (wM E) E p l e rm_X10_putByte s m args below meth c A 0 0 Q q (F0 m 0 ls []) := by
  intro H locs hP hD hS
  have hx := F.1
  have hb := F.2.1
  unfold f_X10_putByte_0 at h
  refine lv_iload_n hx hb dX10_putByte_0 rfl (lv_at hl 1 rfl) ?_
  refine lv_iload_n hx hb dX10_putByte_1 rfl (lv_at hl 2 rfl) ?_
  refine lv_bipush (v := 8) hx hb dX10_putByte_2 (by decide) ?_
  refine lv_idiv hx hb dX10_putByte_4 (by decide) ?_
  refine lv_iadd hx hb dX10_putByte_5 ?_
  refine lv_istore (lv' := [(4, .int (x1 + (x2 / (8 : Int32)))), (0, .ref (eA E 0)), (1, .int x1), (2, .int x2), (3, .int x3)]) hx hb dX10_putByte_6 hl (by decide) rfl (fun ls hl => ?_)
  refine lv_bipush (v := 56) hx hb dX10_putByte_8 (by decide) ?_
  refine lv_bipush (v := 8) hx hb dX10_putByte_10 (by decide) ?_
  refine lv_iload_n hx hb dX10_putByte_12 rfl (lv_at hl 3 rfl) ?_
  refine lv_bipush (v := 8) hx hb dX10_putByte_13 (by decide) ?_
  refine lv_irem hx hb dX10_putByte_15 (by decide) ?_
  refine lv_imul hx hb dX10_putByte_16 ?_
  refine lv_isub hx hb dX10_putByte_17 ?_
  refine lv_istore (lv' := [(5, .int ((56 : Int32) - ((8 : Int32) * (x2 - x2 / (8 : Int32) * (8 : Int32))))), (4, .int (x1 + (x2 / (8 : Int32)))), (0, .ref (eA E 0)), (1, .int x1), (2, .int x2), (3, .int x3)]) hx hb dX10_putByte_18 hl (by decide) rfl (fun ls hl => ?_)
  refine lv_aload_n hx hb dX10_putByte_20 rfl (lv_at hl 2 rfl) ?_
  refine r_get F hP i_X10 0 (me_0 E q) rfl 22 (by decide) rfl lf_X10_71 rfl dX10_putByte_21 ?_
  refine lv_iload hx hb dX10_putByte_24 (lv_at hl 1 rfl) ?_
  refine lv_aload_n hx hb dX10_putByte_26 rfl (lv_at hl 2 rfl) ?_
  refine r_get F hP i_X10 0 (me_0 E q) rfl 22 (by decide) rfl lf_X10_71 rfl dX10_putByte_27 ?_
  refine lv_iload hx hb dX10_putByte_30 (lv_at hl 1 rfl) ?_
  obtain ⟨y1, e2, h⟩ := Option.bind_eq_some_iff.mp h
  refine r_lald F hP 20 (me_20 E q) e2 dX10_putByte_32 ?_
  refine lv_ldc2 (v := 255) hx hb F.2.2.2.1 (F.2.2.2.2.1 _ lc_X10_198) dX10_putByte_33 ?_
  refine lv_iload hx hb dX10_putByte_36 (lv_at hl 0 rfl) ?_
  refine lv_lshl (v := ((255 : Int64) <<< ((((56 : Int32) - ((8 : Int32) * (x2 - x2 / (8 : Int32) * (8 : Int32))))).toInt64 &&& 63))) hx hb dX10_putByte_38 rfl ?_
  refine lv_ldc2 (v := (-1)) hx hb F.2.2.2.1 (F.2.2.2.2.1 _ lc_X10_200) dX10_putByte_39 ?_
  refine lv_lxor hx hb dX10_putByte_42 ?_
  refine lv_land hx hb dX10_putByte_43 ?_
  refine lv_iload_n hx hb dX10_putByte_44 rfl (lv_at hl 5 rfl) ?_
  refine lv_i2l (v := ((x3).toInt64)) hx hb dX10_putByte_45 rfl ?_
  refine lv_iload hx hb dX10_putByte_46 (lv_at hl 0 rfl) ?_
  refine lv_lshl (v := (((x3).toInt64) <<< ((((56 : Int32) - ((8 : Int32) * (x2 - x2 / (8 : Int32) * (8 : Int32))))).toInt64 &&& 63))) hx hb dX10_putByte_48 rfl ?_
  refine lv_lor hx hb dX10_putByte_49 ?_
  obtain ⟨q3, e4, h⟩ := Option.bind_eq_some_iff.mp h
  refine r_last F hP hD hS 20 (me_20 E q) (ms_20 E q) e4 dX10_putByte_50 ?_
  intro H locs hP hD hS
  cases h
  exact hRt _ _ dX10_putByte_51 _ _ hP hD hS
def f_X10_putByte (q : QS) (x1 : Int32) (x2 : Int32) (x3 : Int32) : Option (QS) := f_X10_putByte_0 q x1 x2 x3
set_option maxRecDepth 100000 in
theorem c_X10_putByte {E : En} {l : Launch} (q : QS) (x1 : Int32) (x2 : Int32) (x3 : Int32) {o : QS} (h : f_X10_putByte q x1 x2 x3 = some o) : Ct (wM E) E l yX10_putByte (wy yX10_putByte cX10_putByte 6 none) rm_X10_putByte q o [.ref (eA E 0), .int x1, .int x2, .int x3] none :=
  ct_V (o := o) (by decide +kernel) (fun p e s m below meth c A Q F hA hRt H locs hP hD hS => en_W [.ref (eA E 0), .int x1, .int x2, .int x3] (Nat.le_of_ble_eq_true rfl) (fun ls hl => g_X10_putByte_0 F hA hRt q x1 x2 x3 h ls (lv_sub hl [0, 1, 2, 3] rfl) H locs hP hD hS))
def rm_X10_byteOf : Room := { frames := 0, cells := 0, slots := 0, locals := 0 }
def f_X10_byteOf_0 (q : QS) (x1 : Int32) (x2 : Int32) : Option (Int32) :=
  (rd (qL q 20) 800 (x1 + (x2 / (8 : Int32)))).bind fun y1 =>
  some ((((y1 >>> ((((56 : Int32) - ((8 : Int32) * (x2 - x2 / (8 : Int32) * (8 : Int32))))).toInt64 &&& 63)) &&& (255 : Int64))).toInt32)
set_option maxHeartbeats 4000000 in
set_option maxRecDepth 100000 in
theorem g_X10_byteOf_0 {E : En} {p : Program} {l : Launch} {e : Env} {s : State} {m : MethodId} {args : Array Value} {below : List Frame} {meth : Method} {c : Code} {A : Nat → Prop} {Q : State → Prop} (F : Fx E p s m args meth c (yX10_byteOf).cls cX10_byteOf 3 (some .int)) (hA : ∀ z : Nat, s.heap.size ≤ z → A z) {q : QS} {o : Int32} (hRt : RtI (wM E) E p l e rm_X10_byteOf s m args below meth c A Q cX10_byteOf (o, q)) (x1 : Int32) (x2 : Int32) (h : f_X10_byteOf_0 q x1 x2 = some o) (ls : Array Slot) (hl : lv_has ls 3 [(0, .ref (eA E 0)), (1, .int x1), (2, .int x2)]) : Wq (wM E) E p l e rm_X10_byteOf s m args below meth c A 0 0 Q q (F0 m 0 ls []) := by
  intro H locs hP hD hS
  have hx := F.1
  have hb := F.2.1
  unfold f_X10_byteOf_0 at h
  refine lv_aload_n hx hb dX10_byteOf_0 rfl (lv_at hl 0 rfl) ?_
  refine r_get F hP i_X10 0 (me_0 E q) rfl 22 (by decide) rfl lf_X10_71 rfl dX10_byteOf_1 ?_
  refine lv_iload_n hx hb dX10_byteOf_4 rfl (lv_at hl 1 rfl) ?_
  refine lv_iload_n hx hb dX10_byteOf_5 rfl (lv_at hl 2 rfl) ?_
  refine lv_bipush (v := 8) hx hb dX10_byteOf_6 (by decide) ?_
  refine lv_idiv hx hb dX10_byteOf_8 (by decide) ?_
  refine lv_iadd hx hb dX10_byteOf_9 ?_
  obtain ⟨y1, e2, h⟩ := Option.bind_eq_some_iff.mp h
  refine r_lald F hP 20 (me_20 E q) e2 dX10_byteOf_10 ?_
  refine lv_bipush (v := 56) hx hb dX10_byteOf_11 (by decide) ?_
  refine lv_bipush (v := 8) hx hb dX10_byteOf_13 (by decide) ?_
  refine lv_iload_n hx hb dX10_byteOf_15 rfl (lv_at hl 2 rfl) ?_
  refine lv_bipush (v := 8) hx hb dX10_byteOf_16 (by decide) ?_
  refine lv_irem hx hb dX10_byteOf_18 (by decide) ?_
  refine lv_imul hx hb dX10_byteOf_19 ?_
  refine lv_isub hx hb dX10_byteOf_20 ?_
  refine lv_lshr (v := (y1 >>> ((((56 : Int32) - ((8 : Int32) * (x2 - x2 / (8 : Int32) * (8 : Int32))))).toInt64 &&& 63))) hx hb dX10_byteOf_21 rfl ?_
  refine lv_ldc2 (v := 255) hx hb F.2.2.2.1 (F.2.2.2.2.1 _ lc_X10_198) dX10_byteOf_22 ?_
  refine lv_land hx hb dX10_byteOf_25 ?_
  refine lv_l2i (v := ((((y1 >>> ((((56 : Int32) - ((8 : Int32) * (x2 - x2 / (8 : Int32) * (8 : Int32))))).toInt64 &&& 63)) &&& (255 : Int64))).toInt32)) hx hb dX10_byteOf_26 rfl ?_
  cases h
  exact hRt _ _ dX10_byteOf_27 _ _ hP hD hS
def f_X10_byteOf (q : QS) (x1 : Int32) (x2 : Int32) : Option (Int32) := f_X10_byteOf_0 q x1 x2
set_option maxRecDepth 100000 in
theorem c_X10_byteOf {E : En} {l : Launch} (q : QS) (x1 : Int32) (x2 : Int32) {o : Int32} (h : f_X10_byteOf q x1 x2 = some o) : Ct (wM E) E l yX10_byteOf (wy yX10_byteOf cX10_byteOf 3 (some .int)) rm_X10_byteOf q q [.ref (eA E 0), .int x1, .int x2] (some (.int o)) :=
  ct_I (o := (o, q)) (by decide +kernel) rfl (fun p e s m below meth c A Q F hA hRt H locs hP hD hS => en_W [.ref (eA E 0), .int x1, .int x2] (Nat.le_of_ble_eq_true rfl) (fun ls hl => g_X10_byteOf_0 F hA hRt x1 x2 h ls (lv_sub hl [0, 1, 2] rfl) H locs hP hD hS))
def rm_X10_setStep : Room := { frames := 1, cells := 0, slots := 0, locals := 25 }
def f_X10_setStep_55_b (K77 : QS → Int32 → Int32 → Option (QS)) (B55 : QS → Int32 → Int32 → Int32 → Option (QS)) (q : QS) (x1 : Int32) (x2 : Int32) (x3 : Int32) : Option (QS) :=
  if (4 : Int32) ≤ x3 then
    K77 q x1 x2
  else
    (wL q 20 800 (((4 : Int32) * x1) + x3) (0 : Int64)).bind fun q16 =>
    B55 q16 x1 x2 (x3 + (1 : Int32))
set_option maxHeartbeats 4000000 in
set_option maxRecDepth 100000 in
theorem g_X10_setStep_55_b {E : En} {p : Program} {l : Launch} {e : Env} {s : State} {m : MethodId} {args : Array Value} {below : List Frame} {meth : Method} {c : Code} {A : Nat → Prop} {Q : State → Prop} (F : Fx E p s m args meth c (yX10_setStep).cls cX10_setStep 5 none) (hA : ∀ z : Nat, s.heap.size ≤ z → A z) {o : QS} (hRt : RtV (wM E) E p l e rm_X10_setStep s m args below meth c A Q cX10_setStep o) {K77 : QS → Int32 → Int32 → Option (QS)} {B55 : QS → Int32 → Int32 → Int32 → Option (QS)} (hK77 : ∀ (q : QS) (x1 : Int32) (x2 : Int32), K77 q x1 x2 = some o → ∀ ls : Array Slot, lv_has ls 5 [(0, .ref (eA E 0)), (1, .int x1), (2, .int x2)] → Wq (wM E) E p l e rm_X10_setStep s m args below meth c A 0 0 Q q (F0 m 77 ls [])) (hB55 : ∀ (q : QS) (x1 : Int32) (x2 : Int32) (x3 : Int32), B55 q x1 x2 x3 = some o → ∀ ls : Array Slot, lv_has ls 5 [(0, .ref (eA E 0)), (1, .int x1), (2, .int x2), (3, .int x3)] → Wq (wM E) E p l e rm_X10_setStep s m args below meth c A 0 0 Q q (F0 m 55 ls [])) (q : QS) (x1 : Int32) (x2 : Int32) (x3 : Int32) (h : f_X10_setStep_55_b K77 B55 q x1 x2 x3 = some o) (ls : Array Slot) (hl : lv_has ls 5 [(0, .ref (eA E 0)), (1, .int x1), (2, .int x2), (3, .int x3)]) : Wq (wM E) E p l e rm_X10_setStep s m args below meth c A 0 0 Q q (F0 m 55 ls []) := by
  intro H locs hP hD hS
  have hx := F.1
  have hb := F.2.1
  unfold f_X10_setStep_55_b at h
  refine lv_iload_n hx hb dX10_setStep_55 rfl (lv_at hl 3 rfl) ?_
  refine lv_iconst (v := 4) hx hb dX10_setStep_56 (by decide) ?_
  refine lv_icmp_ge (tgt := 77) hx hb dX10_setStep_57 (by decide) (fun c15 => ?_) (fun c15 => ?_)
  · rw [if_pos c15] at h
    exact hK77 q x1 x2 h _ (lv_sub hl [0, 1, 2] rfl) _ _ hP hD hS
  · rw [if_neg c15] at h
    refine lv_aload_n hx hb dX10_setStep_60 rfl (lv_at hl 0 rfl) ?_
    refine r_get F hP i_X10 0 (me_0 E q) rfl 22 (by decide) rfl lf_X10_71 rfl dX10_setStep_61 ?_
    refine lv_iconst (v := 4) hx hb dX10_setStep_64 (by decide) ?_
    refine lv_iload_n hx hb dX10_setStep_65 rfl (lv_at hl 1 rfl) ?_
    refine lv_imul hx hb dX10_setStep_66 ?_
    refine lv_iload_n hx hb dX10_setStep_67 rfl (lv_at hl 3 rfl) ?_
    refine lv_iadd hx hb dX10_setStep_68 ?_
    refine lv_lconst (v := 0) hx hb dX10_setStep_69 (by decide) ?_
    obtain ⟨q16, e17, h⟩ := Option.bind_eq_some_iff.mp h
    refine r_last F hP hD hS 20 (me_20 E q) (ms_20 E q) e17 dX10_setStep_70 ?_
    intro H locs hP hD hS
    refine lv_iinc (v := (x3 + (1 : Int32))) (lv' := [(3, .int (x3 + (1 : Int32))), (0, .ref (eA E 0)), (1, .int x1), (2, .int x2)]) hx hb dX10_setStep_71 hl (k := 3) rfl rfl (by decide) rfl (fun ls hl => ?_)
    refine lv_goto (tgt := 55) hx hb dX10_setStep_74 (by decide) ?_
    exact hB55 q16 x1 x2 (x3 + (1 : Int32)) h _ (lv_sub hl [1, 2, 3, 0] rfl) _ _ hP hD hS
def f_X10_setStep_55 (K77 : QS → Int32 → Int32 → Option (QS)) : Nat → QS → Int32 → Int32 → Int32 → Option (QS)
  | 0 => fun _ _ _ _ => none
  | n + 1 => f_X10_setStep_55_b K77 (f_X10_setStep_55 K77 n)
theorem g_X10_setStep_55 {E : En} {p : Program} {l : Launch} {e : Env} {s : State} {m : MethodId} {args : Array Value} {below : List Frame} {meth : Method} {c : Code} {A : Nat → Prop} {Q : State → Prop} (F : Fx E p s m args meth c (yX10_setStep).cls cX10_setStep 5 none) (hA : ∀ z : Nat, s.heap.size ≤ z → A z) {o : QS} (hRt : RtV (wM E) E p l e rm_X10_setStep s m args below meth c A Q cX10_setStep o) {K77 : QS → Int32 → Int32 → Option (QS)} (hK77 : ∀ (q : QS) (x1 : Int32) (x2 : Int32), K77 q x1 x2 = some o → ∀ ls : Array Slot, lv_has ls 5 [(0, .ref (eA E 0)), (1, .int x1), (2, .int x2)] → Wq (wM E) E p l e rm_X10_setStep s m args below meth c A 0 0 Q q (F0 m 77 ls [])) (n : Nat) : ∀ (q : QS) (x1 : Int32) (x2 : Int32) (x3 : Int32), f_X10_setStep_55 K77 n q x1 x2 x3 = some o → ∀ ls : Array Slot, lv_has ls 5 [(0, .ref (eA E 0)), (1, .int x1), (2, .int x2), (3, .int x3)] → Wq (wM E) E p l e rm_X10_setStep s m args below meth c A 0 0 Q q (F0 m 55 ls []) := by
  induction n with
  | zero => intro q x1 x2 x3 h; cases h
  | succ n ih => intro q x1 x2 x3 h; exact g_X10_setStep_55_b F hA hRt hK77 ih q x1 x2 x3 h
def f_X10_setStep_94_b (K122 : QS → Int32 → Int32 → Int32 → Option (QS)) (B94 : QS → Int32 → Int32 → Int32 → Option (QS)) (q : QS) (x1 : Int32) (x3 : Int32) (x4 : Int32) : Option (QS) :=
  (rd (qI q 5) 520 x3).bind fun y21 =>
  (rd (qI q 3) 520 x3).bind fun y23 =>
  if (y21 - y23) ≤ x4 then
    K122 q x1 x3 x4
  else
    (rd (qI q 4) 520 x3).bind fun y26 =>
    B94 q x1 y26 x4
set_option maxHeartbeats 4000000 in
set_option maxRecDepth 100000 in
theorem g_X10_setStep_94_b {E : En} {p : Program} {l : Launch} {e : Env} {s : State} {m : MethodId} {args : Array Value} {below : List Frame} {meth : Method} {c : Code} {A : Nat → Prop} {Q : State → Prop} (F : Fx E p s m args meth c (yX10_setStep).cls cX10_setStep 5 none) (hA : ∀ z : Nat, s.heap.size ≤ z → A z) {o : QS} (hRt : RtV (wM E) E p l e rm_X10_setStep s m args below meth c A Q cX10_setStep o) {K122 : QS → Int32 → Int32 → Int32 → Option (QS)} {B94 : QS → Int32 → Int32 → Int32 → Option (QS)} (hK122 : ∀ (q : QS) (x1 : Int32) (x3 : Int32) (x4 : Int32), K122 q x1 x3 x4 = some o → ∀ ls : Array Slot, lv_has ls 5 [(0, .ref (eA E 0)), (1, .int x1), (3, .int x3), (4, .int x4)] → Wq (wM E) E p l e rm_X10_setStep s m args below meth c A 0 0 Q q (F0 m 122 ls [])) (hB94 : ∀ (q : QS) (x1 : Int32) (x3 : Int32) (x4 : Int32), B94 q x1 x3 x4 = some o → ∀ ls : Array Slot, lv_has ls 5 [(0, .ref (eA E 0)), (1, .int x1), (3, .int x3), (4, .int x4)] → Wq (wM E) E p l e rm_X10_setStep s m args below meth c A 0 0 Q q (F0 m 94 ls [])) (q : QS) (x1 : Int32) (x3 : Int32) (x4 : Int32) (h : f_X10_setStep_94_b K122 B94 q x1 x3 x4 = some o) (ls : Array Slot) (hl : lv_has ls 5 [(0, .ref (eA E 0)), (1, .int x1), (3, .int x3), (4, .int x4)]) : Wq (wM E) E p l e rm_X10_setStep s m args below meth c A 0 0 Q q (F0 m 94 ls []) := by
  intro H locs hP hD hS
  have hx := F.1
  have hb := F.2.1
  unfold f_X10_setStep_94_b at h
  refine lv_aload_n hx hb dX10_setStep_94 rfl (lv_at hl 0 rfl) ?_
  refine r_get F hP i_X10 0 (me_0 E q) rfl 5 (by decide) rfl lf_X10_24 rfl dX10_setStep_95 ?_
  refine lv_iload_n hx hb dX10_setStep_98 rfl (lv_at hl 2 rfl) ?_
  obtain ⟨y21, e22, h⟩ := Option.bind_eq_some_iff.mp h
  refine r_bald F hP 5 (me_5 E q) e22 dX10_setStep_99 ?_
  refine lv_aload_n hx hb dX10_setStep_100 rfl (lv_at hl 0 rfl) ?_
  refine r_get F hP i_X10 0 (me_0 E q) rfl 3 (by decide) rfl lf_X10_17 rfl dX10_setStep_101 ?_
  refine lv_iload_n hx hb dX10_setStep_104 rfl (lv_at hl 2 rfl) ?_
  obtain ⟨y23, e24, h⟩ := Option.bind_eq_some_iff.mp h
  refine r_bald F hP 3 (me_3 E q) e24 dX10_setStep_105 ?_
  refine lv_isub hx hb dX10_setStep_106 ?_
  refine lv_iload hx hb dX10_setStep_107 (lv_at hl 3 rfl) ?_
  refine lv_icmp_le (tgt := 122) hx hb dX10_setStep_109 (by decide) (fun c25 => ?_) (fun c25 => ?_)
  · rw [if_pos c25] at h
    exact hK122 q x1 x3 x4 h _ (lv_sub hl [0, 1, 2, 3] rfl) _ _ hP hD hS
  · rw [if_neg c25] at h
    refine lv_aload_n hx hb dX10_setStep_112 rfl (lv_at hl 0 rfl) ?_
    refine r_get F hP i_X10 0 (me_0 E q) rfl 4 (by decide) rfl lf_X10_20 rfl dX10_setStep_113 ?_
    refine lv_iload_n hx hb dX10_setStep_116 rfl (lv_at hl 2 rfl) ?_
    obtain ⟨y26, e27, h⟩ := Option.bind_eq_some_iff.mp h
    refine r_sald F hP 4 (me_4 E q) e27 dX10_setStep_117 ?_
    refine lv_istore_n (lv' := [(3, .int y26), (0, .ref (eA E 0)), (1, .int x1), (4, .int x4)]) hx hb dX10_setStep_118 rfl hl (by decide) rfl (fun ls hl => ?_)
    refine lv_goto (tgt := 94) hx hb dX10_setStep_119 (by decide) ?_
    exact hB94 q x1 y26 x4 h _ (lv_sub hl [1, 2, 0, 3] rfl) _ _ hP hD hS
def f_X10_setStep_94 (K122 : QS → Int32 → Int32 → Int32 → Option (QS)) : Nat → QS → Int32 → Int32 → Int32 → Option (QS)
  | 0 => fun _ _ _ _ => none
  | n + 1 => f_X10_setStep_94_b K122 (f_X10_setStep_94 K122 n)
theorem g_X10_setStep_94 {E : En} {p : Program} {l : Launch} {e : Env} {s : State} {m : MethodId} {args : Array Value} {below : List Frame} {meth : Method} {c : Code} {A : Nat → Prop} {Q : State → Prop} (F : Fx E p s m args meth c (yX10_setStep).cls cX10_setStep 5 none) (hA : ∀ z : Nat, s.heap.size ≤ z → A z) {o : QS} (hRt : RtV (wM E) E p l e rm_X10_setStep s m args below meth c A Q cX10_setStep o) {K122 : QS → Int32 → Int32 → Int32 → Option (QS)} (hK122 : ∀ (q : QS) (x1 : Int32) (x3 : Int32) (x4 : Int32), K122 q x1 x3 x4 = some o → ∀ ls : Array Slot, lv_has ls 5 [(0, .ref (eA E 0)), (1, .int x1), (3, .int x3), (4, .int x4)] → Wq (wM E) E p l e rm_X10_setStep s m args below meth c A 0 0 Q q (F0 m 122 ls [])) (n : Nat) : ∀ (q : QS) (x1 : Int32) (x3 : Int32) (x4 : Int32), f_X10_setStep_94 K122 n q x1 x3 x4 = some o → ∀ ls : Array Slot, lv_has ls 5 [(0, .ref (eA E 0)), (1, .int x1), (3, .int x3), (4, .int x4)] → Wq (wM E) E p l e rm_X10_setStep s m args below meth c A 0 0 Q q (F0 m 94 ls []) := by
  induction n with
  | zero => intro q x1 x3 x4 h; cases h
  | succ n ih => intro q x1 x3 x4 h; exact g_X10_setStep_94_b F hA hRt hK122 ih q x1 x3 x4 h
def f_X10_setStep_122 (B89 : QS → Int32 → Int32 → Int32 → Option (QS)) (q : QS) (x1 : Int32) (x3 : Int32) (x4 : Int32) : Option (QS) :=
  (rd (qL q 2) 520 x3).bind fun y28 =>
  (rd (qI q 5) 520 x3).bind fun y30 =>
  (f_X10_putByte q ((4 : Int32) * x1) x4 ((((y28 >>> ((((8 : Int32) * ((y30 - (1 : Int32)) - x4))).toInt64 &&& 63)) &&& (255 : Int64))).toInt32)).bind fun r32 =>
  B89 r32 x1 x3 (x4 + (-1 : Int32))
set_option maxHeartbeats 4000000 in
set_option maxRecDepth 100000 in
theorem g_X10_setStep_122 {E : En} {p : Program} {l : Launch} {e : Env} {s : State} {m : MethodId} {args : Array Value} {below : List Frame} {meth : Method} {c : Code} {A : Nat → Prop} {Q : State → Prop} (F : Fx E p s m args meth c (yX10_setStep).cls cX10_setStep 5 none) (hA : ∀ z : Nat, s.heap.size ≤ z → A z) {o : QS} (hRt : RtV (wM E) E p l e rm_X10_setStep s m args below meth c A Q cX10_setStep o) {B89 : QS → Int32 → Int32 → Int32 → Option (QS)} (hB89 : ∀ (q : QS) (x1 : Int32) (x3 : Int32) (x4 : Int32), B89 q x1 x3 x4 = some o → ∀ ls : Array Slot, lv_has ls 5 [(0, .ref (eA E 0)), (1, .int x1), (3, .int x3), (4, .int x4)] → Wq (wM E) E p l e rm_X10_setStep s m args below meth c A 0 0 Q q (F0 m 89 ls [])) (q : QS) (x1 : Int32) (x3 : Int32) (x4 : Int32) (h : f_X10_setStep_122 B89 q x1 x3 x4 = some o) (ls : Array Slot) (hl : lv_has ls 5 [(0, .ref (eA E 0)), (1, .int x1), (3, .int x3), (4, .int x4)]) : Wq (wM E) E p l e rm_X10_setStep s m args below meth c A 0 0 Q q (F0 m 122 ls []) := by
  intro H locs hP hD hS
  have hx := F.1
  have hb := F.2.1
  unfold f_X10_setStep_122 at h
  refine lv_aload_n hx hb dX10_setStep_122 rfl (lv_at hl 0 rfl) ?_
  refine lv_iconst (v := 4) hx hb dX10_setStep_123 (by decide) ?_
  refine lv_iload_n hx hb dX10_setStep_124 rfl (lv_at hl 1 rfl) ?_
  refine lv_imul hx hb dX10_setStep_125 ?_
  refine lv_iload hx hb dX10_setStep_126 (lv_at hl 3 rfl) ?_
  refine lv_aload_n hx hb dX10_setStep_128 rfl (lv_at hl 0 rfl) ?_
  refine r_get F hP i_X10 0 (me_0 E q) rfl 2 (by decide) rfl lf_X10_13 rfl dX10_setStep_129 ?_
  refine lv_iload_n hx hb dX10_setStep_132 rfl (lv_at hl 2 rfl) ?_
  obtain ⟨y28, e29, h⟩ := Option.bind_eq_some_iff.mp h
  refine r_lald F hP 2 (me_2 E q) e29 dX10_setStep_133 ?_
  refine lv_bipush (v := 8) hx hb dX10_setStep_134 (by decide) ?_
  refine lv_aload_n hx hb dX10_setStep_136 rfl (lv_at hl 0 rfl) ?_
  refine r_get F hP i_X10 0 (me_0 E q) rfl 5 (by decide) rfl lf_X10_24 rfl dX10_setStep_137 ?_
  refine lv_iload_n hx hb dX10_setStep_140 rfl (lv_at hl 2 rfl) ?_
  obtain ⟨y30, e31, h⟩ := Option.bind_eq_some_iff.mp h
  refine r_bald F hP 5 (me_5 E q) e31 dX10_setStep_141 ?_
  refine lv_iconst (v := 1) hx hb dX10_setStep_142 (by decide) ?_
  refine lv_isub hx hb dX10_setStep_143 ?_
  refine lv_iload hx hb dX10_setStep_144 (lv_at hl 3 rfl) ?_
  refine lv_isub hx hb dX10_setStep_146 ?_
  refine lv_imul hx hb dX10_setStep_147 ?_
  refine lv_lshr (v := (y28 >>> ((((8 : Int32) * ((y30 - (1 : Int32)) - x4))).toInt64 &&& 63))) hx hb dX10_setStep_148 rfl ?_
  refine lv_ldc2 (v := 255) hx hb F.2.2.2.1 (F.2.2.2.2.1 _ lc_X10_198) dX10_setStep_149 ?_
  refine lv_land hx hb dX10_setStep_152 ?_
  refine lv_l2i (v := ((((y28 >>> ((((8 : Int32) * ((y30 - (1 : Int32)) - x4))).toInt64 &&& 63)) &&& (255 : Int64))).toInt32)) hx hb dX10_setStep_153 rfl ?_
  obtain ⟨r32, e33, h⟩ := Option.bind_eq_some_iff.mp h
  refine q_callV (As := [.int ((4 : Int32) * x1), .int x4, .int ((((y28 >>> ((((8 : Int32) * ((y30 - (1 : Int32)) - x4))).toInt64 &&& 63)) &&& (255 : Int64))).toInt32)]) (rest := []) F hA hP hD hS (c_X10_putByte (E := E) (l := l) q ((4 : Int32) * x1) x4 ((((y28 >>> ((((8 : Int32) * ((y30 - (1 : Int32)) - x4))).toInt64 &&& 63)) &&& (255 : Int64))).toInt32) e33) k_X10_putByte in_X10_putByte se_X10_putByte lm_X10_202 0 (me_0 E q) rfl ⟨rfl, rfl⟩ ⟨by decide, by decide⟩ rfl hl.1 rfl (Nat.le_of_ble_eq_true rfl) dX10_setStep_154 ⟨by decide, by decide⟩ ?_
  intro H locs hP hD hS
  refine lv_iinc (v := (x4 + (-1 : Int32))) (lv' := [(4, .int (x4 + (-1 : Int32))), (0, .ref (eA E 0)), (1, .int x1), (3, .int x3)]) hx hb dX10_setStep_157 hl (k := 3) rfl rfl (by decide) rfl (fun ls hl => ?_)
  refine lv_goto (tgt := 89) hx hb dX10_setStep_160 (by decide) ?_
  exact hB89 r32 x1 x3 (x4 + (-1 : Int32)) h _ (lv_sub hl [1, 2, 3, 0] rfl) _ _ hP hD hS
def f_X10_setStep_89_b (B89 : QS → Int32 → Int32 → Int32 → Option (QS)) (q : QS) (x1 : Int32) (x3 : Int32) (x4 : Int32) : Option (QS) :=
  if x4 < 0 then
    some q
  else
    f_X10_setStep_94 (f_X10_setStep_122 B89) FU q x1 x3 x4
set_option maxHeartbeats 4000000 in
set_option maxRecDepth 100000 in
theorem g_X10_setStep_89_b {E : En} {p : Program} {l : Launch} {e : Env} {s : State} {m : MethodId} {args : Array Value} {below : List Frame} {meth : Method} {c : Code} {A : Nat → Prop} {Q : State → Prop} (F : Fx E p s m args meth c (yX10_setStep).cls cX10_setStep 5 none) (hA : ∀ z : Nat, s.heap.size ≤ z → A z) {o : QS} (hRt : RtV (wM E) E p l e rm_X10_setStep s m args below meth c A Q cX10_setStep o) {B89 : QS → Int32 → Int32 → Int32 → Option (QS)} (hB89 : ∀ (q : QS) (x1 : Int32) (x3 : Int32) (x4 : Int32), B89 q x1 x3 x4 = some o → ∀ ls : Array Slot, lv_has ls 5 [(0, .ref (eA E 0)), (1, .int x1), (3, .int x3), (4, .int x4)] → Wq (wM E) E p l e rm_X10_setStep s m args below meth c A 0 0 Q q (F0 m 89 ls [])) (q : QS) (x1 : Int32) (x3 : Int32) (x4 : Int32) (h : f_X10_setStep_89_b B89 q x1 x3 x4 = some o) (ls : Array Slot) (hl : lv_has ls 5 [(0, .ref (eA E 0)), (1, .int x1), (3, .int x3), (4, .int x4)]) : Wq (wM E) E p l e rm_X10_setStep s m args below meth c A 0 0 Q q (F0 m 89 ls []) := by
  intro H locs hP hD hS
  have hx := F.1
  have hb := F.2.1
  unfold f_X10_setStep_89_b at h
  refine lv_iload hx hb dX10_setStep_89 (lv_at hl 3 rfl) ?_
  refine lv_if_lt (tgt := 163) hx hb dX10_setStep_91 (by decide) (fun c20 => ?_) (fun c20 => ?_)
  · rw [if_pos c20] at h
    cases h
    exact hRt _ _ dX10_setStep_163 _ _ hP hD hS
  · rw [if_neg c20] at h
    exact g_X10_setStep_94 F hA hRt (g_X10_setStep_122 F hA hRt hB89) FU q x1 x3 x4 h _ (lv_sub hl [0, 1, 2, 3] rfl) _ _ hP hD hS
def f_X10_setStep_89 : Nat → QS → Int32 → Int32 → Int32 → Option (QS)
  | 0 => fun _ _ _ _ => none
  | n + 1 => f_X10_setStep_89_b (f_X10_setStep_89 n)
theorem g_X10_setStep_89 {E : En} {p : Program} {l : Launch} {e : Env} {s : State} {m : MethodId} {args : Array Value} {below : List Frame} {meth : Method} {c : Code} {A : Nat → Prop} {Q : State → Prop} (F : Fx E p s m args meth c (yX10_setStep).cls cX10_setStep 5 none) (hA : ∀ z : Nat, s.heap.size ≤ z → A z) {o : QS} (hRt : RtV (wM E) E p l e rm_X10_setStep s m args below meth c A Q cX10_setStep o) (n : Nat) : ∀ (q : QS) (x1 : Int32) (x3 : Int32) (x4 : Int32), f_X10_setStep_89 n q x1 x3 x4 = some o → ∀ ls : Array Slot, lv_has ls 5 [(0, .ref (eA E 0)), (1, .int x1), (3, .int x3), (4, .int x4)] → Wq (wM E) E p l e rm_X10_setStep s m args below meth c A 0 0 Q q (F0 m 89 ls []) := by
  induction n with
  | zero => intro q x1 x3 x4 h; cases h
  | succ n ih => intro q x1 x3 x4 h; exact g_X10_setStep_89_b F hA hRt ih q x1 x3 x4 h
def f_X10_setStep_77 (q : QS) (x1 : Int32) (x2 : Int32) : Option (QS) :=
  (rd (qI q 5) 520 x2).bind fun y18 =>
  f_X10_setStep_89 FU q x1 x2 (y18 - (1 : Int32))
set_option maxHeartbeats 4000000 in
set_option maxRecDepth 100000 in
theorem g_X10_setStep_77 {E : En} {p : Program} {l : Launch} {e : Env} {s : State} {m : MethodId} {args : Array Value} {below : List Frame} {meth : Method} {c : Code} {A : Nat → Prop} {Q : State → Prop} (F : Fx E p s m args meth c (yX10_setStep).cls cX10_setStep 5 none) (hA : ∀ z : Nat, s.heap.size ≤ z → A z) {o : QS} (hRt : RtV (wM E) E p l e rm_X10_setStep s m args below meth c A Q cX10_setStep o) (q : QS) (x1 : Int32) (x2 : Int32) (h : f_X10_setStep_77 q x1 x2 = some o) (ls : Array Slot) (hl : lv_has ls 5 [(0, .ref (eA E 0)), (1, .int x1), (2, .int x2)]) : Wq (wM E) E p l e rm_X10_setStep s m args below meth c A 0 0 Q q (F0 m 77 ls []) := by
  intro H locs hP hD hS
  have hx := F.1
  have hb := F.2.1
  unfold f_X10_setStep_77 at h
  refine lv_iload_n hx hb dX10_setStep_77 rfl (lv_at hl 2 rfl) ?_
  refine lv_istore_n (lv' := [(3, .int x2), (0, .ref (eA E 0)), (1, .int x1), (2, .int x2)]) hx hb dX10_setStep_78 rfl hl (by decide) rfl (fun ls hl => ?_)
  refine lv_aload_n hx hb dX10_setStep_79 rfl (lv_at hl 1 rfl) ?_
  refine r_get F hP i_X10 0 (me_0 E q) rfl 5 (by decide) rfl lf_X10_24 rfl dX10_setStep_80 ?_
  refine lv_iload_n hx hb dX10_setStep_83 rfl (lv_at hl 3 rfl) ?_
  obtain ⟨y18, e19, h⟩ := Option.bind_eq_some_iff.mp h
  refine r_bald F hP 5 (me_5 E q) e19 dX10_setStep_84 ?_
  refine lv_iconst (v := 1) hx hb dX10_setStep_85 (by decide) ?_
  refine lv_isub hx hb dX10_setStep_86 ?_
  refine lv_istore (lv' := [(4, .int (y18 - (1 : Int32))), (3, .int x2), (0, .ref (eA E 0)), (1, .int x1), (2, .int x2)]) hx hb dX10_setStep_87 hl (by decide) rfl (fun ls hl => ?_)
  exact g_X10_setStep_89 F hA hRt FU q x1 x2 (y18 - (1 : Int32)) h _ (lv_sub hl [2, 3, 1, 0] rfl) _ _ hP hD hS
def f_X10_setStep_40 (q : QS) (x1 : Int32) (x2 : Int32) (t1 : Int32) (t2 : Int64) : Option (QS) :=
  (wL q 18 200 t1 t2).bind fun q9 =>
  (rd (qI q9 5) 520 x2).bind fun y11 =>
  (wI q9 19 200 x1 y11).bind fun q13 =>
  f_X10_setStep_55 (f_X10_setStep_77) FU q13 x1 x2 (0 : Int32)
set_option maxHeartbeats 4000000 in
set_option maxRecDepth 100000 in
theorem g_X10_setStep_40 {E : En} {p : Program} {l : Launch} {e : Env} {s : State} {m : MethodId} {args : Array Value} {below : List Frame} {meth : Method} {c : Code} {A : Nat → Prop} {Q : State → Prop} (F : Fx E p s m args meth c (yX10_setStep).cls cX10_setStep 5 none) (hA : ∀ z : Nat, s.heap.size ≤ z → A z) {o : QS} (hRt : RtV (wM E) E p l e rm_X10_setStep s m args below meth c A Q cX10_setStep o) (q : QS) (x1 : Int32) (x2 : Int32) (t1 : Int32) (t2 : Int64) (h : f_X10_setStep_40 q x1 x2 t1 t2 = some o) (ls : Array Slot) (hl : lv_has ls 5 [(0, .ref (eA E 0)), (1, .int x1), (2, .int x2)]) : Wq (wM E) E p l e rm_X10_setStep s m args below meth c A 0 0 Q q (F0 m 40 ls [.long t2, .int t1, .ref (eA E 18)]) := by
  intro H locs hP hD hS
  have hx := F.1
  have hb := F.2.1
  unfold f_X10_setStep_40 at h
  obtain ⟨q9, e10, h⟩ := Option.bind_eq_some_iff.mp h
  refine r_last F hP hD hS 18 (me_18 E q) (ms_18 E q) e10 dX10_setStep_40 ?_
  intro H locs hP hD hS
  refine lv_aload_n hx hb dX10_setStep_41 rfl (lv_at hl 0 rfl) ?_
  refine r_get F hP i_X10 0 (me_0 E q9) rfl 21 (by decide) rfl lf_X10_68 rfl dX10_setStep_42 ?_
  refine lv_iload_n hx hb dX10_setStep_45 rfl (lv_at hl 1 rfl) ?_
  refine lv_aload_n hx hb dX10_setStep_46 rfl (lv_at hl 0 rfl) ?_
  refine r_get F hP i_X10 0 (me_0 E q9) rfl 5 (by decide) rfl lf_X10_24 rfl dX10_setStep_47 ?_
  refine lv_iload_n hx hb dX10_setStep_50 rfl (lv_at hl 2 rfl) ?_
  obtain ⟨y11, e12, h⟩ := Option.bind_eq_some_iff.mp h
  refine r_bald F hP 5 (me_5 E q9) e12 dX10_setStep_51 ?_
  obtain ⟨q13, e14, h⟩ := Option.bind_eq_some_iff.mp h
  refine r_iast F hP hD hS 19 (me_19 E q9) (ms_19 E q9) e14 dX10_setStep_52 ?_
  intro H locs hP hD hS
  refine lv_iconst (v := 0) hx hb dX10_setStep_53 (by decide) ?_
  refine lv_istore_n (lv' := [(3, .int (0 : Int32)), (0, .ref (eA E 0)), (1, .int x1), (2, .int x2)]) hx hb dX10_setStep_54 rfl hl (by decide) rfl (fun ls hl => ?_)
  exact g_X10_setStep_55 F hA hRt (g_X10_setStep_77 F hA hRt) FU q13 x1 x2 (0 : Int32) h _ (lv_sub hl [1, 2, 3, 0] rfl) _ _ hP hD hS
def f_X10_setStep_14 (q : QS) (x1 : Int32) (x2 : Int32) (t1 : Int32) (t2 : Int32) : Option (QS) :=
  (wI q 17 200 t1 (vp_nar .boolean t2)).bind fun q2 =>
  (rd (qI q2 1) 520 x2).bind fun y4 =>
  if y4 = (2 : Int32) then
    f_X10_setStep_40 q2 x1 x2 x1 (0 : Int64)
  else
    (rd (qL q2 2) 520 x2).bind fun y7 =>
    f_X10_setStep_40 q2 x1 x2 x1 y7
set_option maxHeartbeats 4000000 in
set_option maxRecDepth 100000 in
theorem g_X10_setStep_14 {E : En} {p : Program} {l : Launch} {e : Env} {s : State} {m : MethodId} {args : Array Value} {below : List Frame} {meth : Method} {c : Code} {A : Nat → Prop} {Q : State → Prop} (F : Fx E p s m args meth c (yX10_setStep).cls cX10_setStep 5 none) (hA : ∀ z : Nat, s.heap.size ≤ z → A z) {o : QS} (hRt : RtV (wM E) E p l e rm_X10_setStep s m args below meth c A Q cX10_setStep o) (q : QS) (x1 : Int32) (x2 : Int32) (t1 : Int32) (t2 : Int32) (h : f_X10_setStep_14 q x1 x2 t1 t2 = some o) (ls : Array Slot) (hl : lv_has ls 5 [(0, .ref (eA E 0)), (1, .int x1), (2, .int x2)]) : Wq (wM E) E p l e rm_X10_setStep s m args below meth c A 0 0 Q q (F0 m 14 ls [.int t2, .int t1, .ref (eA E 17)]) := by
  intro H locs hP hD hS
  have hx := F.1
  have hb := F.2.1
  unfold f_X10_setStep_14 at h
  obtain ⟨q2, e3, h⟩ := Option.bind_eq_some_iff.mp h
  refine r_zast F hP hD hS 17 (me_17 E q) (ms_17 E q) e3 dX10_setStep_14 ?_
  intro H locs hP hD hS
  refine lv_aload_n hx hb dX10_setStep_15 rfl (lv_at hl 0 rfl) ?_
  refine r_get F hP i_X10 0 (me_0 E q2) rfl 20 (by decide) rfl lf_X10_65 rfl dX10_setStep_16 ?_
  refine lv_iload_n hx hb dX10_setStep_19 rfl (lv_at hl 1 rfl) ?_
  refine lv_aload_n hx hb dX10_setStep_20 rfl (lv_at hl 0 rfl) ?_
  refine r_get F hP i_X10 0 (me_0 E q2) rfl 1 (by decide) rfl lf_X10_7 rfl dX10_setStep_21 ?_
  refine lv_iload_n hx hb dX10_setStep_24 rfl (lv_at hl 2 rfl) ?_
  obtain ⟨y4, e5, h⟩ := Option.bind_eq_some_iff.mp h
  refine r_bald F hP 1 (me_1 E q2) e5 dX10_setStep_25 ?_
  refine lv_iconst (v := 2) hx hb dX10_setStep_26 (by decide) ?_
  refine lv_icmp_ne (tgt := 34) hx hb dX10_setStep_27 (by decide) (fun c6 => ?_) (fun c6 => ?_)
  · rw [if_neg c6] at h
    refine lv_aload_n hx hb dX10_setStep_34 rfl (lv_at hl 0 rfl) ?_
    refine r_get F hP i_X10 0 (me_0 E q2) rfl 2 (by decide) rfl lf_X10_13 rfl dX10_setStep_35 ?_
    refine lv_iload_n hx hb dX10_setStep_38 rfl (lv_at hl 2 rfl) ?_
    obtain ⟨y7, e8, h⟩ := Option.bind_eq_some_iff.mp h
    refine r_lald F hP 2 (me_2 E q2) e8 dX10_setStep_39 ?_
    exact g_X10_setStep_40 F hA hRt q2 x1 x2 x1 y7 h _ (lv_sub hl [0, 1, 2] rfl) _ _ hP hD hS
  · rw [if_pos c6] at h
    refine lv_lconst (v := 0) hx hb dX10_setStep_30 (by decide) ?_
    refine lv_goto (tgt := 40) hx hb dX10_setStep_31 (by decide) ?_
    exact g_X10_setStep_40 F hA hRt q2 x1 x2 x1 (0 : Int64) h _ (lv_sub hl [0, 1, 2] rfl) _ _ hP hD hS
def f_X10_setStep_0 (q : QS) (x1 : Int32) (x2 : Int32) : Option (QS) :=
  if x2 = 0 then
    f_X10_setStep_14 q x1 x2 x1 (1 : Int32)
  else
    f_X10_setStep_14 q x1 x2 x1 (0 : Int32)
set_option maxHeartbeats 4000000 in
set_option maxRecDepth 100000 in
theorem g_X10_setStep_0 {E : En} {p : Program} {l : Launch} {e : Env} {s : State} {m : MethodId} {args : Array Value} {below : List Frame} {meth : Method} {c : Code} {A : Nat → Prop} {Q : State → Prop} (F : Fx E p s m args meth c (yX10_setStep).cls cX10_setStep 5 none) (hA : ∀ z : Nat, s.heap.size ≤ z → A z) {o : QS} (hRt : RtV (wM E) E p l e rm_X10_setStep s m args below meth c A Q cX10_setStep o) (q : QS) (x1 : Int32) (x2 : Int32) (h : f_X10_setStep_0 q x1 x2 = some o) (ls : Array Slot) (hl : lv_has ls 5 [(0, .ref (eA E 0)), (1, .int x1), (2, .int x2)]) : Wq (wM E) E p l e rm_X10_setStep s m args below meth c A 0 0 Q q (F0 m 0 ls []) := by
  intro H locs hP hD hS
  have hx := F.1
  have hb := F.2.1
  unfold f_X10_setStep_0 at h
  refine lv_aload_n hx hb dX10_setStep_0 rfl (lv_at hl 0 rfl) ?_
  refine r_get F hP i_X10 0 (me_0 E q) rfl 19 (by decide) rfl lf_X10_62 rfl dX10_setStep_1 ?_
  refine lv_iload_n hx hb dX10_setStep_4 rfl (lv_at hl 1 rfl) ?_
  refine lv_iload_n hx hb dX10_setStep_5 rfl (lv_at hl 2 rfl) ?_
  refine lv_if_ne (tgt := 13) hx hb dX10_setStep_6 (by decide) (fun c1 => ?_) (fun c1 => ?_)
  · rw [if_neg c1] at h
    refine lv_iconst (v := 0) hx hb dX10_setStep_13 (by decide) ?_
    exact g_X10_setStep_14 F hA hRt q x1 x2 x1 (0 : Int32) h _ (lv_sub hl [0, 1, 2] rfl) _ _ hP hD hS
  · rw [if_pos c1] at h
    refine lv_iconst (v := 1) hx hb dX10_setStep_9 (by decide) ?_
    refine lv_goto (tgt := 14) hx hb dX10_setStep_10 (by decide) ?_
    exact g_X10_setStep_14 F hA hRt q x1 x2 x1 (1 : Int32) h _ (lv_sub hl [0, 1, 2] rfl) _ _ hP hD hS
def f_X10_setStep (q : QS) (x1 : Int32) (x2 : Int32) : Option (QS) := f_X10_setStep_0 q x1 x2
set_option maxRecDepth 100000 in
theorem c_X10_setStep {E : En} {l : Launch} (q : QS) (x1 : Int32) (x2 : Int32) {o : QS} (h : f_X10_setStep q x1 x2 = some o) : Ct (wM E) E l yX10_setStep (wy yX10_setStep cX10_setStep 5 none) rm_X10_setStep q o [.ref (eA E 0), .int x1, .int x2] none :=
  ct_V (o := o) (by decide +kernel) (fun p e s m below meth c A Q F hA hRt H locs hP hD hS => en_W [.ref (eA E 0), .int x1, .int x2] (Nat.le_of_ble_eq_true rfl) (fun ls hl => g_X10_setStep_0 F hA hRt q x1 x2 h ls (lv_sub hl [0, 1, 2] rfl) H locs hP hD hS))
def rm_X10_sign : Room := { frames := 0, cells := 0, slots := 0, locals := 0 }
def f_X10_sign_0 (x0 : Int64) (x2 : Int64) : Option (Int32) :=
  if 0 ≤ (lg_cmp x0 x2) then
    if (lg_cmp x0 x2) ≤ 0 then
      some (0 : Int32)
    else
      some (1 : Int32)
  else
    some (-1 : Int32)
set_option maxHeartbeats 4000000 in
set_option maxRecDepth 100000 in
theorem g_X10_sign_0 {E : En} {p : Program} {l : Launch} {e : Env} {s : State} {m : MethodId} {args : Array Value} {below : List Frame} {meth : Method} {c : Code} {A : Nat → Prop} {Q : State → Prop} (F : Fx E p s m args meth c (yX10_sign).cls cX10_sign 4 (some .int)) (hA : ∀ z : Nat, s.heap.size ≤ z → A z) {q : QS} {o : Int32} (hRt : RtI (wM E) E p l e rm_X10_sign s m args below meth c A Q cX10_sign (o, q)) (x0 : Int64) (x2 : Int64) (h : f_X10_sign_0 x0 x2 = some o) (ls : Array Slot) (hl : lv_has ls 4 [(0, .long x0), (2, .long x2)]) : Wq (wM E) E p l e rm_X10_sign s m args below meth c A 0 0 Q q (F0 m 0 ls []) := by
  intro H locs hP hD hS
  have hx := F.1
  have hb := F.2.1
  unfold f_X10_sign_0 at h
  refine lv_lload_n hx hb dX10_sign_0 rfl (lv_at hl 0 rfl) ?_
  refine lv_lload_n hx hb dX10_sign_1 rfl (lv_at hl 1 rfl) ?_
  refine W.lcmp hx hb dX10_sign_2 ?_
  refine lv_if_ge (tgt := 10) hx hb dX10_sign_3 (by decide) (fun c1 => ?_) (fun c1 => ?_)
  · rw [if_pos c1] at h
    refine lv_lload_n hx hb dX10_sign_10 rfl (lv_at hl 0 rfl) ?_
    refine lv_lload_n hx hb dX10_sign_11 rfl (lv_at hl 1 rfl) ?_
    refine W.lcmp hx hb dX10_sign_12 ?_
    refine lv_if_le (tgt := 20) hx hb dX10_sign_13 (by decide) (fun c2 => ?_) (fun c2 => ?_)
    · rw [if_pos c2] at h
      refine lv_iconst (v := 0) hx hb dX10_sign_20 (by decide) ?_
      cases h
      exact hRt _ _ dX10_sign_21 _ _ hP hD hS
    · rw [if_neg c2] at h
      refine lv_iconst (v := 1) hx hb dX10_sign_16 (by decide) ?_
      refine lv_goto (tgt := 21) hx hb dX10_sign_17 (by decide) ?_
      cases h
      exact hRt _ _ dX10_sign_21 _ _ hP hD hS
  · rw [if_neg c1] at h
    refine lv_iconst (v := (-1)) hx hb dX10_sign_6 (by decide) ?_
    refine lv_goto (tgt := 21) hx hb dX10_sign_7 (by decide) ?_
    cases h
    exact hRt _ _ dX10_sign_21 _ _ hP hD hS
def f_X10_sign (x0 : Int64) (x2 : Int64) : Option (Int32) := f_X10_sign_0 x0 x2
set_option maxRecDepth 100000 in
theorem c_X10_sign {E : En} {l : Launch} (q : QS) (x0 : Int64) (x2 : Int64) {o : Int32} (h : f_X10_sign x0 x2 = some o) : Ct (wM E) E l yX10_sign (wy yX10_sign cX10_sign 4 (some .int)) rm_X10_sign q q [.long x0, .long x2] (some (.int o)) :=
  ct_I (o := (o, q)) (by decide +kernel) rfl (fun p e s m below meth c A Q F hA hRt H locs hP hD hS => en_W [.long x0, .long x2] (Nat.le_of_ble_eq_true rfl) (fun ls hl => g_X10_sign_0 F hA hRt x0 x2 h ls (lv_sub hl [0, 1] rfl) H locs hP hD hS))
def rm_X10_compareNodes : Room := { frames := 1, cells := 0, slots := 0, locals := 23 }
def f_X10_compareNodes_19_b (q : QS) (K69 : Int32 → Int32 → Int32 → Option (Int32)) (B19 : Int32 → Int32 → Int32 → Int32 → Option (Int32)) (x1 : Int32) (x2 : Int32) (x3 : Int32) (x4 : Int32) : Option (Int32) :=
  if (4 : Int32) ≤ x4 then
    K69 x1 x2 x3
  else
    if x3 = 0 then
      (rd (qL q 20) 800 (((4 : Int32) * x1) + x4)).bind fun y9 =>
      (rd (qL q 20) 800 (((4 : Int32) * x2) + x4)).bind fun y11 =>
      (f_X10_sign (y9 ^^^ (-9223372036854775808 : Int64)) (y11 ^^^ (-9223372036854775808 : Int64))).bind fun r13 =>
      B19 x1 x2 r13 (x4 + (1 : Int32))
    else
      K69 x1 x2 x3
set_option maxHeartbeats 4000000 in
set_option maxRecDepth 100000 in
theorem g_X10_compareNodes_19_b {E : En} {p : Program} {l : Launch} {e : Env} {s : State} {m : MethodId} {args : Array Value} {below : List Frame} {meth : Method} {c : Code} {A : Nat → Prop} {Q : State → Prop} (F : Fx E p s m args meth c (yX10_compareNodes).cls cX10_compareNodes 5 (some .int)) (hA : ∀ z : Nat, s.heap.size ≤ z → A z) {q : QS} {o : Int32} (hRt : RtI (wM E) E p l e rm_X10_compareNodes s m args below meth c A Q cX10_compareNodes (o, q)) {K69 : Int32 → Int32 → Int32 → Option (Int32)} {B19 : Int32 → Int32 → Int32 → Int32 → Option (Int32)} (hK69 : ∀ (x1 : Int32) (x2 : Int32) (x3 : Int32), K69 x1 x2 x3 = some o → ∀ ls : Array Slot, lv_has ls 5 [(0, .ref (eA E 0)), (1, .int x1), (2, .int x2), (3, .int x3)] → Wq (wM E) E p l e rm_X10_compareNodes s m args below meth c A 0 0 Q q (F0 m 69 ls [])) (hB19 : ∀ (x1 : Int32) (x2 : Int32) (x3 : Int32) (x4 : Int32), B19 x1 x2 x3 x4 = some o → ∀ ls : Array Slot, lv_has ls 5 [(0, .ref (eA E 0)), (1, .int x1), (2, .int x2), (3, .int x3), (4, .int x4)] → Wq (wM E) E p l e rm_X10_compareNodes s m args below meth c A 0 0 Q q (F0 m 19 ls [])) (x1 : Int32) (x2 : Int32) (x3 : Int32) (x4 : Int32) (h : f_X10_compareNodes_19_b q K69 B19 x1 x2 x3 x4 = some o) (ls : Array Slot) (hl : lv_has ls 5 [(0, .ref (eA E 0)), (1, .int x1), (2, .int x2), (3, .int x3), (4, .int x4)]) : Wq (wM E) E p l e rm_X10_compareNodes s m args below meth c A 0 0 Q q (F0 m 19 ls []) := by
  intro H locs hP hD hS
  have hx := F.1
  have hb := F.2.1
  unfold f_X10_compareNodes_19_b at h
  refine lv_iload hx hb dX10_compareNodes_19 (lv_at hl 4 rfl) ?_
  refine lv_iconst (v := 4) hx hb dX10_compareNodes_21 (by decide) ?_
  refine lv_icmp_ge (tgt := 69) hx hb dX10_compareNodes_22 (by decide) (fun c7 => ?_) (fun c7 => ?_)
  · rw [if_pos c7] at h
    exact hK69 x1 x2 x3 h _ (lv_sub hl [0, 1, 2, 3] rfl) _ _ hP hD hS
  · rw [if_neg c7] at h
    refine lv_iload_n hx hb dX10_compareNodes_25 rfl (lv_at hl 3 rfl) ?_
    refine lv_if_ne (tgt := 69) hx hb dX10_compareNodes_26 (by decide) (fun c8 => ?_) (fun c8 => ?_)
    · rw [if_neg c8] at h
      exact hK69 x1 x2 x3 h _ (lv_sub hl [0, 1, 2, 3] rfl) _ _ hP hD hS
    · rw [if_pos c8] at h
      refine lv_aload_n hx hb dX10_compareNodes_29 rfl (lv_at hl 0 rfl) ?_
      refine r_get F hP i_X10 0 (me_0 E q) rfl 22 (by decide) rfl lf_X10_71 rfl dX10_compareNodes_30 ?_
      refine lv_iconst (v := 4) hx hb dX10_compareNodes_33 (by decide) ?_
      refine lv_iload_n hx hb dX10_compareNodes_34 rfl (lv_at hl 1 rfl) ?_
      refine lv_imul hx hb dX10_compareNodes_35 ?_
      refine lv_iload hx hb dX10_compareNodes_36 (lv_at hl 4 rfl) ?_
      refine lv_iadd hx hb dX10_compareNodes_38 ?_
      obtain ⟨y9, e10, h⟩ := Option.bind_eq_some_iff.mp h
      refine r_lald F hP 20 (me_20 E q) e10 dX10_compareNodes_39 ?_
      refine lv_ldc2 (v := (-9223372036854775808)) hx hb F.2.2.2.1 (F.2.2.2.2.1 _ lc_X10_210) dX10_compareNodes_40 ?_
      refine lv_lxor hx hb dX10_compareNodes_43 ?_
      refine lv_aload_n hx hb dX10_compareNodes_44 rfl (lv_at hl 0 rfl) ?_
      refine r_get F hP i_X10 0 (me_0 E q) rfl 22 (by decide) rfl lf_X10_71 rfl dX10_compareNodes_45 ?_
      refine lv_iconst (v := 4) hx hb dX10_compareNodes_48 (by decide) ?_
      refine lv_iload_n hx hb dX10_compareNodes_49 rfl (lv_at hl 2 rfl) ?_
      refine lv_imul hx hb dX10_compareNodes_50 ?_
      refine lv_iload hx hb dX10_compareNodes_51 (lv_at hl 4 rfl) ?_
      refine lv_iadd hx hb dX10_compareNodes_53 ?_
      obtain ⟨y11, e12, h⟩ := Option.bind_eq_some_iff.mp h
      refine r_lald F hP 20 (me_20 E q) e12 dX10_compareNodes_54 ?_
      refine lv_ldc2 (v := (-9223372036854775808)) hx hb F.2.2.2.1 (F.2.2.2.2.1 _ lc_X10_210) dX10_compareNodes_55 ?_
      refine lv_lxor hx hb dX10_compareNodes_58 ?_
      obtain ⟨r13, e14, h⟩ := Option.bind_eq_some_iff.mp h
      refine q_callS (As := [.long (y9 ^^^ (-9223372036854775808 : Int64)), .long (y11 ^^^ (-9223372036854775808 : Int64))]) (rest := []) F hA hP hD hS (c_X10_sign (E := E) (l := l) q (y9 ^^^ (-9223372036854775808 : Int64)) (y11 ^^^ (-9223372036854775808 : Int64)) e14) k_X10_sign st_X10_sign lm_X10_206 ⟨rfl, rfl⟩ ⟨by decide, by decide⟩ rfl hl.1 rfl (Nat.le_of_ble_eq_true rfl) dX10_compareNodes_59 ⟨by decide, by decide⟩ ?_
      intro H locs hP hD hS
      refine lv_istore_n (lv' := [(3, .int r13), (0, .ref (eA E 0)), (1, .int x1), (2, .int x2), (4, .int x4)]) hx hb dX10_compareNodes_62 rfl hl (by decide) rfl (fun ls hl => ?_)
      refine lv_iinc (v := (x4 + (1 : Int32))) (lv' := [(4, .int (x4 + (1 : Int32))), (3, .int r13), (0, .ref (eA E 0)), (1, .int x1), (2, .int x2)]) hx hb dX10_compareNodes_63 hl (k := 4) rfl rfl (by decide) rfl (fun ls hl => ?_)
      refine lv_goto (tgt := 19) hx hb dX10_compareNodes_66 (by decide) ?_
      exact hB19 x1 x2 r13 (x4 + (1 : Int32)) h _ (lv_sub hl [2, 3, 4, 1, 0] rfl) _ _ hP hD hS
def f_X10_compareNodes_19 (q : QS) (K69 : Int32 → Int32 → Int32 → Option (Int32)) : Nat → Int32 → Int32 → Int32 → Int32 → Option (Int32)
  | 0 => fun _ _ _ _ => none
  | n + 1 => f_X10_compareNodes_19_b q K69 (f_X10_compareNodes_19 q K69 n)
theorem g_X10_compareNodes_19 {E : En} {p : Program} {l : Launch} {e : Env} {s : State} {m : MethodId} {args : Array Value} {below : List Frame} {meth : Method} {c : Code} {A : Nat → Prop} {Q : State → Prop} (F : Fx E p s m args meth c (yX10_compareNodes).cls cX10_compareNodes 5 (some .int)) (hA : ∀ z : Nat, s.heap.size ≤ z → A z) {q : QS} {o : Int32} (hRt : RtI (wM E) E p l e rm_X10_compareNodes s m args below meth c A Q cX10_compareNodes (o, q)) {K69 : Int32 → Int32 → Int32 → Option (Int32)} (hK69 : ∀ (x1 : Int32) (x2 : Int32) (x3 : Int32), K69 x1 x2 x3 = some o → ∀ ls : Array Slot, lv_has ls 5 [(0, .ref (eA E 0)), (1, .int x1), (2, .int x2), (3, .int x3)] → Wq (wM E) E p l e rm_X10_compareNodes s m args below meth c A 0 0 Q q (F0 m 69 ls [])) (n : Nat) : ∀ (x1 : Int32) (x2 : Int32) (x3 : Int32) (x4 : Int32), f_X10_compareNodes_19 q K69 n x1 x2 x3 x4 = some o → ∀ ls : Array Slot, lv_has ls 5 [(0, .ref (eA E 0)), (1, .int x1), (2, .int x2), (3, .int x3), (4, .int x4)] → Wq (wM E) E p l e rm_X10_compareNodes s m args below meth c A 0 0 Q q (F0 m 19 ls []) := by
  induction n with
  | zero => intro x1 x2 x3 x4 h; cases h
  | succ n ih => intro x1 x2 x3 x4 h; exact g_X10_compareNodes_19_b F hA hRt hK69 ih x1 x2 x3 x4 h
def f_X10_compareNodes_69 (q : QS) (x1 : Int32) (x2 : Int32) (x3 : Int32) : Option (Int32) :=
  if x3 = 0 then
    (rd (qI q 19) 200 x1).bind fun y16 =>
    (rd (qI q 19) 200 x2).bind fun y18 =>
    (f_X10_sign ((y16).toInt64) ((y18).toInt64)).bind fun r20 =>
    some r20
  else
    some x3
set_option maxHeartbeats 4000000 in
set_option maxRecDepth 100000 in
theorem g_X10_compareNodes_69 {E : En} {p : Program} {l : Launch} {e : Env} {s : State} {m : MethodId} {args : Array Value} {below : List Frame} {meth : Method} {c : Code} {A : Nat → Prop} {Q : State → Prop} (F : Fx E p s m args meth c (yX10_compareNodes).cls cX10_compareNodes 5 (some .int)) (hA : ∀ z : Nat, s.heap.size ≤ z → A z) {q : QS} {o : Int32} (hRt : RtI (wM E) E p l e rm_X10_compareNodes s m args below meth c A Q cX10_compareNodes (o, q)) (x1 : Int32) (x2 : Int32) (x3 : Int32) (h : f_X10_compareNodes_69 q x1 x2 x3 = some o) (ls : Array Slot) (hl : lv_has ls 5 [(0, .ref (eA E 0)), (1, .int x1), (2, .int x2), (3, .int x3)]) : Wq (wM E) E p l e rm_X10_compareNodes s m args below meth c A 0 0 Q q (F0 m 69 ls []) := by
  intro H locs hP hD hS
  have hx := F.1
  have hb := F.2.1
  unfold f_X10_compareNodes_69 at h
  refine lv_iload_n hx hb dX10_compareNodes_69 rfl (lv_at hl 3 rfl) ?_
  refine lv_if_eq (tgt := 77) hx hb dX10_compareNodes_70 (by decide) (fun c15 => ?_) (fun c15 => ?_)
  · rw [if_pos c15] at h
    refine lv_aload_n hx hb dX10_compareNodes_77 rfl (lv_at hl 0 rfl) ?_
    refine r_get F hP i_X10 0 (me_0 E q) rfl 21 (by decide) rfl lf_X10_68 rfl dX10_compareNodes_78 ?_
    refine lv_iload_n hx hb dX10_compareNodes_81 rfl (lv_at hl 1 rfl) ?_
    obtain ⟨y16, e17, h⟩ := Option.bind_eq_some_iff.mp h
    refine r_iald F hP 19 (me_19 E q) e17 dX10_compareNodes_82 ?_
    refine lv_i2l (v := ((y16).toInt64)) hx hb dX10_compareNodes_83 rfl ?_
    refine lv_aload_n hx hb dX10_compareNodes_84 rfl (lv_at hl 0 rfl) ?_
    refine r_get F hP i_X10 0 (me_0 E q) rfl 21 (by decide) rfl lf_X10_68 rfl dX10_compareNodes_85 ?_
    refine lv_iload_n hx hb dX10_compareNodes_88 rfl (lv_at hl 2 rfl) ?_
    obtain ⟨y18, e19, h⟩ := Option.bind_eq_some_iff.mp h
    refine r_iald F hP 19 (me_19 E q) e19 dX10_compareNodes_89 ?_
    refine lv_i2l (v := ((y18).toInt64)) hx hb dX10_compareNodes_90 rfl ?_
    obtain ⟨r20, e21, h⟩ := Option.bind_eq_some_iff.mp h
    refine q_callS (As := [.long ((y16).toInt64), .long ((y18).toInt64)]) (rest := []) F hA hP hD hS (c_X10_sign (E := E) (l := l) q ((y16).toInt64) ((y18).toInt64) e21) k_X10_sign st_X10_sign lm_X10_206 ⟨rfl, rfl⟩ ⟨by decide, by decide⟩ rfl hl.1 rfl (Nat.le_of_ble_eq_true rfl) dX10_compareNodes_91 ⟨by decide, by decide⟩ ?_
    intro H locs hP hD hS
    cases h
    exact hRt _ _ dX10_compareNodes_94 _ _ hP hD hS
  · rw [if_neg c15] at h
    refine lv_iload_n hx hb dX10_compareNodes_73 rfl (lv_at hl 3 rfl) ?_
    refine lv_goto (tgt := 94) hx hb dX10_compareNodes_74 (by decide) ?_
    cases h
    exact hRt _ _ dX10_compareNodes_94 _ _ hP hD hS
def f_X10_compareNodes_0 (q : QS) (x1 : Int32) (x2 : Int32) : Option (Int32) :=
  (rd (qL q 18) 200 x1).bind fun y1 =>
  (rd (qL q 18) 200 x2).bind fun y3 =>
  (f_X10_sign y1 y3).bind fun r5 =>
  f_X10_compareNodes_19 q (f_X10_compareNodes_69 q) FU x1 x2 r5 (0 : Int32)
set_option maxHeartbeats 4000000 in
set_option maxRecDepth 100000 in
theorem g_X10_compareNodes_0 {E : En} {p : Program} {l : Launch} {e : Env} {s : State} {m : MethodId} {args : Array Value} {below : List Frame} {meth : Method} {c : Code} {A : Nat → Prop} {Q : State → Prop} (F : Fx E p s m args meth c (yX10_compareNodes).cls cX10_compareNodes 5 (some .int)) (hA : ∀ z : Nat, s.heap.size ≤ z → A z) {q : QS} {o : Int32} (hRt : RtI (wM E) E p l e rm_X10_compareNodes s m args below meth c A Q cX10_compareNodes (o, q)) (x1 : Int32) (x2 : Int32) (h : f_X10_compareNodes_0 q x1 x2 = some o) (ls : Array Slot) (hl : lv_has ls 5 [(0, .ref (eA E 0)), (1, .int x1), (2, .int x2)]) : Wq (wM E) E p l e rm_X10_compareNodes s m args below meth c A 0 0 Q q (F0 m 0 ls []) := by
  intro H locs hP hD hS
  have hx := F.1
  have hb := F.2.1
  unfold f_X10_compareNodes_0 at h
  refine lv_aload_n hx hb dX10_compareNodes_0 rfl (lv_at hl 0 rfl) ?_
  refine r_get F hP i_X10 0 (me_0 E q) rfl 20 (by decide) rfl lf_X10_65 rfl dX10_compareNodes_1 ?_
  refine lv_iload_n hx hb dX10_compareNodes_4 rfl (lv_at hl 1 rfl) ?_
  obtain ⟨y1, e2, h⟩ := Option.bind_eq_some_iff.mp h
  refine r_lald F hP 18 (me_18 E q) e2 dX10_compareNodes_5 ?_
  refine lv_aload_n hx hb dX10_compareNodes_6 rfl (lv_at hl 0 rfl) ?_
  refine r_get F hP i_X10 0 (me_0 E q) rfl 20 (by decide) rfl lf_X10_65 rfl dX10_compareNodes_7 ?_
  refine lv_iload_n hx hb dX10_compareNodes_10 rfl (lv_at hl 2 rfl) ?_
  obtain ⟨y3, e4, h⟩ := Option.bind_eq_some_iff.mp h
  refine r_lald F hP 18 (me_18 E q) e4 dX10_compareNodes_11 ?_
  obtain ⟨r5, e6, h⟩ := Option.bind_eq_some_iff.mp h
  refine q_callS (As := [.long y1, .long y3]) (rest := []) F hA hP hD hS (c_X10_sign (E := E) (l := l) q y1 y3 e6) k_X10_sign st_X10_sign lm_X10_206 ⟨rfl, rfl⟩ ⟨by decide, by decide⟩ rfl hl.1 rfl (Nat.le_of_ble_eq_true rfl) dX10_compareNodes_12 ⟨by decide, by decide⟩ ?_
  intro H locs hP hD hS
  refine lv_istore_n (lv' := [(3, .int r5), (0, .ref (eA E 0)), (1, .int x1), (2, .int x2)]) hx hb dX10_compareNodes_15 rfl hl (by decide) rfl (fun ls hl => ?_)
  refine lv_iconst (v := 0) hx hb dX10_compareNodes_16 (by decide) ?_
  refine lv_istore (lv' := [(4, .int (0 : Int32)), (3, .int r5), (0, .ref (eA E 0)), (1, .int x1), (2, .int x2)]) hx hb dX10_compareNodes_17 hl (by decide) rfl (fun ls hl => ?_)
  exact g_X10_compareNodes_19 F hA hRt (g_X10_compareNodes_69 F hA hRt) FU x1 x2 r5 (0 : Int32) h _ (lv_sub hl [2, 3, 4, 1, 0] rfl) _ _ hP hD hS
def f_X10_compareNodes (q : QS) (x1 : Int32) (x2 : Int32) : Option (Int32) := f_X10_compareNodes_0 q x1 x2
set_option maxRecDepth 100000 in
theorem c_X10_compareNodes {E : En} {l : Launch} (q : QS) (x1 : Int32) (x2 : Int32) {o : Int32} (h : f_X10_compareNodes q x1 x2 = some o) : Ct (wM E) E l yX10_compareNodes (wy yX10_compareNodes cX10_compareNodes 5 (some .int)) rm_X10_compareNodes q q [.ref (eA E 0), .int x1, .int x2] (some (.int o)) :=
  ct_I (o := (o, q)) (by decide +kernel) rfl (fun p e s m below meth c A Q F hA hRt H locs hP hD hS => en_W [.ref (eA E 0), .int x1, .int x2] (Nat.le_of_ble_eq_true rfl) (fun ls hl => g_X10_compareNodes_0 F hA hRt x1 x2 h ls (lv_sub hl [0, 1, 2] rfl) H locs hP hD hS))
def rm_X10_setNumber : Room := { frames := 0, cells := 0, slots := 0, locals := 0 }
def f_X10_setNumber_32_b (B32 : QS → Int32 → Int32 → Option (QS)) (q : QS) (x1 : Int32) (x5 : Int32) : Option (QS) :=
  if (4 : Int32) ≤ x5 then
    some q
  else
    (wL q 20 800 (((4 : Int32) * x1) + x5) (0 : Int64)).bind fun q9 =>
    B32 q9 x1 (x5 + (1 : Int32))
set_option maxHeartbeats 4000000 in
set_option maxRecDepth 100000 in
theorem g_X10_setNumber_32_b {E : En} {p : Program} {l : Launch} {e : Env} {s : State} {m : MethodId} {args : Array Value} {below : List Frame} {meth : Method} {c : Code} {A : Nat → Prop} {Q : State → Prop} (F : Fx E p s m args meth c (yX10_setNumber).cls cX10_setNumber 6 none) (hA : ∀ z : Nat, s.heap.size ≤ z → A z) {o : QS} (hRt : RtV (wM E) E p l e rm_X10_setNumber s m args below meth c A Q cX10_setNumber o) {B32 : QS → Int32 → Int32 → Option (QS)} (hB32 : ∀ (q : QS) (x1 : Int32) (x5 : Int32), B32 q x1 x5 = some o → ∀ ls : Array Slot, lv_has ls 6 [(0, .ref (eA E 0)), (1, .int x1), (5, .int x5)] → Wq (wM E) E p l e rm_X10_setNumber s m args below meth c A 0 0 Q q (F0 m 32 ls [])) (q : QS) (x1 : Int32) (x5 : Int32) (h : f_X10_setNumber_32_b B32 q x1 x5 = some o) (ls : Array Slot) (hl : lv_has ls 6 [(0, .ref (eA E 0)), (1, .int x1), (5, .int x5)]) : Wq (wM E) E p l e rm_X10_setNumber s m args below meth c A 0 0 Q q (F0 m 32 ls []) := by
  intro H locs hP hD hS
  have hx := F.1
  have hb := F.2.1
  unfold f_X10_setNumber_32_b at h
  refine lv_iload hx hb dX10_setNumber_32 (lv_at hl 2 rfl) ?_
  refine lv_iconst (v := 4) hx hb dX10_setNumber_34 (by decide) ?_
  refine lv_icmp_ge (tgt := 56) hx hb dX10_setNumber_35 (by decide) (fun c8 => ?_) (fun c8 => ?_)
  · rw [if_pos c8] at h
    cases h
    exact hRt _ _ dX10_setNumber_56 _ _ hP hD hS
  · rw [if_neg c8] at h
    refine lv_aload_n hx hb dX10_setNumber_38 rfl (lv_at hl 0 rfl) ?_
    refine r_get F hP i_X10 0 (me_0 E q) rfl 22 (by decide) rfl lf_X10_71 rfl dX10_setNumber_39 ?_
    refine lv_iconst (v := 4) hx hb dX10_setNumber_42 (by decide) ?_
    refine lv_iload_n hx hb dX10_setNumber_43 rfl (lv_at hl 1 rfl) ?_
    refine lv_imul hx hb dX10_setNumber_44 ?_
    refine lv_iload hx hb dX10_setNumber_45 (lv_at hl 2 rfl) ?_
    refine lv_iadd hx hb dX10_setNumber_47 ?_
    refine lv_lconst (v := 0) hx hb dX10_setNumber_48 (by decide) ?_
    obtain ⟨q9, e10, h⟩ := Option.bind_eq_some_iff.mp h
    refine r_last F hP hD hS 20 (me_20 E q) (ms_20 E q) e10 dX10_setNumber_49 ?_
    intro H locs hP hD hS
    refine lv_iinc (v := (x5 + (1 : Int32))) (lv' := [(5, .int (x5 + (1 : Int32))), (0, .ref (eA E 0)), (1, .int x1)]) hx hb dX10_setNumber_50 hl (k := 2) rfl rfl (by decide) rfl (fun ls hl => ?_)
    refine lv_goto (tgt := 32) hx hb dX10_setNumber_53 (by decide) ?_
    exact hB32 q9 x1 (x5 + (1 : Int32)) h _ (lv_sub hl [1, 2, 0] rfl) _ _ hP hD hS
def f_X10_setNumber_32 : Nat → QS → Int32 → Int32 → Option (QS)
  | 0 => fun _ _ _ => none
  | n + 1 => f_X10_setNumber_32_b (f_X10_setNumber_32 n)
theorem g_X10_setNumber_32 {E : En} {p : Program} {l : Launch} {e : Env} {s : State} {m : MethodId} {args : Array Value} {below : List Frame} {meth : Method} {c : Code} {A : Nat → Prop} {Q : State → Prop} (F : Fx E p s m args meth c (yX10_setNumber).cls cX10_setNumber 6 none) (hA : ∀ z : Nat, s.heap.size ≤ z → A z) {o : QS} (hRt : RtV (wM E) E p l e rm_X10_setNumber s m args below meth c A Q cX10_setNumber o) (n : Nat) : ∀ (q : QS) (x1 : Int32) (x5 : Int32), f_X10_setNumber_32 n q x1 x5 = some o → ∀ ls : Array Slot, lv_has ls 6 [(0, .ref (eA E 0)), (1, .int x1), (5, .int x5)] → Wq (wM E) E p l e rm_X10_setNumber s m args below meth c A 0 0 Q q (F0 m 32 ls []) := by
  induction n with
  | zero => intro q x1 x5 h; cases h
  | succ n ih => intro q x1 x5 h; exact g_X10_setNumber_32_b F hA hRt ih q x1 x5 h
def f_X10_setNumber_21 (q : QS) (x1 : Int32) (t1 : Int32) (t2 : Int64) : Option (QS) :=
  (wL q 18 200 t1 t2).bind fun q4 =>
  (wI q4 19 200 x1 (0 : Int32)).bind fun q6 =>
  f_X10_setNumber_32 FU q6 x1 (0 : Int32)
set_option maxHeartbeats 4000000 in
set_option maxRecDepth 100000 in
theorem g_X10_setNumber_21 {E : En} {p : Program} {l : Launch} {e : Env} {s : State} {m : MethodId} {args : Array Value} {below : List Frame} {meth : Method} {c : Code} {A : Nat → Prop} {Q : State → Prop} (F : Fx E p s m args meth c (yX10_setNumber).cls cX10_setNumber 6 none) (hA : ∀ z : Nat, s.heap.size ≤ z → A z) {o : QS} (hRt : RtV (wM E) E p l e rm_X10_setNumber s m args below meth c A Q cX10_setNumber o) (q : QS) (x1 : Int32) (t1 : Int32) (t2 : Int64) (h : f_X10_setNumber_21 q x1 t1 t2 = some o) (ls : Array Slot) (hl : lv_has ls 6 [(0, .ref (eA E 0)), (1, .int x1)]) : Wq (wM E) E p l e rm_X10_setNumber s m args below meth c A 0 0 Q q (F0 m 21 ls [.long t2, .int t1, .ref (eA E 18)]) := by
  intro H locs hP hD hS
  have hx := F.1
  have hb := F.2.1
  unfold f_X10_setNumber_21 at h
  obtain ⟨q4, e5, h⟩ := Option.bind_eq_some_iff.mp h
  refine r_last F hP hD hS 18 (me_18 E q) (ms_18 E q) e5 dX10_setNumber_21 ?_
  intro H locs hP hD hS
  refine lv_aload_n hx hb dX10_setNumber_22 rfl (lv_at hl 0 rfl) ?_
  refine r_get F hP i_X10 0 (me_0 E q4) rfl 21 (by decide) rfl lf_X10_68 rfl dX10_setNumber_23 ?_
  refine lv_iload_n hx hb dX10_setNumber_26 rfl (lv_at hl 1 rfl) ?_
  refine lv_iconst (v := 0) hx hb dX10_setNumber_27 (by decide) ?_
  obtain ⟨q6, e7, h⟩ := Option.bind_eq_some_iff.mp h
  refine r_iast F hP hD hS 19 (me_19 E q4) (ms_19 E q4) e7 dX10_setNumber_28 ?_
  intro H locs hP hD hS
  refine lv_iconst (v := 0) hx hb dX10_setNumber_29 (by decide) ?_
  refine lv_istore (lv' := [(5, .int (0 : Int32)), (0, .ref (eA E 0)), (1, .int x1)]) hx hb dX10_setNumber_30 hl (by decide) rfl (fun ls hl => ?_)
  exact g_X10_setNumber_32 F hA hRt FU q6 x1 (0 : Int32) h _ (lv_sub hl [1, 2, 0] rfl) _ _ hP hD hS
def f_X10_setNumber_0 (q : QS) (x1 : Int32) (x2 : Int32) (x3 : Int64) : Option (QS) :=
  (wI q 17 200 x1 (vp_nar .boolean x2)).bind fun q1 =>
  if x2 = 0 then
    f_X10_setNumber_21 q1 x1 x1 x3
  else
    f_X10_setNumber_21 q1 x1 x1 (0 : Int64)
set_option maxHeartbeats 4000000 in
set_option maxRecDepth 100000 in
theorem g_X10_setNumber_0 {E : En} {p : Program} {l : Launch} {e : Env} {s : State} {m : MethodId} {args : Array Value} {below : List Frame} {meth : Method} {c : Code} {A : Nat → Prop} {Q : State → Prop} (F : Fx E p s m args meth c (yX10_setNumber).cls cX10_setNumber 6 none) (hA : ∀ z : Nat, s.heap.size ≤ z → A z) {o : QS} (hRt : RtV (wM E) E p l e rm_X10_setNumber s m args below meth c A Q cX10_setNumber o) (q : QS) (x1 : Int32) (x2 : Int32) (x3 : Int64) (h : f_X10_setNumber_0 q x1 x2 x3 = some o) (ls : Array Slot) (hl : lv_has ls 6 [(0, .ref (eA E 0)), (1, .int x1), (2, .int x2), (3, .long x3)]) : Wq (wM E) E p l e rm_X10_setNumber s m args below meth c A 0 0 Q q (F0 m 0 ls []) := by
  intro H locs hP hD hS
  have hx := F.1
  have hb := F.2.1
  unfold f_X10_setNumber_0 at h
  refine lv_aload_n hx hb dX10_setNumber_0 rfl (lv_at hl 0 rfl) ?_
  refine r_get F hP i_X10 0 (me_0 E q) rfl 19 (by decide) rfl lf_X10_62 rfl dX10_setNumber_1 ?_
  refine lv_iload_n hx hb dX10_setNumber_4 rfl (lv_at hl 1 rfl) ?_
  refine lv_iload_n hx hb dX10_setNumber_5 rfl (lv_at hl 2 rfl) ?_
  obtain ⟨q1, e2, h⟩ := Option.bind_eq_some_iff.mp h
  refine r_zast F hP hD hS 17 (me_17 E q) (ms_17 E q) e2 dX10_setNumber_6 ?_
  intro H locs hP hD hS
  refine lv_aload_n hx hb dX10_setNumber_7 rfl (lv_at hl 0 rfl) ?_
  refine r_get F hP i_X10 0 (me_0 E q1) rfl 20 (by decide) rfl lf_X10_65 rfl dX10_setNumber_8 ?_
  refine lv_iload_n hx hb dX10_setNumber_11 rfl (lv_at hl 1 rfl) ?_
  refine lv_iload_n hx hb dX10_setNumber_12 rfl (lv_at hl 2 rfl) ?_
  refine lv_if_eq (tgt := 20) hx hb dX10_setNumber_13 (by decide) (fun c3 => ?_) (fun c3 => ?_)
  · rw [if_pos c3] at h
    refine lv_lload_n hx hb dX10_setNumber_20 rfl (lv_at hl 3 rfl) ?_
    exact g_X10_setNumber_21 F hA hRt q1 x1 x1 x3 h _ (lv_sub hl [0, 1] rfl) _ _ hP hD hS
  · rw [if_neg c3] at h
    refine lv_lconst (v := 0) hx hb dX10_setNumber_16 (by decide) ?_
    refine lv_goto (tgt := 21) hx hb dX10_setNumber_17 (by decide) ?_
    exact g_X10_setNumber_21 F hA hRt q1 x1 x1 (0 : Int64) h _ (lv_sub hl [0, 1] rfl) _ _ hP hD hS
def f_X10_setNumber (q : QS) (x1 : Int32) (x2 : Int32) (x3 : Int64) : Option (QS) := f_X10_setNumber_0 q x1 x2 x3
set_option maxRecDepth 100000 in
theorem c_X10_setNumber {E : En} {l : Launch} (q : QS) (x1 : Int32) (x2 : Int32) (x3 : Int64) {o : QS} (h : f_X10_setNumber q x1 x2 x3 = some o) : Ct (wM E) E l yX10_setNumber (wy yX10_setNumber cX10_setNumber 6 none) rm_X10_setNumber q o [.ref (eA E 0), .int x1, .int x2, .long x3] none :=
  ct_V (o := o) (by decide +kernel) (fun p e s m below meth c A Q F hA hRt H locs hP hD hS => en_W [.ref (eA E 0), .int x1, .int x2, .long x3] (Nat.le_of_ble_eq_true rfl) (fun ls hl => g_X10_setNumber_0 F hA hRt q x1 x2 x3 h ls (lv_sub hl [0, 1, 2, 3] rfl) H locs hP hD hS))
def rm_X10_join : Room := { frames := 1, cells := 0, slots := 0, locals := 25 }
def f_X10_join_136 (B80 : QS → Int32 → Int32 → Int32 → Int32 → Option (QS)) (q : QS) (x1 : Int32) (x2 : Int32) (x3 : Int32) (x5 : Int32) (t1 : Int32) (t2 : Int32) (t3 : Int32) : Option (QS) :=
  (f_X10_putByte q t1 t2 t3).bind fun r26 =>
  B80 r26 x1 x2 x3 (x5 + (1 : Int32))
set_option maxHeartbeats 4000000 in
set_option maxRecDepth 100000 in
theorem g_X10_join_136 {E : En} {p : Program} {l : Launch} {e : Env} {s : State} {m : MethodId} {args : Array Value} {below : List Frame} {meth : Method} {c : Code} {A : Nat → Prop} {Q : State → Prop} (F : Fx E p s m args meth c (yX10_join).cls cX10_join 6 none) (hA : ∀ z : Nat, s.heap.size ≤ z → A z) {o : QS} (hRt : RtV (wM E) E p l e rm_X10_join s m args below meth c A Q cX10_join o) {B80 : QS → Int32 → Int32 → Int32 → Int32 → Option (QS)} (hB80 : ∀ (q : QS) (x1 : Int32) (x2 : Int32) (x3 : Int32) (x5 : Int32), B80 q x1 x2 x3 x5 = some o → ∀ ls : Array Slot, lv_has ls 6 [(0, .ref (eA E 0)), (1, .int x1), (2, .int x2), (3, .int x3), (5, .int x5)] → Wq (wM E) E p l e rm_X10_join s m args below meth c A 0 0 Q q (F0 m 80 ls [])) (q : QS) (x1 : Int32) (x2 : Int32) (x3 : Int32) (x5 : Int32) (t1 : Int32) (t2 : Int32) (t3 : Int32) (h : f_X10_join_136 B80 q x1 x2 x3 x5 t1 t2 t3 = some o) (ls : Array Slot) (hl : lv_has ls 6 [(0, .ref (eA E 0)), (1, .int x1), (2, .int x2), (3, .int x3), (5, .int x5)]) : Wq (wM E) E p l e rm_X10_join s m args below meth c A 0 0 Q q (F0 m 136 ls [.int t3, .int t2, .int t1, .ref (eA E 0)]) := by
  intro H locs hP hD hS
  have hx := F.1
  have hb := F.2.1
  unfold f_X10_join_136 at h
  obtain ⟨r26, e27, h⟩ := Option.bind_eq_some_iff.mp h
  refine q_callV (As := [.int t1, .int t2, .int t3]) (rest := []) F hA hP hD hS (c_X10_putByte (E := E) (l := l) q t1 t2 t3 e27) k_X10_putByte in_X10_putByte se_X10_putByte lm_X10_202 0 (me_0 E q) rfl ⟨rfl, rfl⟩ ⟨by decide, by decide⟩ rfl hl.1 rfl (Nat.le_of_ble_eq_true rfl) dX10_join_136 ⟨by decide, by decide⟩ ?_
  intro H locs hP hD hS
  refine lv_iinc (v := (x5 + (1 : Int32))) (lv' := [(5, .int (x5 + (1 : Int32))), (0, .ref (eA E 0)), (1, .int x1), (2, .int x2), (3, .int x3)]) hx hb dX10_join_139 hl (k := 4) rfl rfl (by decide) rfl (fun ls hl => ?_)
  refine lv_goto (tgt := 80) hx hb dX10_join_142 (by decide) ?_
  exact hB80 r26 x1 x2 x3 (x5 + (1 : Int32)) h _ (lv_sub hl [1, 2, 3, 4, 0] rfl) _ _ hP hD hS
def f_X10_join_80_b (B80 : QS → Int32 → Int32 → Int32 → Int32 → Option (QS)) (q : QS) (x1 : Int32) (x2 : Int32) (x3 : Int32) (x5 : Int32) : Option (QS) :=
  (rd (qI q 19) 200 x1).bind fun y16 =>
  if y16 ≤ x5 then
    some q
  else
    (rd (qI q 19) 200 x2).bind fun y19 =>
    if y19 ≤ x5 then
      (rd (qI q 19) 200 x2).bind fun y22 =>
      (f_X10_byteOf q ((4 : Int32) * x3) (x5 - y22)).bind fun r24 =>
      f_X10_join_136 B80 q x1 x2 x3 x5 ((4 : Int32) * x1) x5 r24
    else
      (f_X10_byteOf q ((4 : Int32) * x2) x5).bind fun r28 =>
      f_X10_join_136 B80 q x1 x2 x3 x5 ((4 : Int32) * x1) x5 r28
set_option maxHeartbeats 4000000 in
set_option maxRecDepth 100000 in
theorem g_X10_join_80_b {E : En} {p : Program} {l : Launch} {e : Env} {s : State} {m : MethodId} {args : Array Value} {below : List Frame} {meth : Method} {c : Code} {A : Nat → Prop} {Q : State → Prop} (F : Fx E p s m args meth c (yX10_join).cls cX10_join 6 none) (hA : ∀ z : Nat, s.heap.size ≤ z → A z) {o : QS} (hRt : RtV (wM E) E p l e rm_X10_join s m args below meth c A Q cX10_join o) {B80 : QS → Int32 → Int32 → Int32 → Int32 → Option (QS)} (hB80 : ∀ (q : QS) (x1 : Int32) (x2 : Int32) (x3 : Int32) (x5 : Int32), B80 q x1 x2 x3 x5 = some o → ∀ ls : Array Slot, lv_has ls 6 [(0, .ref (eA E 0)), (1, .int x1), (2, .int x2), (3, .int x3), (5, .int x5)] → Wq (wM E) E p l e rm_X10_join s m args below meth c A 0 0 Q q (F0 m 80 ls [])) (q : QS) (x1 : Int32) (x2 : Int32) (x3 : Int32) (x5 : Int32) (h : f_X10_join_80_b B80 q x1 x2 x3 x5 = some o) (ls : Array Slot) (hl : lv_has ls 6 [(0, .ref (eA E 0)), (1, .int x1), (2, .int x2), (3, .int x3), (5, .int x5)]) : Wq (wM E) E p l e rm_X10_join s m args below meth c A 0 0 Q q (F0 m 80 ls []) := by
  intro H locs hP hD hS
  have hx := F.1
  have hb := F.2.1
  unfold f_X10_join_80_b at h
  refine lv_iload hx hb dX10_join_80 (lv_at hl 4 rfl) ?_
  refine lv_aload_n hx hb dX10_join_82 rfl (lv_at hl 0 rfl) ?_
  refine r_get F hP i_X10 0 (me_0 E q) rfl 21 (by decide) rfl lf_X10_68 rfl dX10_join_83 ?_
  refine lv_iload_n hx hb dX10_join_86 rfl (lv_at hl 1 rfl) ?_
  obtain ⟨y16, e17, h⟩ := Option.bind_eq_some_iff.mp h
  refine r_iald F hP 19 (me_19 E q) e17 dX10_join_87 ?_
  refine lv_icmp_ge (tgt := 145) hx hb dX10_join_88 (by decide) (fun c18 => ?_) (fun c18 => ?_)
  · rw [if_pos c18] at h
    cases h
    exact hRt _ _ dX10_join_145 _ _ hP hD hS
  · rw [if_neg c18] at h
    refine lv_aload_n hx hb dX10_join_91 rfl (lv_at hl 0 rfl) ?_
    refine lv_iconst (v := 4) hx hb dX10_join_92 (by decide) ?_
    refine lv_iload_n hx hb dX10_join_93 rfl (lv_at hl 1 rfl) ?_
    refine lv_imul hx hb dX10_join_94 ?_
    refine lv_iload hx hb dX10_join_95 (lv_at hl 4 rfl) ?_
    refine lv_iload hx hb dX10_join_97 (lv_at hl 4 rfl) ?_
    refine lv_aload_n hx hb dX10_join_99 rfl (lv_at hl 0 rfl) ?_
    refine r_get F hP i_X10 0 (me_0 E q) rfl 21 (by decide) rfl lf_X10_68 rfl dX10_join_100 ?_
    refine lv_iload_n hx hb dX10_join_103 rfl (lv_at hl 2 rfl) ?_
    obtain ⟨y19, e20, h⟩ := Option.bind_eq_some_iff.mp h
    refine r_iald F hP 19 (me_19 E q) e20 dX10_join_104 ?_
    refine lv_icmp_ge (tgt := 120) hx hb dX10_join_105 (by decide) (fun c21 => ?_) (fun c21 => ?_)
    · rw [if_pos c21] at h
      refine lv_aload_n hx hb dX10_join_120 rfl (lv_at hl 0 rfl) ?_
      refine lv_iconst (v := 4) hx hb dX10_join_121 (by decide) ?_
      refine lv_iload_n hx hb dX10_join_122 rfl (lv_at hl 3 rfl) ?_
      refine lv_imul hx hb dX10_join_123 ?_
      refine lv_iload hx hb dX10_join_124 (lv_at hl 4 rfl) ?_
      refine lv_aload_n hx hb dX10_join_126 rfl (lv_at hl 0 rfl) ?_
      refine r_get F hP i_X10 0 (me_0 E q) rfl 21 (by decide) rfl lf_X10_68 rfl dX10_join_127 ?_
      refine lv_iload_n hx hb dX10_join_130 rfl (lv_at hl 2 rfl) ?_
      obtain ⟨y22, e23, h⟩ := Option.bind_eq_some_iff.mp h
      refine r_iald F hP 19 (me_19 E q) e23 dX10_join_131 ?_
      refine lv_isub hx hb dX10_join_132 ?_
      obtain ⟨r24, e25, h⟩ := Option.bind_eq_some_iff.mp h
      refine q_callV (As := [.int ((4 : Int32) * x3), .int (x5 - y22)]) (rest := [.int x5, .int ((4 : Int32) * x1), .ref (eA E 0)]) F hA hP hD hS (c_X10_byteOf (E := E) (l := l) q ((4 : Int32) * x3) (x5 - y22) e25) k_X10_byteOf in_X10_byteOf se_X10_byteOf lm_X10_216 0 (me_0 E q) rfl ⟨rfl, rfl⟩ ⟨by decide, by decide⟩ rfl hl.1 rfl (Nat.le_of_ble_eq_true rfl) dX10_join_133 ⟨by decide, by decide⟩ ?_
      intro H locs hP hD hS
      exact g_X10_join_136 F hA hRt hB80 q x1 x2 x3 x5 ((4 : Int32) * x1) x5 r24 h _ (lv_sub hl [0, 1, 2, 3, 4] rfl) _ _ hP hD hS
    · rw [if_neg c21] at h
      refine lv_aload_n hx hb dX10_join_108 rfl (lv_at hl 0 rfl) ?_
      refine lv_iconst (v := 4) hx hb dX10_join_109 (by decide) ?_
      refine lv_iload_n hx hb dX10_join_110 rfl (lv_at hl 2 rfl) ?_
      refine lv_imul hx hb dX10_join_111 ?_
      refine lv_iload hx hb dX10_join_112 (lv_at hl 4 rfl) ?_
      obtain ⟨r28, e29, h⟩ := Option.bind_eq_some_iff.mp h
      refine q_callV (As := [.int ((4 : Int32) * x2), .int x5]) (rest := [.int x5, .int ((4 : Int32) * x1), .ref (eA E 0)]) F hA hP hD hS (c_X10_byteOf (E := E) (l := l) q ((4 : Int32) * x2) x5 e29) k_X10_byteOf in_X10_byteOf se_X10_byteOf lm_X10_216 0 (me_0 E q) rfl ⟨rfl, rfl⟩ ⟨by decide, by decide⟩ rfl hl.1 rfl (Nat.le_of_ble_eq_true rfl) dX10_join_114 ⟨by decide, by decide⟩ ?_
      intro H locs hP hD hS
      refine lv_goto (tgt := 136) hx hb dX10_join_117 (by decide) ?_
      exact g_X10_join_136 F hA hRt hB80 q x1 x2 x3 x5 ((4 : Int32) * x1) x5 r28 h _ (lv_sub hl [0, 1, 2, 3, 4] rfl) _ _ hP hD hS
def f_X10_join_80 : Nat → QS → Int32 → Int32 → Int32 → Int32 → Option (QS)
  | 0 => fun _ _ _ _ _ => none
  | n + 1 => f_X10_join_80_b (f_X10_join_80 n)
theorem g_X10_join_80 {E : En} {p : Program} {l : Launch} {e : Env} {s : State} {m : MethodId} {args : Array Value} {below : List Frame} {meth : Method} {c : Code} {A : Nat → Prop} {Q : State → Prop} (F : Fx E p s m args meth c (yX10_join).cls cX10_join 6 none) (hA : ∀ z : Nat, s.heap.size ≤ z → A z) {o : QS} (hRt : RtV (wM E) E p l e rm_X10_join s m args below meth c A Q cX10_join o) (n : Nat) : ∀ (q : QS) (x1 : Int32) (x2 : Int32) (x3 : Int32) (x5 : Int32), f_X10_join_80 n q x1 x2 x3 x5 = some o → ∀ ls : Array Slot, lv_has ls 6 [(0, .ref (eA E 0)), (1, .int x1), (2, .int x2), (3, .int x3), (5, .int x5)] → Wq (wM E) E p l e rm_X10_join s m args below meth c A 0 0 Q q (F0 m 80 ls []) := by
  induction n with
  | zero => intro q x1 x2 x3 x5 h; cases h
  | succ n ih => intro q x1 x2 x3 x5 h; exact g_X10_join_80_b F hA hRt ih q x1 x2 x3 x5 h
def f_X10_join_76 (q : QS) (x1 : Int32) (x2 : Int32) (x3 : Int32) (t1 : Int32) (t2 : Int32) : Option (QS) :=
  (wI q 19 200 t1 t2).bind fun q14 =>
  f_X10_join_80 FU q14 x1 x2 x3 (0 : Int32)
set_option maxHeartbeats 4000000 in
set_option maxRecDepth 100000 in
theorem g_X10_join_76 {E : En} {p : Program} {l : Launch} {e : Env} {s : State} {m : MethodId} {args : Array Value} {below : List Frame} {meth : Method} {c : Code} {A : Nat → Prop} {Q : State → Prop} (F : Fx E p s m args meth c (yX10_join).cls cX10_join 6 none) (hA : ∀ z : Nat, s.heap.size ≤ z → A z) {o : QS} (hRt : RtV (wM E) E p l e rm_X10_join s m args below meth c A Q cX10_join o) (q : QS) (x1 : Int32) (x2 : Int32) (x3 : Int32) (t1 : Int32) (t2 : Int32) (h : f_X10_join_76 q x1 x2 x3 t1 t2 = some o) (ls : Array Slot) (hl : lv_has ls 6 [(0, .ref (eA E 0)), (1, .int x1), (2, .int x2), (3, .int x3)]) : Wq (wM E) E p l e rm_X10_join s m args below meth c A 0 0 Q q (F0 m 76 ls [.int t2, .int t1, .ref (eA E 19)]) := by
  intro H locs hP hD hS
  have hx := F.1
  have hb := F.2.1
  unfold f_X10_join_76 at h
  obtain ⟨q14, e15, h⟩ := Option.bind_eq_some_iff.mp h
  refine r_iast F hP hD hS 19 (me_19 E q) (ms_19 E q) e15 dX10_join_76 ?_
  intro H locs hP hD hS
  refine lv_iconst (v := 0) hx hb dX10_join_77 (by decide) ?_
  refine lv_istore (lv' := [(5, .int (0 : Int32)), (0, .ref (eA E 0)), (1, .int x1), (2, .int x2), (3, .int x3)]) hx hb dX10_join_78 hl (by decide) rfl (fun ls hl => ?_)
  exact g_X10_join_80 F hA hRt FU q14 x1 x2 x3 (0 : Int32) h _ (lv_sub hl [1, 2, 3, 4, 0] rfl) _ _ hP hD hS
def f_X10_join_55 (q : QS) (x1 : Int32) (x2 : Int32) (x3 : Int32) (t0 : Int32) : Option (QS) :=
  if t0 ≤ (31 : Int32) then
    f_X10_join_76 q x1 x2 x3 x1 t0
  else
    f_X10_join_76 q x1 x2 x3 x1 (31 : Int32)
set_option maxHeartbeats 4000000 in
set_option maxRecDepth 100000 in
theorem g_X10_join_55 {E : En} {p : Program} {l : Launch} {e : Env} {s : State} {m : MethodId} {args : Array Value} {below : List Frame} {meth : Method} {c : Code} {A : Nat → Prop} {Q : State → Prop} (F : Fx E p s m args meth c (yX10_join).cls cX10_join 6 none) (hA : ∀ z : Nat, s.heap.size ≤ z → A z) {o : QS} (hRt : RtV (wM E) E p l e rm_X10_join s m args below meth c A Q cX10_join o) (q : QS) (x1 : Int32) (x2 : Int32) (x3 : Int32) (t0 : Int32) (h : f_X10_join_55 q x1 x2 x3 t0 = some o) (ls : Array Slot) (hl : lv_has ls 6 [(0, .ref (eA E 0)), (1, .int x1), (2, .int x2), (3, .int x3)]) : Wq (wM E) E p l e rm_X10_join s m args below meth c A 0 0 Q q (F0 m 55 ls [.int t0]) := by
  intro H locs hP hD hS
  have hx := F.1
  have hb := F.2.1
  unfold f_X10_join_55 at h
  refine lv_istore (lv' := [(4, .int t0), (0, .ref (eA E 0)), (1, .int x1), (2, .int x2), (3, .int x3)]) hx hb dX10_join_55 hl (by decide) rfl (fun ls hl => ?_)
  refine lv_aload_n hx hb dX10_join_57 rfl (lv_at hl 1 rfl) ?_
  refine r_get F hP i_X10 0 (me_0 E q) rfl 21 (by decide) rfl lf_X10_68 rfl dX10_join_58 ?_
  refine lv_iload_n hx hb dX10_join_61 rfl (lv_at hl 2 rfl) ?_
  refine lv_iload hx hb dX10_join_62 (lv_at hl 0 rfl) ?_
  refine lv_bipush (v := 31) hx hb dX10_join_64 (by decide) ?_
  refine lv_icmp_le (tgt := 74) hx hb dX10_join_66 (by decide) (fun c13 => ?_) (fun c13 => ?_)
  · rw [if_pos c13] at h
    refine lv_iload hx hb dX10_join_74 (lv_at hl 0 rfl) ?_
    exact g_X10_join_76 F hA hRt q x1 x2 x3 x1 t0 h _ (lv_sub hl [1, 2, 3, 4] rfl) _ _ hP hD hS
  · rw [if_neg c13] at h
    refine lv_bipush (v := 31) hx hb dX10_join_69 (by decide) ?_
    refine lv_goto (tgt := 76) hx hb dX10_join_71 (by decide) ?_
    exact g_X10_join_76 F hA hRt q x1 x2 x3 x1 (31 : Int32) h _ (lv_sub hl [1, 2, 3, 4] rfl) _ _ hP hD hS
def f_X10_join_25 (q : QS) (x1 : Int32) (x2 : Int32) (x3 : Int32) (t1 : Int32) (t2 : Int32) : Option (QS) :=
  (f_X10_setNumber q t1 t2 (0 : Int64)).bind fun r4 =>
  (rd (qI r4 17) 200 x1).bind fun y6 =>
  if y6 = 0 then
    (rd (qI r4 19) 200 x2).bind fun y9 =>
    (rd (qI r4 19) 200 x3).bind fun y11 =>
    f_X10_join_55 r4 x1 x2 x3 (y9 + y11)
  else
    f_X10_join_55 r4 x1 x2 x3 (0 : Int32)
set_option maxHeartbeats 4000000 in
set_option maxRecDepth 100000 in
theorem g_X10_join_25 {E : En} {p : Program} {l : Launch} {e : Env} {s : State} {m : MethodId} {args : Array Value} {below : List Frame} {meth : Method} {c : Code} {A : Nat → Prop} {Q : State → Prop} (F : Fx E p s m args meth c (yX10_join).cls cX10_join 6 none) (hA : ∀ z : Nat, s.heap.size ≤ z → A z) {o : QS} (hRt : RtV (wM E) E p l e rm_X10_join s m args below meth c A Q cX10_join o) (q : QS) (x1 : Int32) (x2 : Int32) (x3 : Int32) (t1 : Int32) (t2 : Int32) (h : f_X10_join_25 q x1 x2 x3 t1 t2 = some o) (ls : Array Slot) (hl : lv_has ls 6 [(0, .ref (eA E 0)), (1, .int x1), (2, .int x2), (3, .int x3)]) : Wq (wM E) E p l e rm_X10_join s m args below meth c A 0 0 Q q (F0 m 25 ls [.int t2, .int t1, .ref (eA E 0)]) := by
  intro H locs hP hD hS
  have hx := F.1
  have hb := F.2.1
  unfold f_X10_join_25 at h
  refine lv_lconst (v := 0) hx hb dX10_join_25 (by decide) ?_
  obtain ⟨r4, e5, h⟩ := Option.bind_eq_some_iff.mp h
  refine q_callV (As := [.int t1, .int t2, .long (0 : Int64)]) (rest := []) F hA hP hD hS (c_X10_setNumber (E := E) (l := l) q t1 t2 (0 : Int64) e5) k_X10_setNumber in_X10_setNumber se_X10_setNumber lm_X10_212 0 (me_0 E q) rfl ⟨rfl, rfl⟩ ⟨by decide, by decide⟩ rfl hl.1 rfl (Nat.le_of_ble_eq_true rfl) dX10_join_26 ⟨by decide, by decide⟩ ?_
  intro H locs hP hD hS
  refine lv_aload_n hx hb dX10_join_29 rfl (lv_at hl 0 rfl) ?_
  refine r_get F hP i_X10 0 (me_0 E r4) rfl 19 (by decide) rfl lf_X10_62 rfl dX10_join_30 ?_
  refine lv_iload_n hx hb dX10_join_33 rfl (lv_at hl 1 rfl) ?_
  obtain ⟨y6, e7, h⟩ := Option.bind_eq_some_iff.mp h
  refine r_zald F hP 17 (me_17 E r4) e7 dX10_join_34 ?_
  refine lv_if_eq (tgt := 42) hx hb dX10_join_35 (by decide) (fun c8 => ?_) (fun c8 => ?_)
  · rw [if_pos c8] at h
    refine lv_aload_n hx hb dX10_join_42 rfl (lv_at hl 0 rfl) ?_
    refine r_get F hP i_X10 0 (me_0 E r4) rfl 21 (by decide) rfl lf_X10_68 rfl dX10_join_43 ?_
    refine lv_iload_n hx hb dX10_join_46 rfl (lv_at hl 2 rfl) ?_
    obtain ⟨y9, e10, h⟩ := Option.bind_eq_some_iff.mp h
    refine r_iald F hP 19 (me_19 E r4) e10 dX10_join_47 ?_
    refine lv_aload_n hx hb dX10_join_48 rfl (lv_at hl 0 rfl) ?_
    refine r_get F hP i_X10 0 (me_0 E r4) rfl 21 (by decide) rfl lf_X10_68 rfl dX10_join_49 ?_
    refine lv_iload_n hx hb dX10_join_52 rfl (lv_at hl 3 rfl) ?_
    obtain ⟨y11, e12, h⟩ := Option.bind_eq_some_iff.mp h
    refine r_iald F hP 19 (me_19 E r4) e12 dX10_join_53 ?_
    refine lv_iadd hx hb dX10_join_54 ?_
    exact g_X10_join_55 F hA hRt r4 x1 x2 x3 (y9 + y11) h _ (lv_sub hl [0, 1, 2, 3] rfl) _ _ hP hD hS
  · rw [if_neg c8] at h
    refine lv_iconst (v := 0) hx hb dX10_join_38 (by decide) ?_
    refine lv_goto (tgt := 55) hx hb dX10_join_39 (by decide) ?_
    exact g_X10_join_55 F hA hRt r4 x1 x2 x3 (0 : Int32) h _ (lv_sub hl [0, 1, 2, 3] rfl) _ _ hP hD hS
def f_X10_join_20 (q : QS) (x1 : Int32) (x2 : Int32) (x3 : Int32) (t1 : Int32) : Option (QS) :=
  f_X10_join_25 q x1 x2 x3 t1 (1 : Int32)
set_option maxHeartbeats 4000000 in
set_option maxRecDepth 100000 in
theorem g_X10_join_20 {E : En} {p : Program} {l : Launch} {e : Env} {s : State} {m : MethodId} {args : Array Value} {below : List Frame} {meth : Method} {c : Code} {A : Nat → Prop} {Q : State → Prop} (F : Fx E p s m args meth c (yX10_join).cls cX10_join 6 none) (hA : ∀ z : Nat, s.heap.size ≤ z → A z) {o : QS} (hRt : RtV (wM E) E p l e rm_X10_join s m args below meth c A Q cX10_join o) (q : QS) (x1 : Int32) (x2 : Int32) (x3 : Int32) (t1 : Int32) (h : f_X10_join_20 q x1 x2 x3 t1 = some o) (ls : Array Slot) (hl : lv_has ls 6 [(0, .ref (eA E 0)), (1, .int x1), (2, .int x2), (3, .int x3)]) : Wq (wM E) E p l e rm_X10_join s m args below meth c A 0 0 Q q (F0 m 20 ls [.int t1, .ref (eA E 0)]) := by
  intro H locs hP hD hS
  have hx := F.1
  have hb := F.2.1
  unfold f_X10_join_20 at h
  refine lv_iconst (v := 1) hx hb dX10_join_20 (by decide) ?_
  refine lv_goto (tgt := 25) hx hb dX10_join_21 (by decide) ?_
  exact g_X10_join_25 F hA hRt q x1 x2 x3 t1 (1 : Int32) h _ (lv_sub hl [0, 1, 2, 3] rfl) _ _ hP hD hS
def f_X10_join_0 (q : QS) (x1 : Int32) (x2 : Int32) (x3 : Int32) : Option (QS) :=
  (rd (qI q 17) 200 x2).bind fun y1 =>
  if y1 = 0 then
    (rd (qI q 17) 200 x3).bind fun y30 =>
    if y30 = 0 then
      f_X10_join_25 q x1 x2 x3 x1 (0 : Int32)
    else
      f_X10_join_20 q x1 x2 x3 x1
  else
    f_X10_join_20 q x1 x2 x3 x1
set_option maxHeartbeats 4000000 in
set_option maxRecDepth 100000 in
theorem g_X10_join_0 {E : En} {p : Program} {l : Launch} {e : Env} {s : State} {m : MethodId} {args : Array Value} {below : List Frame} {meth : Method} {c : Code} {A : Nat → Prop} {Q : State → Prop} (F : Fx E p s m args meth c (yX10_join).cls cX10_join 6 none) (hA : ∀ z : Nat, s.heap.size ≤ z → A z) {o : QS} (hRt : RtV (wM E) E p l e rm_X10_join s m args below meth c A Q cX10_join o) (q : QS) (x1 : Int32) (x2 : Int32) (x3 : Int32) (h : f_X10_join_0 q x1 x2 x3 = some o) (ls : Array Slot) (hl : lv_has ls 6 [(0, .ref (eA E 0)), (1, .int x1), (2, .int x2), (3, .int x3)]) : Wq (wM E) E p l e rm_X10_join s m args below meth c A 0 0 Q q (F0 m 0 ls []) := by
  intro H locs hP hD hS
  have hx := F.1
  have hb := F.2.1
  unfold f_X10_join_0 at h
  refine lv_aload_n hx hb dX10_join_0 rfl (lv_at hl 0 rfl) ?_
  refine lv_iload_n hx hb dX10_join_1 rfl (lv_at hl 1 rfl) ?_
  refine lv_aload_n hx hb dX10_join_2 rfl (lv_at hl 0 rfl) ?_
  refine r_get F hP i_X10 0 (me_0 E q) rfl 19 (by decide) rfl lf_X10_62 rfl dX10_join_3 ?_
  refine lv_iload_n hx hb dX10_join_6 rfl (lv_at hl 2 rfl) ?_
  obtain ⟨y1, e2, h⟩ := Option.bind_eq_some_iff.mp h
  refine r_zald F hP 17 (me_17 E q) e2 dX10_join_7 ?_
  refine lv_if_ne (tgt := 20) hx hb dX10_join_8 (by decide) (fun c3 => ?_) (fun c3 => ?_)
  · rw [if_neg c3] at h
    exact g_X10_join_20 F hA hRt q x1 x2 x3 x1 h _ (lv_sub hl [0, 1, 2, 3] rfl) _ _ hP hD hS
  · rw [if_pos c3] at h
    refine lv_aload_n hx hb dX10_join_11 rfl (lv_at hl 0 rfl) ?_
    refine r_get F hP i_X10 0 (me_0 E q) rfl 19 (by decide) rfl lf_X10_62 rfl dX10_join_12 ?_
    refine lv_iload_n hx hb dX10_join_15 rfl (lv_at hl 3 rfl) ?_
    obtain ⟨y30, e31, h⟩ := Option.bind_eq_some_iff.mp h
    refine r_zald F hP 17 (me_17 E q) e31 dX10_join_16 ?_
    refine lv_if_eq (tgt := 24) hx hb dX10_join_17 (by decide) (fun c32 => ?_) (fun c32 => ?_)
    · rw [if_pos c32] at h
      refine lv_iconst (v := 0) hx hb dX10_join_24 (by decide) ?_
      exact g_X10_join_25 F hA hRt q x1 x2 x3 x1 (0 : Int32) h _ (lv_sub hl [0, 1, 2, 3] rfl) _ _ hP hD hS
    · rw [if_neg c32] at h
      exact g_X10_join_20 F hA hRt q x1 x2 x3 x1 h _ (lv_sub hl [0, 1, 2, 3] rfl) _ _ hP hD hS
def f_X10_join (q : QS) (x1 : Int32) (x2 : Int32) (x3 : Int32) : Option (QS) := f_X10_join_0 q x1 x2 x3
set_option maxRecDepth 100000 in
theorem c_X10_join {E : En} {l : Launch} (q : QS) (x1 : Int32) (x2 : Int32) (x3 : Int32) {o : QS} (h : f_X10_join q x1 x2 x3 = some o) : Ct (wM E) E l yX10_join (wy yX10_join cX10_join 6 none) rm_X10_join q o [.ref (eA E 0), .int x1, .int x2, .int x3] none :=
  ct_V (o := o) (by decide +kernel) (fun p e s m below meth c A Q F hA hRt H locs hP hD hS => en_W [.ref (eA E 0), .int x1, .int x2, .int x3] (Nat.le_of_ble_eq_true rfl) (fun ls hl => g_X10_join_0 F hA hRt q x1 x2 x3 h ls (lv_sub hl [0, 1, 2, 3] rfl) H locs hP hD hS))
def rm_X10_arithmetic : Room := { frames := 0, cells := 0, slots := 0, locals := 0 }
def f_X10_arithmetic_0 (x0 : Int32) (x1 : Int64) (x3 : Int64) : Option (Int64) :=
  if x0 = (11 : Int32) then
    some (x1 + x3)
  else
    if x0 = (12 : Int32) then
      some (x1 - x3)
    else
      if x0 = (13 : Int32) then
        some (x1 * x3)
      else
        if (lg_cmp x3 (0 : Int64)) = 0 then
          some (0 : Int64)
        else
          if x0 = (14 : Int32) then
            if x3 = 0 then none else
            some (x1 / x3)
          else
            if x3 = 0 then none else
            some (x1 - ((x1 / x3) * x3))
set_option maxHeartbeats 4000000 in
set_option maxRecDepth 100000 in
theorem g_X10_arithmetic_0 {E : En} {p : Program} {l : Launch} {e : Env} {s : State} {m : MethodId} {args : Array Value} {below : List Frame} {meth : Method} {c : Code} {A : Nat → Prop} {Q : State → Prop} (F : Fx E p s m args meth c (yX10_arithmetic).cls cX10_arithmetic 5 (some .long)) (hA : ∀ z : Nat, s.heap.size ≤ z → A z) {q : QS} {o : Int64} (hRt : RtL (wM E) E p l e rm_X10_arithmetic s m args below meth c A Q cX10_arithmetic (o, q)) (x0 : Int32) (x1 : Int64) (x3 : Int64) (h : f_X10_arithmetic_0 x0 x1 x3 = some o) (ls : Array Slot) (hl : lv_has ls 5 [(0, .int x0), (1, .long x1), (3, .long x3)]) : Wq (wM E) E p l e rm_X10_arithmetic s m args below meth c A 0 0 Q q (F0 m 0 ls []) := by
  intro H locs hP hD hS
  have hx := F.1
  have hb := F.2.1
  unfold f_X10_arithmetic_0 at h
  refine lv_iload_n hx hb dX10_arithmetic_0 rfl (lv_at hl 0 rfl) ?_
  refine lv_bipush (v := 11) hx hb dX10_arithmetic_1 (by decide) ?_
  refine lv_icmp_ne (tgt := 12) hx hb dX10_arithmetic_3 (by decide) (fun c1 => ?_) (fun c1 => ?_)
  · rw [if_neg c1] at h
    refine lv_iload_n hx hb dX10_arithmetic_12 rfl (lv_at hl 0 rfl) ?_
    refine lv_bipush (v := 12) hx hb dX10_arithmetic_13 (by decide) ?_
    refine lv_icmp_ne (tgt := 24) hx hb dX10_arithmetic_15 (by decide) (fun c2 => ?_) (fun c2 => ?_)
    · rw [if_neg c2] at h
      refine lv_iload_n hx hb dX10_arithmetic_24 rfl (lv_at hl 0 rfl) ?_
      refine lv_bipush (v := 13) hx hb dX10_arithmetic_25 (by decide) ?_
      refine lv_icmp_ne (tgt := 36) hx hb dX10_arithmetic_27 (by decide) (fun c3 => ?_) (fun c3 => ?_)
      · rw [if_neg c3] at h
        refine lv_lload_n hx hb dX10_arithmetic_36 rfl (lv_at hl 2 rfl) ?_
        refine lv_lconst (v := 0) hx hb dX10_arithmetic_37 (by decide) ?_
        refine W.lcmp hx hb dX10_arithmetic_38 ?_
        refine lv_if_ne (tgt := 46) hx hb dX10_arithmetic_39 (by decide) (fun c4 => ?_) (fun c4 => ?_)
        · rw [if_neg c4] at h
          refine lv_iload_n hx hb dX10_arithmetic_46 rfl (lv_at hl 0 rfl) ?_
          refine lv_bipush (v := 14) hx hb dX10_arithmetic_47 (by decide) ?_
          refine lv_icmp_ne (tgt := 58) hx hb dX10_arithmetic_49 (by decide) (fun c5 => ?_) (fun c5 => ?_)
          · rw [if_neg c5] at h
            refine lv_lload_n hx hb dX10_arithmetic_58 rfl (lv_at hl 1 rfl) ?_
            refine lv_lload_n hx hb dX10_arithmetic_59 rfl (lv_at hl 1 rfl) ?_
            refine lv_lload_n hx hb dX10_arithmetic_60 rfl (lv_at hl 2 rfl) ?_
            by_cases n6 : x3 = 0
            · rw [if_pos n6] at h; cases h
            rw [if_neg n6] at h
            refine lv_ldiv hx hb dX10_arithmetic_61 n6 ?_
            refine lv_lload_n hx hb dX10_arithmetic_62 rfl (lv_at hl 2 rfl) ?_
            refine lv_lmul hx hb dX10_arithmetic_63 ?_
            refine lv_lsub hx hb dX10_arithmetic_64 ?_
            cases h
            exact hRt _ _ dX10_arithmetic_65 _ _ hP hD hS
          · rw [if_pos c5] at h
            refine lv_lload_n hx hb dX10_arithmetic_52 rfl (lv_at hl 1 rfl) ?_
            refine lv_lload_n hx hb dX10_arithmetic_53 rfl (lv_at hl 2 rfl) ?_
            by_cases n7 : x3 = 0
            · rw [if_pos n7] at h; cases h
            rw [if_neg n7] at h
            refine lv_ldiv hx hb dX10_arithmetic_54 n7 ?_
            refine lv_goto (tgt := 65) hx hb dX10_arithmetic_55 (by decide) ?_
            cases h
            exact hRt _ _ dX10_arithmetic_65 _ _ hP hD hS
        · rw [if_pos c4] at h
          refine lv_lconst (v := 0) hx hb dX10_arithmetic_42 (by decide) ?_
          refine lv_goto (tgt := 65) hx hb dX10_arithmetic_43 (by decide) ?_
          cases h
          exact hRt _ _ dX10_arithmetic_65 _ _ hP hD hS
      · rw [if_pos c3] at h
        refine lv_lload_n hx hb dX10_arithmetic_30 rfl (lv_at hl 1 rfl) ?_
        refine lv_lload_n hx hb dX10_arithmetic_31 rfl (lv_at hl 2 rfl) ?_
        refine lv_lmul hx hb dX10_arithmetic_32 ?_
        refine lv_goto (tgt := 65) hx hb dX10_arithmetic_33 (by decide) ?_
        cases h
        exact hRt _ _ dX10_arithmetic_65 _ _ hP hD hS
    · rw [if_pos c2] at h
      refine lv_lload_n hx hb dX10_arithmetic_18 rfl (lv_at hl 1 rfl) ?_
      refine lv_lload_n hx hb dX10_arithmetic_19 rfl (lv_at hl 2 rfl) ?_
      refine lv_lsub hx hb dX10_arithmetic_20 ?_
      refine lv_goto (tgt := 65) hx hb dX10_arithmetic_21 (by decide) ?_
      cases h
      exact hRt _ _ dX10_arithmetic_65 _ _ hP hD hS
  · rw [if_pos c1] at h
    refine lv_lload_n hx hb dX10_arithmetic_6 rfl (lv_at hl 1 rfl) ?_
    refine lv_lload_n hx hb dX10_arithmetic_7 rfl (lv_at hl 2 rfl) ?_
    refine lv_ladd hx hb dX10_arithmetic_8 ?_
    refine lv_goto (tgt := 65) hx hb dX10_arithmetic_9 (by decide) ?_
    cases h
    exact hRt _ _ dX10_arithmetic_65 _ _ hP hD hS
def f_X10_arithmetic (x0 : Int32) (x1 : Int64) (x3 : Int64) : Option (Int64) := f_X10_arithmetic_0 x0 x1 x3
set_option maxRecDepth 100000 in
theorem c_X10_arithmetic {E : En} {l : Launch} (q : QS) (x0 : Int32) (x1 : Int64) (x3 : Int64) {o : Int64} (h : f_X10_arithmetic x0 x1 x3 = some o) : Ct (wM E) E l yX10_arithmetic (wy yX10_arithmetic cX10_arithmetic 5 (some .long)) rm_X10_arithmetic q q [.int x0, .long x1, .long x3] (some (.long o)) :=
  ct_L (o := (o, q)) (by decide +kernel) (fun p e s m below meth c A Q F hA hRt H locs hP hD hS => en_W [.int x0, .long x1, .long x3] (Nat.le_of_ble_eq_true rfl) (fun ls hl => g_X10_arithmetic_0 F hA hRt x0 x1 x3 h ls (lv_sub hl [0, 1, 2] rfl) H locs hP hD hS))
def rm_X10_holds : Room := { frames := 0, cells := 0, slots := 0, locals := 0 }
def f_X10_holds_0 (x0 : Int32) (x1 : Int32) : Option (Int32) :=
  if x0 = (17 : Int32) then
    if x1 = 0 then
      some (1 : Int32)
    else
      some (0 : Int32)
  else
    if x0 = (18 : Int32) then
      if x1 = 0 then
        some (0 : Int32)
      else
        some (1 : Int32)
    else
      if x0 = (19 : Int32) then
        if 0 ≤ x1 then
          some (0 : Int32)
        else
          some (1 : Int32)
      else
        if x0 = (20 : Int32) then
          if 0 < x1 then
            some (0 : Int32)
          else
            some (1 : Int32)
        else
          if x0 = (21 : Int32) then
            if x1 ≤ 0 then
              some (0 : Int32)
            else
              some (1 : Int32)
          else
            if x1 < 0 then
              some (0 : Int32)
            else
              some (1 : Int32)
set_option maxHeartbeats 4000000 in
set_option maxRecDepth 100000 in
theorem g_X10_holds_0 {E : En} {p : Program} {l : Launch} {e : Env} {s : State} {m : MethodId} {args : Array Value} {below : List Frame} {meth : Method} {c : Code} {A : Nat → Prop} {Q : State → Prop} (F : Fx E p s m args meth c (yX10_holds).cls cX10_holds 2 (some .boolean)) (hA : ∀ z : Nat, s.heap.size ≤ z → A z) {q : QS} {o : Int32} (hRt : RtZ (wM E) E p l e rm_X10_holds s m args below meth c A Q cX10_holds (o, q)) (x0 : Int32) (x1 : Int32) (h : f_X10_holds_0 x0 x1 = some o) (ls : Array Slot) (hl : lv_has ls 2 [(0, .int x0), (1, .int x1)]) : Wq (wM E) E p l e rm_X10_holds s m args below meth c A 0 0 Q q (F0 m 0 ls []) := by
  intro H locs hP hD hS
  have hx := F.1
  have hb := F.2.1
  unfold f_X10_holds_0 at h
  refine lv_iload_n hx hb dX10_holds_0 rfl (lv_at hl 0 rfl) ?_
  refine lv_bipush (v := 17) hx hb dX10_holds_1 (by decide) ?_
  refine lv_icmp_ne (tgt := 18) hx hb dX10_holds_3 (by decide) (fun c1 => ?_) (fun c1 => ?_)
  · rw [if_neg c1] at h
    refine lv_iload_n hx hb dX10_holds_18 rfl (lv_at hl 0 rfl) ?_
    refine lv_bipush (v := 18) hx hb dX10_holds_19 (by decide) ?_
    refine lv_icmp_ne (tgt := 36) hx hb dX10_holds_21 (by decide) (fun c2 => ?_) (fun c2 => ?_)
    · rw [if_neg c2] at h
      refine lv_iload_n hx hb dX10_holds_36 rfl (lv_at hl 0 rfl) ?_
      refine lv_bipush (v := 19) hx hb dX10_holds_37 (by decide) ?_
      refine lv_icmp_ne (tgt := 54) hx hb dX10_holds_39 (by decide) (fun c3 => ?_) (fun c3 => ?_)
      · rw [if_neg c3] at h
        refine lv_iload_n hx hb dX10_holds_54 rfl (lv_at hl 0 rfl) ?_
        refine lv_bipush (v := 20) hx hb dX10_holds_55 (by decide) ?_
        refine lv_icmp_ne (tgt := 72) hx hb dX10_holds_57 (by decide) (fun c4 => ?_) (fun c4 => ?_)
        · rw [if_neg c4] at h
          refine lv_iload_n hx hb dX10_holds_72 rfl (lv_at hl 0 rfl) ?_
          refine lv_bipush (v := 21) hx hb dX10_holds_73 (by decide) ?_
          refine lv_icmp_ne (tgt := 90) hx hb dX10_holds_75 (by decide) (fun c5 => ?_) (fun c5 => ?_)
          · rw [if_neg c5] at h
            refine lv_iload_n hx hb dX10_holds_90 rfl (lv_at hl 1 rfl) ?_
            refine lv_if_lt (tgt := 98) hx hb dX10_holds_91 (by decide) (fun c6 => ?_) (fun c6 => ?_)
            · rw [if_pos c6] at h
              refine lv_iconst (v := 0) hx hb dX10_holds_98 (by decide) ?_
              cases h
              exact hRt _ _ zz_0 dX10_holds_99 _ _ hP hD hS
            · rw [if_neg c6] at h
              refine lv_iconst (v := 1) hx hb dX10_holds_94 (by decide) ?_
              refine lv_goto (tgt := 99) hx hb dX10_holds_95 (by decide) ?_
              cases h
              exact hRt _ _ zz_1 dX10_holds_99 _ _ hP hD hS
          · rw [if_pos c5] at h
            refine lv_iload_n hx hb dX10_holds_78 rfl (lv_at hl 1 rfl) ?_
            refine lv_if_le (tgt := 86) hx hb dX10_holds_79 (by decide) (fun c7 => ?_) (fun c7 => ?_)
            · rw [if_pos c7] at h
              refine lv_iconst (v := 0) hx hb dX10_holds_86 (by decide) ?_
              refine lv_goto (tgt := 99) hx hb dX10_holds_87 (by decide) ?_
              cases h
              exact hRt _ _ zz_0 dX10_holds_99 _ _ hP hD hS
            · rw [if_neg c7] at h
              refine lv_iconst (v := 1) hx hb dX10_holds_82 (by decide) ?_
              refine lv_goto (tgt := 99) hx hb dX10_holds_83 (by decide) ?_
              cases h
              exact hRt _ _ zz_1 dX10_holds_99 _ _ hP hD hS
        · rw [if_pos c4] at h
          refine lv_iload_n hx hb dX10_holds_60 rfl (lv_at hl 1 rfl) ?_
          refine lv_if_gt (tgt := 68) hx hb dX10_holds_61 (by decide) (fun c8 => ?_) (fun c8 => ?_)
          · rw [if_pos c8] at h
            refine lv_iconst (v := 0) hx hb dX10_holds_68 (by decide) ?_
            refine lv_goto (tgt := 99) hx hb dX10_holds_69 (by decide) ?_
            cases h
            exact hRt _ _ zz_0 dX10_holds_99 _ _ hP hD hS
          · rw [if_neg c8] at h
            refine lv_iconst (v := 1) hx hb dX10_holds_64 (by decide) ?_
            refine lv_goto (tgt := 99) hx hb dX10_holds_65 (by decide) ?_
            cases h
            exact hRt _ _ zz_1 dX10_holds_99 _ _ hP hD hS
      · rw [if_pos c3] at h
        refine lv_iload_n hx hb dX10_holds_42 rfl (lv_at hl 1 rfl) ?_
        refine lv_if_ge (tgt := 50) hx hb dX10_holds_43 (by decide) (fun c9 => ?_) (fun c9 => ?_)
        · rw [if_pos c9] at h
          refine lv_iconst (v := 0) hx hb dX10_holds_50 (by decide) ?_
          refine lv_goto (tgt := 99) hx hb dX10_holds_51 (by decide) ?_
          cases h
          exact hRt _ _ zz_0 dX10_holds_99 _ _ hP hD hS
        · rw [if_neg c9] at h
          refine lv_iconst (v := 1) hx hb dX10_holds_46 (by decide) ?_
          refine lv_goto (tgt := 99) hx hb dX10_holds_47 (by decide) ?_
          cases h
          exact hRt _ _ zz_1 dX10_holds_99 _ _ hP hD hS
    · rw [if_pos c2] at h
      refine lv_iload_n hx hb dX10_holds_24 rfl (lv_at hl 1 rfl) ?_
      refine lv_if_eq (tgt := 32) hx hb dX10_holds_25 (by decide) (fun c10 => ?_) (fun c10 => ?_)
      · rw [if_pos c10] at h
        refine lv_iconst (v := 0) hx hb dX10_holds_32 (by decide) ?_
        refine lv_goto (tgt := 99) hx hb dX10_holds_33 (by decide) ?_
        cases h
        exact hRt _ _ zz_0 dX10_holds_99 _ _ hP hD hS
      · rw [if_neg c10] at h
        refine lv_iconst (v := 1) hx hb dX10_holds_28 (by decide) ?_
        refine lv_goto (tgt := 99) hx hb dX10_holds_29 (by decide) ?_
        cases h
        exact hRt _ _ zz_1 dX10_holds_99 _ _ hP hD hS
  · rw [if_pos c1] at h
    refine lv_iload_n hx hb dX10_holds_6 rfl (lv_at hl 1 rfl) ?_
    refine lv_if_ne (tgt := 14) hx hb dX10_holds_7 (by decide) (fun c11 => ?_) (fun c11 => ?_)
    · rw [if_neg c11] at h
      refine lv_iconst (v := 0) hx hb dX10_holds_14 (by decide) ?_
      refine lv_goto (tgt := 99) hx hb dX10_holds_15 (by decide) ?_
      cases h
      exact hRt _ _ zz_0 dX10_holds_99 _ _ hP hD hS
    · rw [if_pos c11] at h
      refine lv_iconst (v := 1) hx hb dX10_holds_10 (by decide) ?_
      refine lv_goto (tgt := 99) hx hb dX10_holds_11 (by decide) ?_
      cases h
      exact hRt _ _ zz_1 dX10_holds_99 _ _ hP hD hS
def f_X10_holds (x0 : Int32) (x1 : Int32) : Option (Int32) := f_X10_holds_0 x0 x1
set_option maxRecDepth 100000 in
theorem c_X10_holds {E : En} {l : Launch} (q : QS) (x0 : Int32) (x1 : Int32) {o : Int32} (h : f_X10_holds x0 x1 = some o) : Ct (wM E) E l yX10_holds (wy yX10_holds cX10_holds 2 (some .boolean)) rm_X10_holds q q [.int x0, .int x1] (some (.int o)) :=
  ct_Z (o := (o, q)) (by decide +kernel) (fun p e s m below meth c A Q F hA hRt H locs hP hD hS => en_W [.int x0, .int x1] (Nat.le_of_ble_eq_true rfl) (fun ls hl => g_X10_holds_0 F hA hRt x0 x1 h ls (lv_sub hl [0, 1] rfl) H locs hP hD hS))
def rm_X10_rowOf : Room := { frames := 0, cells := 0, slots := 0, locals := 0 }
def f_X10_rowOf_0 (x1 : Int32) (x2 : Int32) : Option (Int32) :=
  some ((x1 >>> (((12 : Int32) - ((6 : Int32) * x2)) &&& 31)) &&& (63 : Int32))
set_option maxHeartbeats 4000000 in
set_option maxRecDepth 100000 in
theorem g_X10_rowOf_0 {E : En} {p : Program} {l : Launch} {e : Env} {s : State} {m : MethodId} {args : Array Value} {below : List Frame} {meth : Method} {c : Code} {A : Nat → Prop} {Q : State → Prop} (F : Fx E p s m args meth c (yX10_rowOf).cls cX10_rowOf 3 (some .int)) (hA : ∀ z : Nat, s.heap.size ≤ z → A z) {q : QS} {o : Int32} (hRt : RtI (wM E) E p l e rm_X10_rowOf s m args below meth c A Q cX10_rowOf (o, q)) (x1 : Int32) (x2 : Int32) (h : f_X10_rowOf_0 x1 x2 = some o) (ls : Array Slot) (hl : lv_has ls 3 [(1, .int x1), (2, .int x2)]) : Wq (wM E) E p l e rm_X10_rowOf s m args below meth c A 0 0 Q q (F0 m 0 ls []) := by
  intro H locs hP hD hS
  have hx := F.1
  have hb := F.2.1
  unfold f_X10_rowOf_0 at h
  refine lv_iload_n hx hb dX10_rowOf_0 rfl (lv_at hl 0 rfl) ?_
  refine lv_bipush (v := 12) hx hb dX10_rowOf_1 (by decide) ?_
  refine lv_bipush (v := 6) hx hb dX10_rowOf_3 (by decide) ?_
  refine lv_iload_n hx hb dX10_rowOf_5 rfl (lv_at hl 1 rfl) ?_
  refine lv_imul hx hb dX10_rowOf_6 ?_
  refine lv_isub hx hb dX10_rowOf_7 ?_
  refine lv_ishr hx hb dX10_rowOf_8 ?_
  refine lv_bipush (v := 63) hx hb dX10_rowOf_9 (by decide) ?_
  refine lv_iand hx hb dX10_rowOf_11 ?_
  cases h
  exact hRt _ _ dX10_rowOf_12 _ _ hP hD hS
def f_X10_rowOf (x1 : Int32) (x2 : Int32) : Option (Int32) := f_X10_rowOf_0 x1 x2
set_option maxRecDepth 100000 in
theorem c_X10_rowOf {E : En} {l : Launch} (q : QS) (x1 : Int32) (x2 : Int32) {o : Int32} (h : f_X10_rowOf x1 x2 = some o) : Ct (wM E) E l yX10_rowOf (wy yX10_rowOf cX10_rowOf 3 (some .int)) rm_X10_rowOf q q [.ref (eA E 0), .int x1, .int x2] (some (.int o)) :=
  ct_I (o := (o, q)) (by decide +kernel) rfl (fun p e s m below meth c A Q F hA hRt H locs hP hD hS => en_W [.ref (eA E 0), .int x1, .int x2] (Nat.le_of_ble_eq_true rfl) (fun ls hl => g_X10_rowOf_0 F hA hRt x1 x2 h ls (lv_sub hl [1, 2] rfl) H locs hP hD hS))
def rm_X10_compute : Room := { frames := 2, cells := 0, slots := 0, locals := 50 }
def f_X10_compute_391 (q : QS) (x1 : Int32) (x4 : Int32) (x5 : Int32) (x6 : Int64) (t0 : Int32) : Option (QS) :=
  if t0 = 0 then
    (rd (qI q 17) 200 x4).bind fun y28 =>
    if y28 = 0 then
      (rd (qI q 17) 200 x5).bind fun y36 =>
      if y36 = 0 then
        if t0 = 0 then
          (f_X10_setNumber q x1 (0 : Int32) ((1 : Int64) - x6)).bind fun r40 =>
          some r40
        else
          (f_X10_setNumber q x1 (0 : Int32) x6).bind fun r42 =>
          some r42
      else
        if t0 = 0 then
          (f_X10_setNumber q x1 (1 : Int32) ((1 : Int64) - x6)).bind fun r45 =>
          some r45
        else
          (f_X10_setNumber q x1 (1 : Int32) x6).bind fun r47 =>
          some r47
    else
      if t0 = 0 then
        (f_X10_setNumber q x1 (1 : Int32) ((1 : Int64) - x6)).bind fun r32 =>
        some r32
      else
        (f_X10_setNumber q x1 (1 : Int32) x6).bind fun r34 =>
        some r34
  else
    if t0 = 0 then
      (f_X10_setNumber q x1 (0 : Int32) ((1 : Int64) - x6)).bind fun r24 =>
      some r24
    else
      (f_X10_setNumber q x1 (0 : Int32) x6).bind fun r26 =>
      some r26
set_option maxHeartbeats 4000000 in
set_option maxRecDepth 100000 in
theorem g_X10_compute_391 {E : En} {p : Program} {l : Launch} {e : Env} {s : State} {m : MethodId} {args : Array Value} {below : List Frame} {meth : Method} {c : Code} {A : Nat → Prop} {Q : State → Prop} (F : Fx E p s m args meth c (yX10_compute).cls cX10_compute 9 none) (hA : ∀ z : Nat, s.heap.size ≤ z → A z) {o : QS} (hRt : RtV (wM E) E p l e rm_X10_compute s m args below meth c A Q cX10_compute o) (q : QS) (x1 : Int32) (x4 : Int32) (x5 : Int32) (x6 : Int64) (t0 : Int32) (h : f_X10_compute_391 q x1 x4 x5 x6 t0 = some o) (ls : Array Slot) (hl : lv_has ls 9 [(0, .ref (eA E 0)), (1, .int x1), (4, .int x4), (5, .int x5), (6, .long x6)]) : Wq (wM E) E p l e rm_X10_compute s m args below meth c A 0 0 Q q (F0 m 391 ls [.int t0]) := by
  intro H locs hP hD hS
  have hx := F.1
  have hb := F.2.1
  unfold f_X10_compute_391 at h
  refine lv_istore (lv' := [(8, .int t0), (0, .ref (eA E 0)), (1, .int x1), (4, .int x4), (5, .int x5), (6, .long x6)]) hx hb dX10_compute_391 hl (by decide) rfl (fun ls hl => ?_)
  refine lv_aload_n hx hb dX10_compute_393 rfl (lv_at hl 1 rfl) ?_
  refine lv_iload_n hx hb dX10_compute_394 rfl (lv_at hl 2 rfl) ?_
  refine lv_iload hx hb dX10_compute_395 (lv_at hl 0 rfl) ?_
  refine lv_if_ne (tgt := 424) hx hb dX10_compute_397 (by decide) (fun c22 => ?_) (fun c22 => ?_)
  · rw [if_neg c22] at h
    refine lv_iconst (v := 0) hx hb dX10_compute_424 (by decide) ?_
    refine lv_iload hx hb dX10_compute_425 (lv_at hl 0 rfl) ?_
    refine lv_if_eq (tgt := 435) hx hb dX10_compute_427 (by decide) (fun c23 => ?_) (fun c23 => ?_)
    · rw [if_pos c23] at h
      refine lv_lconst (v := 1) hx hb dX10_compute_435 (by decide) ?_
      refine lv_lload hx hb dX10_compute_436 (lv_at hl 5 rfl) ?_
      refine lv_lsub hx hb dX10_compute_438 ?_
      obtain ⟨r24, e25, h⟩ := Option.bind_eq_some_iff.mp h
      refine q_callV (As := [.int x1, .int (0 : Int32), .long ((1 : Int64) - x6)]) (rest := []) F hA hP hD hS (c_X10_setNumber (E := E) (l := l) q x1 (0 : Int32) ((1 : Int64) - x6) e25) k_X10_setNumber in_X10_setNumber se_X10_setNumber lm_X10_212 0 (me_0 E q) rfl ⟨rfl, rfl⟩ ⟨by decide, by decide⟩ rfl hl.1 rfl (Nat.le_of_ble_eq_true rfl) dX10_compute_439 ⟨by decide, by decide⟩ ?_
      intro H locs hP hD hS
      cases h
      exact hRt _ _ dX10_compute_442 _ _ hP hD hS
    · rw [if_neg c23] at h
      refine lv_lload hx hb dX10_compute_430 (lv_at hl 5 rfl) ?_
      refine lv_goto (tgt := 439) hx hb dX10_compute_432 (by decide) ?_
      obtain ⟨r26, e27, h⟩ := Option.bind_eq_some_iff.mp h
      refine q_callV (As := [.int x1, .int (0 : Int32), .long x6]) (rest := []) F hA hP hD hS (c_X10_setNumber (E := E) (l := l) q x1 (0 : Int32) x6 e27) k_X10_setNumber in_X10_setNumber se_X10_setNumber lm_X10_212 0 (me_0 E q) rfl ⟨rfl, rfl⟩ ⟨by decide, by decide⟩ rfl hl.1 rfl (Nat.le_of_ble_eq_true rfl) dX10_compute_439 ⟨by decide, by decide⟩ ?_
      intro H locs hP hD hS
      cases h
      exact hRt _ _ dX10_compute_442 _ _ hP hD hS
  · rw [if_pos c22] at h
    refine lv_aload_n hx hb dX10_compute_400 rfl (lv_at hl 1 rfl) ?_
    refine r_get F hP i_X10 0 (me_0 E q) rfl 19 (by decide) rfl lf_X10_62 rfl dX10_compute_401 ?_
    refine lv_iload hx hb dX10_compute_404 (lv_at hl 3 rfl) ?_
    obtain ⟨y28, e29, h⟩ := Option.bind_eq_some_iff.mp h
    refine r_zald F hP 17 (me_17 E q) e29 dX10_compute_406 ?_
    refine lv_if_ne (tgt := 420) hx hb dX10_compute_407 (by decide) (fun c30 => ?_) (fun c30 => ?_)
    · rw [if_neg c30] at h
      refine lv_iconst (v := 1) hx hb dX10_compute_420 (by decide) ?_
      refine lv_goto (tgt := 425) hx hb dX10_compute_421 (by decide) ?_
      refine lv_iload hx hb dX10_compute_425 (lv_at hl 0 rfl) ?_
      refine lv_if_eq (tgt := 435) hx hb dX10_compute_427 (by decide) (fun c31 => ?_) (fun c31 => ?_)
      · rw [if_pos c31] at h
        refine lv_lconst (v := 1) hx hb dX10_compute_435 (by decide) ?_
        refine lv_lload hx hb dX10_compute_436 (lv_at hl 5 rfl) ?_
        refine lv_lsub hx hb dX10_compute_438 ?_
        obtain ⟨r32, e33, h⟩ := Option.bind_eq_some_iff.mp h
        refine q_callV (As := [.int x1, .int (1 : Int32), .long ((1 : Int64) - x6)]) (rest := []) F hA hP hD hS (c_X10_setNumber (E := E) (l := l) q x1 (1 : Int32) ((1 : Int64) - x6) e33) k_X10_setNumber in_X10_setNumber se_X10_setNumber lm_X10_212 0 (me_0 E q) rfl ⟨rfl, rfl⟩ ⟨by decide, by decide⟩ rfl hl.1 rfl (Nat.le_of_ble_eq_true rfl) dX10_compute_439 ⟨by decide, by decide⟩ ?_
        intro H locs hP hD hS
        cases h
        exact hRt _ _ dX10_compute_442 _ _ hP hD hS
      · rw [if_neg c31] at h
        refine lv_lload hx hb dX10_compute_430 (lv_at hl 5 rfl) ?_
        refine lv_goto (tgt := 439) hx hb dX10_compute_432 (by decide) ?_
        obtain ⟨r34, e35, h⟩ := Option.bind_eq_some_iff.mp h
        refine q_callV (As := [.int x1, .int (1 : Int32), .long x6]) (rest := []) F hA hP hD hS (c_X10_setNumber (E := E) (l := l) q x1 (1 : Int32) x6 e35) k_X10_setNumber in_X10_setNumber se_X10_setNumber lm_X10_212 0 (me_0 E q) rfl ⟨rfl, rfl⟩ ⟨by decide, by decide⟩ rfl hl.1 rfl (Nat.le_of_ble_eq_true rfl) dX10_compute_439 ⟨by decide, by decide⟩ ?_
        intro H locs hP hD hS
        cases h
        exact hRt _ _ dX10_compute_442 _ _ hP hD hS
    · rw [if_pos c30] at h
      refine lv_aload_n hx hb dX10_compute_410 rfl (lv_at hl 1 rfl) ?_
      refine r_get F hP i_X10 0 (me_0 E q) rfl 19 (by decide) rfl lf_X10_62 rfl dX10_compute_411 ?_
      refine lv_iload hx hb dX10_compute_414 (lv_at hl 4 rfl) ?_
      obtain ⟨y36, e37, h⟩ := Option.bind_eq_some_iff.mp h
      refine r_zald F hP 17 (me_17 E q) e37 dX10_compute_416 ?_
      refine lv_if_eq (tgt := 424) hx hb dX10_compute_417 (by decide) (fun c38 => ?_) (fun c38 => ?_)
      · rw [if_pos c38] at h
        refine lv_iconst (v := 0) hx hb dX10_compute_424 (by decide) ?_
        refine lv_iload hx hb dX10_compute_425 (lv_at hl 0 rfl) ?_
        refine lv_if_eq (tgt := 435) hx hb dX10_compute_427 (by decide) (fun c39 => ?_) (fun c39 => ?_)
        · rw [if_pos c39] at h
          refine lv_lconst (v := 1) hx hb dX10_compute_435 (by decide) ?_
          refine lv_lload hx hb dX10_compute_436 (lv_at hl 5 rfl) ?_
          refine lv_lsub hx hb dX10_compute_438 ?_
          obtain ⟨r40, e41, h⟩ := Option.bind_eq_some_iff.mp h
          refine q_callV (As := [.int x1, .int (0 : Int32), .long ((1 : Int64) - x6)]) (rest := []) F hA hP hD hS (c_X10_setNumber (E := E) (l := l) q x1 (0 : Int32) ((1 : Int64) - x6) e41) k_X10_setNumber in_X10_setNumber se_X10_setNumber lm_X10_212 0 (me_0 E q) rfl ⟨rfl, rfl⟩ ⟨by decide, by decide⟩ rfl hl.1 rfl (Nat.le_of_ble_eq_true rfl) dX10_compute_439 ⟨by decide, by decide⟩ ?_
          intro H locs hP hD hS
          cases h
          exact hRt _ _ dX10_compute_442 _ _ hP hD hS
        · rw [if_neg c39] at h
          refine lv_lload hx hb dX10_compute_430 (lv_at hl 5 rfl) ?_
          refine lv_goto (tgt := 439) hx hb dX10_compute_432 (by decide) ?_
          obtain ⟨r42, e43, h⟩ := Option.bind_eq_some_iff.mp h
          refine q_callV (As := [.int x1, .int (0 : Int32), .long x6]) (rest := []) F hA hP hD hS (c_X10_setNumber (E := E) (l := l) q x1 (0 : Int32) x6 e43) k_X10_setNumber in_X10_setNumber se_X10_setNumber lm_X10_212 0 (me_0 E q) rfl ⟨rfl, rfl⟩ ⟨by decide, by decide⟩ rfl hl.1 rfl (Nat.le_of_ble_eq_true rfl) dX10_compute_439 ⟨by decide, by decide⟩ ?_
          intro H locs hP hD hS
          cases h
          exact hRt _ _ dX10_compute_442 _ _ hP hD hS
      · rw [if_neg c38] at h
        refine lv_iconst (v := 1) hx hb dX10_compute_420 (by decide) ?_
        refine lv_goto (tgt := 425) hx hb dX10_compute_421 (by decide) ?_
        refine lv_iload hx hb dX10_compute_425 (lv_at hl 0 rfl) ?_
        refine lv_if_eq (tgt := 435) hx hb dX10_compute_427 (by decide) (fun c44 => ?_) (fun c44 => ?_)
        · rw [if_pos c44] at h
          refine lv_lconst (v := 1) hx hb dX10_compute_435 (by decide) ?_
          refine lv_lload hx hb dX10_compute_436 (lv_at hl 5 rfl) ?_
          refine lv_lsub hx hb dX10_compute_438 ?_
          obtain ⟨r45, e46, h⟩ := Option.bind_eq_some_iff.mp h
          refine q_callV (As := [.int x1, .int (1 : Int32), .long ((1 : Int64) - x6)]) (rest := []) F hA hP hD hS (c_X10_setNumber (E := E) (l := l) q x1 (1 : Int32) ((1 : Int64) - x6) e46) k_X10_setNumber in_X10_setNumber se_X10_setNumber lm_X10_212 0 (me_0 E q) rfl ⟨rfl, rfl⟩ ⟨by decide, by decide⟩ rfl hl.1 rfl (Nat.le_of_ble_eq_true rfl) dX10_compute_439 ⟨by decide, by decide⟩ ?_
          intro H locs hP hD hS
          cases h
          exact hRt _ _ dX10_compute_442 _ _ hP hD hS
        · rw [if_neg c44] at h
          refine lv_lload hx hb dX10_compute_430 (lv_at hl 5 rfl) ?_
          refine lv_goto (tgt := 439) hx hb dX10_compute_432 (by decide) ?_
          obtain ⟨r47, e48, h⟩ := Option.bind_eq_some_iff.mp h
          refine q_callV (As := [.int x1, .int (1 : Int32), .long x6]) (rest := []) F hA hP hD hS (c_X10_setNumber (E := E) (l := l) q x1 (1 : Int32) x6 e48) k_X10_setNumber in_X10_setNumber se_X10_setNumber lm_X10_212 0 (me_0 E q) rfl ⟨rfl, rfl⟩ ⟨by decide, by decide⟩ rfl hl.1 rfl (Nat.le_of_ble_eq_true rfl) dX10_compute_439 ⟨by decide, by decide⟩ ?_
          intro H locs hP hD hS
          cases h
          exact hRt _ _ dX10_compute_442 _ _ hP hD hS
def f_X10_compute_390 (q : QS) (x1 : Int32) (x4 : Int32) (x5 : Int32) (x6 : Int64) : Option (QS) :=
  f_X10_compute_391 q x1 x4 x5 x6 (0 : Int32)
set_option maxHeartbeats 4000000 in
set_option maxRecDepth 100000 in
theorem g_X10_compute_390 {E : En} {p : Program} {l : Launch} {e : Env} {s : State} {m : MethodId} {args : Array Value} {below : List Frame} {meth : Method} {c : Code} {A : Nat → Prop} {Q : State → Prop} (F : Fx E p s m args meth c (yX10_compute).cls cX10_compute 9 none) (hA : ∀ z : Nat, s.heap.size ≤ z → A z) {o : QS} (hRt : RtV (wM E) E p l e rm_X10_compute s m args below meth c A Q cX10_compute o) (q : QS) (x1 : Int32) (x4 : Int32) (x5 : Int32) (x6 : Int64) (h : f_X10_compute_390 q x1 x4 x5 x6 = some o) (ls : Array Slot) (hl : lv_has ls 9 [(0, .ref (eA E 0)), (1, .int x1), (4, .int x4), (5, .int x5), (6, .long x6)]) : Wq (wM E) E p l e rm_X10_compute s m args below meth c A 0 0 Q q (F0 m 390 ls []) := by
  intro H locs hP hD hS
  have hx := F.1
  have hb := F.2.1
  unfold f_X10_compute_390 at h
  refine lv_iconst (v := 0) hx hb dX10_compute_390 (by decide) ?_
  exact g_X10_compute_391 F hA hRt q x1 x4 x5 x6 (0 : Int32) h _ (lv_sub hl [0, 1, 2, 3, 4] rfl) _ _ hP hD hS
def f_X10_compute_386 (q : QS) (x1 : Int32) (x4 : Int32) (x5 : Int32) (x6 : Int64) : Option (QS) :=
  f_X10_compute_391 q x1 x4 x5 x6 (1 : Int32)
set_option maxHeartbeats 4000000 in
set_option maxRecDepth 100000 in
theorem g_X10_compute_386 {E : En} {p : Program} {l : Launch} {e : Env} {s : State} {m : MethodId} {args : Array Value} {below : List Frame} {meth : Method} {c : Code} {A : Nat → Prop} {Q : State → Prop} (F : Fx E p s m args meth c (yX10_compute).cls cX10_compute 9 none) (hA : ∀ z : Nat, s.heap.size ≤ z → A z) {o : QS} (hRt : RtV (wM E) E p l e rm_X10_compute s m args below meth c A Q cX10_compute o) (q : QS) (x1 : Int32) (x4 : Int32) (x5 : Int32) (x6 : Int64) (h : f_X10_compute_386 q x1 x4 x5 x6 = some o) (ls : Array Slot) (hl : lv_has ls 9 [(0, .ref (eA E 0)), (1, .int x1), (4, .int x4), (5, .int x5), (6, .long x6)]) : Wq (wM E) E p l e rm_X10_compute s m args below meth c A 0 0 Q q (F0 m 386 ls []) := by
  intro H locs hP hD hS
  have hx := F.1
  have hb := F.2.1
  unfold f_X10_compute_386 at h
  refine lv_iconst (v := 1) hx hb dX10_compute_386 (by decide) ?_
  refine lv_goto (tgt := 391) hx hb dX10_compute_387 (by decide) ?_
  exact g_X10_compute_391 F hA hRt q x1 x4 x5 x6 (1 : Int32) h _ (lv_sub hl [0, 1, 2, 3, 4] rfl) _ _ hP hD hS
def f_X10_compute_363 (q : QS) (x1 : Int32) (x4 : Int32) (x5 : Int32) (x6 : Int64) : Option (QS) :=
  (rd (qI q 17) 200 x5).bind fun y19 =>
  if y19 = 0 then
    (rd (qL q 18) 200 x5).bind fun y49 =>
    if (lg_cmp y49 x6) = 0 then
      f_X10_compute_386 q x1 x4 x5 x6
    else
      f_X10_compute_390 q x1 x4 x5 x6
  else
    f_X10_compute_390 q x1 x4 x5 x6
set_option maxHeartbeats 4000000 in
set_option maxRecDepth 100000 in
theorem g_X10_compute_363 {E : En} {p : Program} {l : Launch} {e : Env} {s : State} {m : MethodId} {args : Array Value} {below : List Frame} {meth : Method} {c : Code} {A : Nat → Prop} {Q : State → Prop} (F : Fx E p s m args meth c (yX10_compute).cls cX10_compute 9 none) (hA : ∀ z : Nat, s.heap.size ≤ z → A z) {o : QS} (hRt : RtV (wM E) E p l e rm_X10_compute s m args below meth c A Q cX10_compute o) (q : QS) (x1 : Int32) (x4 : Int32) (x5 : Int32) (x6 : Int64) (h : f_X10_compute_363 q x1 x4 x5 x6 = some o) (ls : Array Slot) (hl : lv_has ls 9 [(0, .ref (eA E 0)), (1, .int x1), (4, .int x4), (5, .int x5), (6, .long x6)]) : Wq (wM E) E p l e rm_X10_compute s m args below meth c A 0 0 Q q (F0 m 363 ls []) := by
  intro H locs hP hD hS
  have hx := F.1
  have hb := F.2.1
  unfold f_X10_compute_363 at h
  refine lv_aload_n hx hb dX10_compute_363 rfl (lv_at hl 0 rfl) ?_
  refine r_get F hP i_X10 0 (me_0 E q) rfl 19 (by decide) rfl lf_X10_62 rfl dX10_compute_364 ?_
  refine lv_iload hx hb dX10_compute_367 (lv_at hl 3 rfl) ?_
  obtain ⟨y19, e20, h⟩ := Option.bind_eq_some_iff.mp h
  refine r_zald F hP 17 (me_17 E q) e20 dX10_compute_369 ?_
  refine lv_if_ne (tgt := 390) hx hb dX10_compute_370 (by decide) (fun c21 => ?_) (fun c21 => ?_)
  · rw [if_neg c21] at h
    exact g_X10_compute_390 F hA hRt q x1 x4 x5 x6 h _ (lv_sub hl [0, 1, 2, 3, 4] rfl) _ _ hP hD hS
  · rw [if_pos c21] at h
    refine lv_aload_n hx hb dX10_compute_373 rfl (lv_at hl 0 rfl) ?_
    refine r_get F hP i_X10 0 (me_0 E q) rfl 20 (by decide) rfl lf_X10_65 rfl dX10_compute_374 ?_
    refine lv_iload hx hb dX10_compute_377 (lv_at hl 3 rfl) ?_
    obtain ⟨y49, e50, h⟩ := Option.bind_eq_some_iff.mp h
    refine r_lald F hP 18 (me_18 E q) e50 dX10_compute_379 ?_
    refine lv_lload hx hb dX10_compute_380 (lv_at hl 4 rfl) ?_
    refine W.lcmp hx hb dX10_compute_382 ?_
    refine lv_if_ne (tgt := 390) hx hb dX10_compute_383 (by decide) (fun c51 => ?_) (fun c51 => ?_)
    · rw [if_neg c51] at h
      exact g_X10_compute_390 F hA hRt q x1 x4 x5 x6 h _ (lv_sub hl [0, 1, 2, 3, 4] rfl) _ _ hP hD hS
    · rw [if_pos c51] at h
      exact g_X10_compute_386 F hA hRt q x1 x4 x5 x6 h _ (lv_sub hl [0, 1, 2, 3, 4] rfl) _ _ hP hD hS
def f_X10_compute_338 (q : QS) (x1 : Int32) (x4 : Int32) (x5 : Int32) (t0 : Int64) : Option (QS) :=
  (rd (qI q 17) 200 x4).bind fun y16 =>
  if y16 = 0 then
    (rd (qL q 18) 200 x4).bind fun y52 =>
    if (lg_cmp y52 t0) = 0 then
      f_X10_compute_386 q x1 x4 x5 t0
    else
      f_X10_compute_363 q x1 x4 x5 t0
  else
    f_X10_compute_363 q x1 x4 x5 t0
set_option maxHeartbeats 4000000 in
set_option maxRecDepth 100000 in
theorem g_X10_compute_338 {E : En} {p : Program} {l : Launch} {e : Env} {s : State} {m : MethodId} {args : Array Value} {below : List Frame} {meth : Method} {c : Code} {A : Nat → Prop} {Q : State → Prop} (F : Fx E p s m args meth c (yX10_compute).cls cX10_compute 9 none) (hA : ∀ z : Nat, s.heap.size ≤ z → A z) {o : QS} (hRt : RtV (wM E) E p l e rm_X10_compute s m args below meth c A Q cX10_compute o) (q : QS) (x1 : Int32) (x4 : Int32) (x5 : Int32) (t0 : Int64) (h : f_X10_compute_338 q x1 x4 x5 t0 = some o) (ls : Array Slot) (hl : lv_has ls 9 [(0, .ref (eA E 0)), (1, .int x1), (4, .int x4), (5, .int x5)]) : Wq (wM E) E p l e rm_X10_compute s m args below meth c A 0 0 Q q (F0 m 338 ls [.long t0]) := by
  intro H locs hP hD hS
  have hx := F.1
  have hb := F.2.1
  unfold f_X10_compute_338 at h
  refine lv_lstore (lv' := [(6, .long t0), (0, .ref (eA E 0)), (1, .int x1), (4, .int x4), (5, .int x5)]) hx hb dX10_compute_338 hl (by decide) rfl (fun ls hl => ?_)
  refine lv_aload_n hx hb dX10_compute_340 rfl (lv_at hl 1 rfl) ?_
  refine r_get F hP i_X10 0 (me_0 E q) rfl 19 (by decide) rfl lf_X10_62 rfl dX10_compute_341 ?_
  refine lv_iload hx hb dX10_compute_344 (lv_at hl 3 rfl) ?_
  obtain ⟨y16, e17, h⟩ := Option.bind_eq_some_iff.mp h
  refine r_zald F hP 17 (me_17 E q) e17 dX10_compute_346 ?_
  refine lv_if_ne (tgt := 363) hx hb dX10_compute_347 (by decide) (fun c18 => ?_) (fun c18 => ?_)
  · rw [if_neg c18] at h
    exact g_X10_compute_363 F hA hRt q x1 x4 x5 t0 h _ (lv_sub hl [1, 2, 3, 4, 0] rfl) _ _ hP hD hS
  · rw [if_pos c18] at h
    refine lv_aload_n hx hb dX10_compute_350 rfl (lv_at hl 1 rfl) ?_
    refine r_get F hP i_X10 0 (me_0 E q) rfl 20 (by decide) rfl lf_X10_65 rfl dX10_compute_351 ?_
    refine lv_iload hx hb dX10_compute_354 (lv_at hl 3 rfl) ?_
    obtain ⟨y52, e53, h⟩ := Option.bind_eq_some_iff.mp h
    refine r_lald F hP 18 (me_18 E q) e53 dX10_compute_356 ?_
    refine lv_lload hx hb dX10_compute_357 (lv_at hl 0 rfl) ?_
    refine W.lcmp hx hb dX10_compute_359 ?_
    refine lv_if_eq (tgt := 386) hx hb dX10_compute_360 (by decide) (fun c54 => ?_) (fun c54 => ?_)
    · rw [if_pos c54] at h
      exact g_X10_compute_386 F hA hRt q x1 x4 x5 t0 h _ (lv_sub hl [1, 2, 3, 4, 0] rfl) _ _ hP hD hS
    · rw [if_neg c54] at h
      exact g_X10_compute_363 F hA hRt q x1 x4 x5 t0 h _ (lv_sub hl [1, 2, 3, 4, 0] rfl) _ _ hP hD hS
def f_X10_compute_230 (q : QS) (x3 : Int32) (x4 : Int32) (x5 : Int32) (t1 : Int32) (t2 : Int32) : Option (QS) :=
  (f_X10_compareNodes q x4 x5).bind fun r77 =>
  (f_X10_holds x3 r77).bind fun r79 =>
  if r79 = 0 then
    (f_X10_setNumber q t1 t2 (0 : Int64)).bind fun r82 =>
    some r82
  else
    (f_X10_setNumber q t1 t2 (1 : Int64)).bind fun r84 =>
    some r84
set_option maxHeartbeats 4000000 in
set_option maxRecDepth 100000 in
theorem g_X10_compute_230 {E : En} {p : Program} {l : Launch} {e : Env} {s : State} {m : MethodId} {args : Array Value} {below : List Frame} {meth : Method} {c : Code} {A : Nat → Prop} {Q : State → Prop} (F : Fx E p s m args meth c (yX10_compute).cls cX10_compute 9 none) (hA : ∀ z : Nat, s.heap.size ≤ z → A z) {o : QS} (hRt : RtV (wM E) E p l e rm_X10_compute s m args below meth c A Q cX10_compute o) (q : QS) (x3 : Int32) (x4 : Int32) (x5 : Int32) (t1 : Int32) (t2 : Int32) (h : f_X10_compute_230 q x3 x4 x5 t1 t2 = some o) (ls : Array Slot) (hl : lv_has ls 9 [(0, .ref (eA E 0)), (3, .int x3), (4, .int x4), (5, .int x5)]) : Wq (wM E) E p l e rm_X10_compute s m args below meth c A 0 0 Q q (F0 m 230 ls [.int t2, .int t1, .ref (eA E 0)]) := by
  intro H locs hP hD hS
  have hx := F.1
  have hb := F.2.1
  unfold f_X10_compute_230 at h
  refine lv_iload_n hx hb dX10_compute_230 rfl (lv_at hl 1 rfl) ?_
  refine lv_aload_n hx hb dX10_compute_231 rfl (lv_at hl 0 rfl) ?_
  refine lv_iload hx hb dX10_compute_232 (lv_at hl 2 rfl) ?_
  refine lv_iload hx hb dX10_compute_234 (lv_at hl 3 rfl) ?_
  obtain ⟨r77, e78, h⟩ := Option.bind_eq_some_iff.mp h
  refine q_callV (As := [.int x4, .int x5]) (rest := [.int x3, .int t2, .int t1, .ref (eA E 0)]) F hA hP hD hS (c_X10_compareNodes (E := E) (l := l) q x4 x5 e78) k_X10_compareNodes in_X10_compareNodes se_X10_compareNodes lm_X10_234 0 (me_0 E q) rfl ⟨rfl, rfl⟩ ⟨by decide, by decide⟩ rfl hl.1 rfl (Nat.le_of_ble_eq_true rfl) dX10_compute_236 ⟨by decide, by decide⟩ ?_
  intro H locs hP hD hS
  obtain ⟨r79, e80, h⟩ := Option.bind_eq_some_iff.mp h
  refine q_callS (As := [.int x3, .int r77]) (rest := [.int t2, .int t1, .ref (eA E 0)]) F hA hP hD hS (c_X10_holds (E := E) (l := l) q x3 r77 e80) k_X10_holds st_X10_holds lm_X10_237 ⟨rfl, rfl⟩ ⟨by decide, by decide⟩ rfl hl.1 rfl (Nat.le_of_ble_eq_true rfl) dX10_compute_239 ⟨by decide, by decide⟩ ?_
  intro H locs hP hD hS
  refine lv_if_eq (tgt := 249) hx hb dX10_compute_242 (by decide) (fun c81 => ?_) (fun c81 => ?_)
  · rw [if_pos c81] at h
    refine lv_lconst (v := 0) hx hb dX10_compute_249 (by decide) ?_
    obtain ⟨r82, e83, h⟩ := Option.bind_eq_some_iff.mp h
    refine q_callV (As := [.int t1, .int t2, .long (0 : Int64)]) (rest := []) F hA hP hD hS (c_X10_setNumber (E := E) (l := l) q t1 t2 (0 : Int64) e83) k_X10_setNumber in_X10_setNumber se_X10_setNumber lm_X10_212 0 (me_0 E q) rfl ⟨rfl, rfl⟩ ⟨by decide, by decide⟩ rfl hl.1 rfl (Nat.le_of_ble_eq_true rfl) dX10_compute_250 ⟨by decide, by decide⟩ ?_
    intro H locs hP hD hS
    refine lv_goto (tgt := 442) hx hb dX10_compute_253 (by decide) ?_
    cases h
    exact hRt _ _ dX10_compute_442 _ _ hP hD hS
  · rw [if_neg c81] at h
    refine lv_lconst (v := 1) hx hb dX10_compute_245 (by decide) ?_
    refine lv_goto (tgt := 250) hx hb dX10_compute_246 (by decide) ?_
    obtain ⟨r84, e85, h⟩ := Option.bind_eq_some_iff.mp h
    refine q_callV (As := [.int t1, .int t2, .long (1 : Int64)]) (rest := []) F hA hP hD hS (c_X10_setNumber (E := E) (l := l) q t1 t2 (1 : Int64) e85) k_X10_setNumber in_X10_setNumber se_X10_setNumber lm_X10_212 0 (me_0 E q) rfl ⟨rfl, rfl⟩ ⟨by decide, by decide⟩ rfl hl.1 rfl (Nat.le_of_ble_eq_true rfl) dX10_compute_250 ⟨by decide, by decide⟩ ?_
    intro H locs hP hD hS
    refine lv_goto (tgt := 442) hx hb dX10_compute_253 (by decide) ?_
    cases h
    exact hRt _ _ dX10_compute_442 _ _ hP hD hS
def f_X10_compute_225 (q : QS) (x3 : Int32) (x4 : Int32) (x5 : Int32) (t1 : Int32) : Option (QS) :=
  f_X10_compute_230 q x3 x4 x5 t1 (1 : Int32)
set_option maxHeartbeats 4000000 in
set_option maxRecDepth 100000 in
theorem g_X10_compute_225 {E : En} {p : Program} {l : Launch} {e : Env} {s : State} {m : MethodId} {args : Array Value} {below : List Frame} {meth : Method} {c : Code} {A : Nat → Prop} {Q : State → Prop} (F : Fx E p s m args meth c (yX10_compute).cls cX10_compute 9 none) (hA : ∀ z : Nat, s.heap.size ≤ z → A z) {o : QS} (hRt : RtV (wM E) E p l e rm_X10_compute s m args below meth c A Q cX10_compute o) (q : QS) (x3 : Int32) (x4 : Int32) (x5 : Int32) (t1 : Int32) (h : f_X10_compute_225 q x3 x4 x5 t1 = some o) (ls : Array Slot) (hl : lv_has ls 9 [(0, .ref (eA E 0)), (3, .int x3), (4, .int x4), (5, .int x5)]) : Wq (wM E) E p l e rm_X10_compute s m args below meth c A 0 0 Q q (F0 m 225 ls [.int t1, .ref (eA E 0)]) := by
  intro H locs hP hD hS
  have hx := F.1
  have hb := F.2.1
  unfold f_X10_compute_225 at h
  refine lv_iconst (v := 1) hx hb dX10_compute_225 (by decide) ?_
  refine lv_goto (tgt := 230) hx hb dX10_compute_226 (by decide) ?_
  exact g_X10_compute_230 F hA hRt q x3 x4 x5 t1 (1 : Int32) h _ (lv_sub hl [0, 1, 2, 3] rfl) _ _ hP hD hS
def f_X10_compute_150 (q : QS) (x3 : Int32) (x4 : Int32) (x5 : Int32) (t1 : Int32) : Option (QS) :=
  (rd (qL q 18) 200 x4).bind fun y94 =>
  (rd (qL q 18) 200 x5).bind fun y96 =>
  (f_X10_arithmetic x3 y94 y96).bind fun r98 =>
  (f_X10_setNumber q t1 (1 : Int32) r98).bind fun r100 =>
  some r100
set_option maxHeartbeats 4000000 in
set_option maxRecDepth 100000 in
theorem g_X10_compute_150 {E : En} {p : Program} {l : Launch} {e : Env} {s : State} {m : MethodId} {args : Array Value} {below : List Frame} {meth : Method} {c : Code} {A : Nat → Prop} {Q : State → Prop} (F : Fx E p s m args meth c (yX10_compute).cls cX10_compute 9 none) (hA : ∀ z : Nat, s.heap.size ≤ z → A z) {o : QS} (hRt : RtV (wM E) E p l e rm_X10_compute s m args below meth c A Q cX10_compute o) (q : QS) (x3 : Int32) (x4 : Int32) (x5 : Int32) (t1 : Int32) (h : f_X10_compute_150 q x3 x4 x5 t1 = some o) (ls : Array Slot) (hl : lv_has ls 9 [(0, .ref (eA E 0)), (3, .int x3), (4, .int x4), (5, .int x5)]) : Wq (wM E) E p l e rm_X10_compute s m args below meth c A 0 0 Q q (F0 m 150 ls [.int t1, .ref (eA E 0)]) := by
  intro H locs hP hD hS
  have hx := F.1
  have hb := F.2.1
  unfold f_X10_compute_150 at h
  refine lv_iconst (v := 1) hx hb dX10_compute_150 (by decide) ?_
  refine lv_goto (tgt := 155) hx hb dX10_compute_151 (by decide) ?_
  refine lv_iload_n hx hb dX10_compute_155 rfl (lv_at hl 1 rfl) ?_
  refine lv_aload_n hx hb dX10_compute_156 rfl (lv_at hl 0 rfl) ?_
  refine r_get F hP i_X10 0 (me_0 E q) rfl 20 (by decide) rfl lf_X10_65 rfl dX10_compute_157 ?_
  refine lv_iload hx hb dX10_compute_160 (lv_at hl 2 rfl) ?_
  obtain ⟨y94, e95, h⟩ := Option.bind_eq_some_iff.mp h
  refine r_lald F hP 18 (me_18 E q) e95 dX10_compute_162 ?_
  refine lv_aload_n hx hb dX10_compute_163 rfl (lv_at hl 0 rfl) ?_
  refine r_get F hP i_X10 0 (me_0 E q) rfl 20 (by decide) rfl lf_X10_65 rfl dX10_compute_164 ?_
  refine lv_iload hx hb dX10_compute_167 (lv_at hl 3 rfl) ?_
  obtain ⟨y96, e97, h⟩ := Option.bind_eq_some_iff.mp h
  refine r_lald F hP 18 (me_18 E q) e97 dX10_compute_169 ?_
  obtain ⟨r98, e99, h⟩ := Option.bind_eq_some_iff.mp h
  refine q_callS (As := [.int x3, .long y94, .long y96]) (rest := [.int (1 : Int32), .int t1, .ref (eA E 0)]) F hA hP hD hS (c_X10_arithmetic (E := E) (l := l) q x3 y94 y96 e99) k_X10_arithmetic st_X10_arithmetic lm_X10_227 ⟨rfl, rfl⟩ ⟨by decide, by decide⟩ rfl hl.1 rfl (Nat.le_of_ble_eq_true rfl) dX10_compute_170 ⟨by decide, by decide⟩ ?_
  intro H locs hP hD hS
  obtain ⟨r100, e101, h⟩ := Option.bind_eq_some_iff.mp h
  refine q_callV (As := [.int t1, .int (1 : Int32), .long r98]) (rest := []) F hA hP hD hS (c_X10_setNumber (E := E) (l := l) q t1 (1 : Int32) r98 e101) k_X10_setNumber in_X10_setNumber se_X10_setNumber lm_X10_212 0 (me_0 E q) rfl ⟨rfl, rfl⟩ ⟨by decide, by decide⟩ rfl hl.1 rfl (Nat.le_of_ble_eq_true rfl) dX10_compute_173 ⟨by decide, by decide⟩ ?_
  intro H locs hP hD hS
  refine lv_goto (tgt := 442) hx hb dX10_compute_176 (by decide) ?_
  cases h
  exact hRt _ _ dX10_compute_442 _ _ hP hD hS
def f_X10_compute_0 (q : QS) (x1 : Int32) (x2 : Int32) : Option (QS) :=
  (rd (qI q 11) 200 x1).bind fun y1 =>
  (rd (qI q 12) 200 x1).bind fun y3 =>
  (rd (qI q 13) 200 x1).bind fun y5 =>
  if (4 : Int32) ≤ y1 then
    if y1 = (4 : Int32) then
      (f_X10_rowOf x2 y3).bind fun r131 =>
      (rd (qI q 10) 960 (((8 : Int32) * (((40 : Int32) * y3) + r131)) + y5)).bind fun y133 =>
      (f_X10_setStep q x1 y133).bind fun r135 =>
      some r135
    else
      if y1 = (10 : Int32) then
        (rd (qI q 17) 200 y3).bind fun y125 =>
        (rd (qL q 18) 200 y3).bind fun y127 =>
        (f_X10_setNumber q x1 y125 (-y127)).bind fun r129 =>
        some r129
      else
        if (16 : Int32) ≤ y1 then
          if y1 = (16 : Int32) then
            (f_X10_join q x1 y3 y5).bind fun r89 =>
            some r89
          else
            if (23 : Int32) ≤ y1 then
              if (25 : Int32) ≤ y1 then
                if y1 = (25 : Int32) then
                  (rd (qI q 17) 200 y3).bind fun y55 =>
                  (rd (qL q 18) 200 y3).bind fun y57 =>
                  (f_X10_setNumber q x1 y55 ((1 : Int64) - y57)).bind fun r59 =>
                  some r59
                else
                  if y1 = (26 : Int32) then
                    f_X10_compute_338 q x1 y3 y5 (0 : Int64)
                  else
                    f_X10_compute_338 q x1 y3 y5 (1 : Int64)
              else
                (rd (qI q 17) 200 y3).bind fun y61 =>
                if y1 = (23 : Int32) then
                  if y61 = (1 : Int32) then
                    (f_X10_setNumber q x1 (0 : Int32) (1 : Int64)).bind fun r72 =>
                    some r72
                  else
                    (f_X10_setNumber q x1 (0 : Int32) (0 : Int64)).bind fun r70 =>
                    some r70
                else
                  if y61 = (0 : Int32) then
                    (f_X10_setNumber q x1 (0 : Int32) (1 : Int64)).bind fun r67 =>
                    some r67
                  else
                    (f_X10_setNumber q x1 (0 : Int32) (0 : Int64)).bind fun r65 =>
                    some r65
            else
              (rd (qI q 17) 200 y3).bind fun y74 =>
              if y74 = 0 then
                (rd (qI q 17) 200 y5).bind fun y86 =>
                if y86 = 0 then
                  f_X10_compute_230 q y1 y3 y5 x1 (0 : Int32)
                else
                  f_X10_compute_225 q y1 y3 y5 x1
              else
                f_X10_compute_225 q y1 y3 y5 x1
        else
          (rd (qI q 17) 200 y3).bind fun y91 =>
          if y91 = 0 then
            (rd (qI q 17) 200 y5).bind fun y102 =>
            if y102 = 0 then
              if y1 ≤ (13 : Int32) then
                (rd (qL q 18) 200 y3).bind fun y106 =>
                (rd (qL q 18) 200 y5).bind fun y108 =>
                (f_X10_arithmetic y1 y106 y108).bind fun r110 =>
                (f_X10_setNumber q x1 (0 : Int32) r110).bind fun r112 =>
                some r112
              else
                (rd (qL q 18) 200 y5).bind fun y114 =>
                if (lg_cmp y114 (0 : Int64)) = 0 then
                  f_X10_compute_150 q y1 y3 y5 x1
                else
                  (rd (qL q 18) 200 y3).bind fun y117 =>
                  (rd (qL q 18) 200 y5).bind fun y119 =>
                  (f_X10_arithmetic y1 y117 y119).bind fun r121 =>
                  (f_X10_setNumber q x1 (0 : Int32) r121).bind fun r123 =>
                  some r123
            else
              f_X10_compute_150 q y1 y3 y5 x1
          else
            f_X10_compute_150 q y1 y3 y5 x1
  else
    (f_X10_setStep q x1 y3).bind fun r137 =>
    some r137
set_option maxHeartbeats 4000000 in
set_option maxRecDepth 100000 in
theorem g_X10_compute_0 {E : En} {p : Program} {l : Launch} {e : Env} {s : State} {m : MethodId} {args : Array Value} {below : List Frame} {meth : Method} {c : Code} {A : Nat → Prop} {Q : State → Prop} (F : Fx E p s m args meth c (yX10_compute).cls cX10_compute 9 none) (hA : ∀ z : Nat, s.heap.size ≤ z → A z) {o : QS} (hRt : RtV (wM E) E p l e rm_X10_compute s m args below meth c A Q cX10_compute o) (q : QS) (x1 : Int32) (x2 : Int32) (h : f_X10_compute_0 q x1 x2 = some o) (ls : Array Slot) (hl : lv_has ls 9 [(0, .ref (eA E 0)), (1, .int x1), (2, .int x2)]) : Wq (wM E) E p l e rm_X10_compute s m args below meth c A 0 0 Q q (F0 m 0 ls []) := by
  intro H locs hP hD hS
  have hx := F.1
  have hb := F.2.1
  unfold f_X10_compute_0 at h
  refine lv_aload_n hx hb dX10_compute_0 rfl (lv_at hl 0 rfl) ?_
  refine r_get F hP i_X10 0 (me_0 E q) rfl 13 (by decide) rfl lf_X10_43 rfl dX10_compute_1 ?_
  refine lv_iload_n hx hb dX10_compute_4 rfl (lv_at hl 1 rfl) ?_
  obtain ⟨y1, e2, h⟩ := Option.bind_eq_some_iff.mp h
  refine r_iald F hP 11 (me_11 E q) e2 dX10_compute_5 ?_
  refine lv_istore_n (lv' := [(3, .int y1), (0, .ref (eA E 0)), (1, .int x1), (2, .int x2)]) hx hb dX10_compute_6 rfl hl (by decide) rfl (fun ls hl => ?_)
  refine lv_aload_n hx hb dX10_compute_7 rfl (lv_at hl 1 rfl) ?_
  refine r_get F hP i_X10 0 (me_0 E q) rfl 14 (by decide) rfl lf_X10_46 rfl dX10_compute_8 ?_
  refine lv_iload_n hx hb dX10_compute_11 rfl (lv_at hl 2 rfl) ?_
  obtain ⟨y3, e4, h⟩ := Option.bind_eq_some_iff.mp h
  refine r_iald F hP 12 (me_12 E q) e4 dX10_compute_12 ?_
  refine lv_istore (lv' := [(4, .int y3), (3, .int y1), (0, .ref (eA E 0)), (1, .int x1), (2, .int x2)]) hx hb dX10_compute_13 hl (by decide) rfl (fun ls hl => ?_)
  refine lv_aload_n hx hb dX10_compute_15 rfl (lv_at hl 2 rfl) ?_
  refine r_get F hP i_X10 0 (me_0 E q) rfl 15 (by decide) rfl lf_X10_49 rfl dX10_compute_16 ?_
  refine lv_iload_n hx hb dX10_compute_19 rfl (lv_at hl 3 rfl) ?_
  obtain ⟨y5, e6, h⟩ := Option.bind_eq_some_iff.mp h
  refine r_iald F hP 13 (me_13 E q) e6 dX10_compute_20 ?_
  refine lv_istore (lv' := [(5, .int y5), (4, .int y3), (3, .int y1), (0, .ref (eA E 0)), (1, .int x1), (2, .int x2)]) hx hb dX10_compute_21 hl (by decide) rfl (fun ls hl => ?_)
  refine lv_iload_n hx hb dX10_compute_23 rfl (lv_at hl 2 rfl) ?_
  refine lv_iconst (v := 4) hx hb dX10_compute_24 (by decide) ?_
  refine lv_icmp_ge (tgt := 38) hx hb dX10_compute_25 (by decide) (fun c7 => ?_) (fun c7 => ?_)
  · rw [if_pos c7] at h
    refine lv_iload_n hx hb dX10_compute_38 rfl (lv_at hl 2 rfl) ?_
    refine lv_iconst (v := 4) hx hb dX10_compute_39 (by decide) ?_
    refine lv_icmp_ne (tgt := 75) hx hb dX10_compute_40 (by decide) (fun c8 => ?_) (fun c8 => ?_)
    · rw [if_neg c8] at h
      refine lv_iload_n hx hb dX10_compute_75 rfl (lv_at hl 2 rfl) ?_
      refine lv_bipush (v := 10) hx hb dX10_compute_76 (by decide) ?_
      refine lv_icmp_ne (tgt := 104) hx hb dX10_compute_78 (by decide) (fun c9 => ?_) (fun c9 => ?_)
      · rw [if_neg c9] at h
        refine lv_iload_n hx hb dX10_compute_104 rfl (lv_at hl 2 rfl) ?_
        refine lv_bipush (v := 16) hx hb dX10_compute_105 (by decide) ?_
        refine lv_icmp_ge (tgt := 179) hx hb dX10_compute_107 (by decide) (fun c10 => ?_) (fun c10 => ?_)
        · rw [if_pos c10] at h
          refine lv_iload_n hx hb dX10_compute_179 rfl (lv_at hl 2 rfl) ?_
          refine lv_bipush (v := 16) hx hb dX10_compute_180 (by decide) ?_
          refine lv_icmp_ne (tgt := 197) hx hb dX10_compute_182 (by decide) (fun c11 => ?_) (fun c11 => ?_)
          · rw [if_neg c11] at h
            refine lv_iload_n hx hb dX10_compute_197 rfl (lv_at hl 2 rfl) ?_
            refine lv_bipush (v := 23) hx hb dX10_compute_198 (by decide) ?_
            refine lv_icmp_ge (tgt := 256) hx hb dX10_compute_200 (by decide) (fun c12 => ?_) (fun c12 => ?_)
            · rw [if_pos c12] at h
              refine lv_iload_n hx hb dX10_compute_256 rfl (lv_at hl 2 rfl) ?_
              refine lv_bipush (v := 25) hx hb dX10_compute_257 (by decide) ?_
              refine lv_icmp_ge (tgt := 297) hx hb dX10_compute_259 (by decide) (fun c13 => ?_) (fun c13 => ?_)
              · rw [if_pos c13] at h
                refine lv_iload_n hx hb dX10_compute_297 rfl (lv_at hl 2 rfl) ?_
                refine lv_bipush (v := 25) hx hb dX10_compute_298 (by decide) ?_
                refine lv_icmp_ne (tgt := 327) hx hb dX10_compute_300 (by decide) (fun c14 => ?_) (fun c14 => ?_)
                · rw [if_neg c14] at h
                  refine lv_iload_n hx hb dX10_compute_327 rfl (lv_at hl 2 rfl) ?_
                  refine lv_bipush (v := 26) hx hb dX10_compute_328 (by decide) ?_
                  refine lv_icmp_ne (tgt := 337) hx hb dX10_compute_330 (by decide) (fun c15 => ?_) (fun c15 => ?_)
                  · rw [if_neg c15] at h
                    refine lv_lconst (v := 1) hx hb dX10_compute_337 (by decide) ?_
                    exact g_X10_compute_338 F hA hRt q x1 y3 y5 (1 : Int64) h _ (lv_sub hl [3, 4, 1, 0] rfl) _ _ hP hD hS
                  · rw [if_pos c15] at h
                    refine lv_lconst (v := 0) hx hb dX10_compute_333 (by decide) ?_
                    refine lv_goto (tgt := 338) hx hb dX10_compute_334 (by decide) ?_
                    exact g_X10_compute_338 F hA hRt q x1 y3 y5 (0 : Int64) h _ (lv_sub hl [3, 4, 1, 0] rfl) _ _ hP hD hS
                · rw [if_pos c14] at h
                  refine lv_aload_n hx hb dX10_compute_303 rfl (lv_at hl 3 rfl) ?_
                  refine lv_iload_n hx hb dX10_compute_304 rfl (lv_at hl 4 rfl) ?_
                  refine lv_aload_n hx hb dX10_compute_305 rfl (lv_at hl 3 rfl) ?_
                  refine r_get F hP i_X10 0 (me_0 E q) rfl 19 (by decide) rfl lf_X10_62 rfl dX10_compute_306 ?_
                  refine lv_iload hx hb dX10_compute_309 (lv_at hl 1 rfl) ?_
                  obtain ⟨y55, e56, h⟩ := Option.bind_eq_some_iff.mp h
                  refine r_zald F hP 17 (me_17 E q) e56 dX10_compute_311 ?_
                  refine lv_lconst (v := 1) hx hb dX10_compute_312 (by decide) ?_
                  refine lv_aload_n hx hb dX10_compute_313 rfl (lv_at hl 3 rfl) ?_
                  refine r_get F hP i_X10 0 (me_0 E q) rfl 20 (by decide) rfl lf_X10_65 rfl dX10_compute_314 ?_
                  refine lv_iload hx hb dX10_compute_317 (lv_at hl 1 rfl) ?_
                  obtain ⟨y57, e58, h⟩ := Option.bind_eq_some_iff.mp h
                  refine r_lald F hP 18 (me_18 E q) e58 dX10_compute_319 ?_
                  refine lv_lsub hx hb dX10_compute_320 ?_
                  obtain ⟨r59, e60, h⟩ := Option.bind_eq_some_iff.mp h
                  refine q_callV (As := [.int x1, .int y55, .long ((1 : Int64) - y57)]) (rest := []) F hA hP hD hS (c_X10_setNumber (E := E) (l := l) q x1 y55 ((1 : Int64) - y57) e60) k_X10_setNumber in_X10_setNumber se_X10_setNumber lm_X10_212 0 (me_0 E q) rfl ⟨rfl, rfl⟩ ⟨by decide, by decide⟩ rfl hl.1 rfl (Nat.le_of_ble_eq_true rfl) dX10_compute_321 ⟨by decide, by decide⟩ ?_
                  intro H locs hP hD hS
                  refine lv_goto (tgt := 442) hx hb dX10_compute_324 (by decide) ?_
                  cases h
                  exact hRt _ _ dX10_compute_442 _ _ hP hD hS
              · rw [if_neg c13] at h
                refine lv_aload_n hx hb dX10_compute_262 rfl (lv_at hl 3 rfl) ?_
                refine lv_iload_n hx hb dX10_compute_263 rfl (lv_at hl 4 rfl) ?_
                refine lv_iconst (v := 0) hx hb dX10_compute_264 (by decide) ?_
                refine lv_aload_n hx hb dX10_compute_265 rfl (lv_at hl 3 rfl) ?_
                refine r_get F hP i_X10 0 (me_0 E q) rfl 19 (by decide) rfl lf_X10_62 rfl dX10_compute_266 ?_
                refine lv_iload hx hb dX10_compute_269 (lv_at hl 1 rfl) ?_
                obtain ⟨y61, e62, h⟩ := Option.bind_eq_some_iff.mp h
                refine r_zald F hP 17 (me_17 E q) e62 dX10_compute_271 ?_
                refine lv_iload_n hx hb dX10_compute_272 rfl (lv_at hl 2 rfl) ?_
                refine lv_bipush (v := 23) hx hb dX10_compute_273 (by decide) ?_
                refine lv_icmp_ne (tgt := 282) hx hb dX10_compute_275 (by decide) (fun c63 => ?_) (fun c63 => ?_)
                · rw [if_neg c63] at h
                  refine lv_iconst (v := 0) hx hb dX10_compute_282 (by decide) ?_
                  refine lv_icmp_ne (tgt := 290) hx hb dX10_compute_283 (by decide) (fun c64 => ?_) (fun c64 => ?_)
                  · rw [if_neg c64] at h
                    refine lv_lconst (v := 0) hx hb dX10_compute_290 (by decide) ?_
                    obtain ⟨r65, e66, h⟩ := Option.bind_eq_some_iff.mp h
                    refine q_callV (As := [.int x1, .int (0 : Int32), .long (0 : Int64)]) (rest := []) F hA hP hD hS (c_X10_setNumber (E := E) (l := l) q x1 (0 : Int32) (0 : Int64) e66) k_X10_setNumber in_X10_setNumber se_X10_setNumber lm_X10_212 0 (me_0 E q) rfl ⟨rfl, rfl⟩ ⟨by decide, by decide⟩ rfl hl.1 rfl (Nat.le_of_ble_eq_true rfl) dX10_compute_291 ⟨by decide, by decide⟩ ?_
                    intro H locs hP hD hS
                    refine lv_goto (tgt := 442) hx hb dX10_compute_294 (by decide) ?_
                    cases h
                    exact hRt _ _ dX10_compute_442 _ _ hP hD hS
                  · rw [if_pos c64] at h
                    refine lv_lconst (v := 1) hx hb dX10_compute_286 (by decide) ?_
                    refine lv_goto (tgt := 291) hx hb dX10_compute_287 (by decide) ?_
                    obtain ⟨r67, e68, h⟩ := Option.bind_eq_some_iff.mp h
                    refine q_callV (As := [.int x1, .int (0 : Int32), .long (1 : Int64)]) (rest := []) F hA hP hD hS (c_X10_setNumber (E := E) (l := l) q x1 (0 : Int32) (1 : Int64) e68) k_X10_setNumber in_X10_setNumber se_X10_setNumber lm_X10_212 0 (me_0 E q) rfl ⟨rfl, rfl⟩ ⟨by decide, by decide⟩ rfl hl.1 rfl (Nat.le_of_ble_eq_true rfl) dX10_compute_291 ⟨by decide, by decide⟩ ?_
                    intro H locs hP hD hS
                    refine lv_goto (tgt := 442) hx hb dX10_compute_294 (by decide) ?_
                    cases h
                    exact hRt _ _ dX10_compute_442 _ _ hP hD hS
                · rw [if_pos c63] at h
                  refine lv_iconst (v := 1) hx hb dX10_compute_278 (by decide) ?_
                  refine lv_goto (tgt := 283) hx hb dX10_compute_279 (by decide) ?_
                  refine lv_icmp_ne (tgt := 290) hx hb dX10_compute_283 (by decide) (fun c69 => ?_) (fun c69 => ?_)
                  · rw [if_neg c69] at h
                    refine lv_lconst (v := 0) hx hb dX10_compute_290 (by decide) ?_
                    obtain ⟨r70, e71, h⟩ := Option.bind_eq_some_iff.mp h
                    refine q_callV (As := [.int x1, .int (0 : Int32), .long (0 : Int64)]) (rest := []) F hA hP hD hS (c_X10_setNumber (E := E) (l := l) q x1 (0 : Int32) (0 : Int64) e71) k_X10_setNumber in_X10_setNumber se_X10_setNumber lm_X10_212 0 (me_0 E q) rfl ⟨rfl, rfl⟩ ⟨by decide, by decide⟩ rfl hl.1 rfl (Nat.le_of_ble_eq_true rfl) dX10_compute_291 ⟨by decide, by decide⟩ ?_
                    intro H locs hP hD hS
                    refine lv_goto (tgt := 442) hx hb dX10_compute_294 (by decide) ?_
                    cases h
                    exact hRt _ _ dX10_compute_442 _ _ hP hD hS
                  · rw [if_pos c69] at h
                    refine lv_lconst (v := 1) hx hb dX10_compute_286 (by decide) ?_
                    refine lv_goto (tgt := 291) hx hb dX10_compute_287 (by decide) ?_
                    obtain ⟨r72, e73, h⟩ := Option.bind_eq_some_iff.mp h
                    refine q_callV (As := [.int x1, .int (0 : Int32), .long (1 : Int64)]) (rest := []) F hA hP hD hS (c_X10_setNumber (E := E) (l := l) q x1 (0 : Int32) (1 : Int64) e73) k_X10_setNumber in_X10_setNumber se_X10_setNumber lm_X10_212 0 (me_0 E q) rfl ⟨rfl, rfl⟩ ⟨by decide, by decide⟩ rfl hl.1 rfl (Nat.le_of_ble_eq_true rfl) dX10_compute_291 ⟨by decide, by decide⟩ ?_
                    intro H locs hP hD hS
                    refine lv_goto (tgt := 442) hx hb dX10_compute_294 (by decide) ?_
                    cases h
                    exact hRt _ _ dX10_compute_442 _ _ hP hD hS
            · rw [if_neg c12] at h
              refine lv_aload_n hx hb dX10_compute_203 rfl (lv_at hl 3 rfl) ?_
              refine lv_iload_n hx hb dX10_compute_204 rfl (lv_at hl 4 rfl) ?_
              refine lv_aload_n hx hb dX10_compute_205 rfl (lv_at hl 3 rfl) ?_
              refine r_get F hP i_X10 0 (me_0 E q) rfl 19 (by decide) rfl lf_X10_62 rfl dX10_compute_206 ?_
              refine lv_iload hx hb dX10_compute_209 (lv_at hl 1 rfl) ?_
              obtain ⟨y74, e75, h⟩ := Option.bind_eq_some_iff.mp h
              refine r_zald F hP 17 (me_17 E q) e75 dX10_compute_211 ?_
              refine lv_if_ne (tgt := 225) hx hb dX10_compute_212 (by decide) (fun c76 => ?_) (fun c76 => ?_)
              · rw [if_neg c76] at h
                exact g_X10_compute_225 F hA hRt q y1 y3 y5 x1 h _ (lv_sub hl [3, 2, 1, 0] rfl) _ _ hP hD hS
              · rw [if_pos c76] at h
                refine lv_aload_n hx hb dX10_compute_215 rfl (lv_at hl 3 rfl) ?_
                refine r_get F hP i_X10 0 (me_0 E q) rfl 19 (by decide) rfl lf_X10_62 rfl dX10_compute_216 ?_
                refine lv_iload hx hb dX10_compute_219 (lv_at hl 0 rfl) ?_
                obtain ⟨y86, e87, h⟩ := Option.bind_eq_some_iff.mp h
                refine r_zald F hP 17 (me_17 E q) e87 dX10_compute_221 ?_
                refine lv_if_eq (tgt := 229) hx hb dX10_compute_222 (by decide) (fun c88 => ?_) (fun c88 => ?_)
                · rw [if_pos c88] at h
                  refine lv_iconst (v := 0) hx hb dX10_compute_229 (by decide) ?_
                  exact g_X10_compute_230 F hA hRt q y1 y3 y5 x1 (0 : Int32) h _ (lv_sub hl [3, 2, 1, 0] rfl) _ _ hP hD hS
                · rw [if_neg c88] at h
                  exact g_X10_compute_225 F hA hRt q y1 y3 y5 x1 h _ (lv_sub hl [3, 2, 1, 0] rfl) _ _ hP hD hS
          · rw [if_pos c11] at h
            refine lv_aload_n hx hb dX10_compute_185 rfl (lv_at hl 3 rfl) ?_
            refine lv_iload_n hx hb dX10_compute_186 rfl (lv_at hl 4 rfl) ?_
            refine lv_iload hx hb dX10_compute_187 (lv_at hl 1 rfl) ?_
            refine lv_iload hx hb dX10_compute_189 (lv_at hl 0 rfl) ?_
            obtain ⟨r89, e90, h⟩ := Option.bind_eq_some_iff.mp h
            refine q_callV (As := [.int x1, .int y3, .int y5]) (rest := []) F hA hP hD hS (c_X10_join (E := E) (l := l) q x1 y3 y5 e90) k_X10_join in_X10_join se_X10_join lm_X10_231 0 (me_0 E q) rfl ⟨rfl, rfl⟩ ⟨by decide, by decide⟩ rfl hl.1 rfl (Nat.le_of_ble_eq_true rfl) dX10_compute_191 ⟨by decide, by decide⟩ ?_
            intro H locs hP hD hS
            refine lv_goto (tgt := 442) hx hb dX10_compute_194 (by decide) ?_
            cases h
            exact hRt _ _ dX10_compute_442 _ _ hP hD hS
        · rw [if_neg c10] at h
          refine lv_aload_n hx hb dX10_compute_110 rfl (lv_at hl 3 rfl) ?_
          refine lv_iload_n hx hb dX10_compute_111 rfl (lv_at hl 4 rfl) ?_
          refine lv_aload_n hx hb dX10_compute_112 rfl (lv_at hl 3 rfl) ?_
          refine r_get F hP i_X10 0 (me_0 E q) rfl 19 (by decide) rfl lf_X10_62 rfl dX10_compute_113 ?_
          refine lv_iload hx hb dX10_compute_116 (lv_at hl 1 rfl) ?_
          obtain ⟨y91, e92, h⟩ := Option.bind_eq_some_iff.mp h
          refine r_zald F hP 17 (me_17 E q) e92 dX10_compute_118 ?_
          refine lv_if_ne (tgt := 150) hx hb dX10_compute_119 (by decide) (fun c93 => ?_) (fun c93 => ?_)
          · rw [if_neg c93] at h
            exact g_X10_compute_150 F hA hRt q y1 y3 y5 x1 h _ (lv_sub hl [3, 2, 1, 0] rfl) _ _ hP hD hS
          · rw [if_pos c93] at h
            refine lv_aload_n hx hb dX10_compute_122 rfl (lv_at hl 3 rfl) ?_
            refine r_get F hP i_X10 0 (me_0 E q) rfl 19 (by decide) rfl lf_X10_62 rfl dX10_compute_123 ?_
            refine lv_iload hx hb dX10_compute_126 (lv_at hl 0 rfl) ?_
            obtain ⟨y102, e103, h⟩ := Option.bind_eq_some_iff.mp h
            refine r_zald F hP 17 (me_17 E q) e103 dX10_compute_128 ?_
            refine lv_if_ne (tgt := 150) hx hb dX10_compute_129 (by decide) (fun c104 => ?_) (fun c104 => ?_)
            · rw [if_neg c104] at h
              exact g_X10_compute_150 F hA hRt q y1 y3 y5 x1 h _ (lv_sub hl [3, 2, 1, 0] rfl) _ _ hP hD hS
            · rw [if_pos c104] at h
              refine lv_iload_n hx hb dX10_compute_132 rfl (lv_at hl 2 rfl) ?_
              refine lv_bipush (v := 13) hx hb dX10_compute_133 (by decide) ?_
              refine lv_icmp_le (tgt := 154) hx hb dX10_compute_135 (by decide) (fun c105 => ?_) (fun c105 => ?_)
              · rw [if_pos c105] at h
                refine lv_iconst (v := 0) hx hb dX10_compute_154 (by decide) ?_
                refine lv_iload_n hx hb dX10_compute_155 rfl (lv_at hl 2 rfl) ?_
                refine lv_aload_n hx hb dX10_compute_156 rfl (lv_at hl 3 rfl) ?_
                refine r_get F hP i_X10 0 (me_0 E q) rfl 20 (by decide) rfl lf_X10_65 rfl dX10_compute_157 ?_
                refine lv_iload hx hb dX10_compute_160 (lv_at hl 1 rfl) ?_
                obtain ⟨y106, e107, h⟩ := Option.bind_eq_some_iff.mp h
                refine r_lald F hP 18 (me_18 E q) e107 dX10_compute_162 ?_
                refine lv_aload_n hx hb dX10_compute_163 rfl (lv_at hl 3 rfl) ?_
                refine r_get F hP i_X10 0 (me_0 E q) rfl 20 (by decide) rfl lf_X10_65 rfl dX10_compute_164 ?_
                refine lv_iload hx hb dX10_compute_167 (lv_at hl 0 rfl) ?_
                obtain ⟨y108, e109, h⟩ := Option.bind_eq_some_iff.mp h
                refine r_lald F hP 18 (me_18 E q) e109 dX10_compute_169 ?_
                obtain ⟨r110, e111, h⟩ := Option.bind_eq_some_iff.mp h
                refine q_callS (As := [.int y1, .long y106, .long y108]) (rest := [.int (0 : Int32), .int x1, .ref (eA E 0)]) F hA hP hD hS (c_X10_arithmetic (E := E) (l := l) q y1 y106 y108 e111) k_X10_arithmetic st_X10_arithmetic lm_X10_227 ⟨rfl, rfl⟩ ⟨by decide, by decide⟩ rfl hl.1 rfl (Nat.le_of_ble_eq_true rfl) dX10_compute_170 ⟨by decide, by decide⟩ ?_
                intro H locs hP hD hS
                obtain ⟨r112, e113, h⟩ := Option.bind_eq_some_iff.mp h
                refine q_callV (As := [.int x1, .int (0 : Int32), .long r110]) (rest := []) F hA hP hD hS (c_X10_setNumber (E := E) (l := l) q x1 (0 : Int32) r110 e113) k_X10_setNumber in_X10_setNumber se_X10_setNumber lm_X10_212 0 (me_0 E q) rfl ⟨rfl, rfl⟩ ⟨by decide, by decide⟩ rfl hl.1 rfl (Nat.le_of_ble_eq_true rfl) dX10_compute_173 ⟨by decide, by decide⟩ ?_
                intro H locs hP hD hS
                refine lv_goto (tgt := 442) hx hb dX10_compute_176 (by decide) ?_
                cases h
                exact hRt _ _ dX10_compute_442 _ _ hP hD hS
              · rw [if_neg c105] at h
                refine lv_aload_n hx hb dX10_compute_138 rfl (lv_at hl 3 rfl) ?_
                refine r_get F hP i_X10 0 (me_0 E q) rfl 20 (by decide) rfl lf_X10_65 rfl dX10_compute_139 ?_
                refine lv_iload hx hb dX10_compute_142 (lv_at hl 0 rfl) ?_
                obtain ⟨y114, e115, h⟩ := Option.bind_eq_some_iff.mp h
                refine r_lald F hP 18 (me_18 E q) e115 dX10_compute_144 ?_
                refine lv_lconst (v := 0) hx hb dX10_compute_145 (by decide) ?_
                refine W.lcmp hx hb dX10_compute_146 ?_
                refine lv_if_ne (tgt := 154) hx hb dX10_compute_147 (by decide) (fun c116 => ?_) (fun c116 => ?_)
                · rw [if_neg c116] at h
                  refine lv_iconst (v := 0) hx hb dX10_compute_154 (by decide) ?_
                  refine lv_iload_n hx hb dX10_compute_155 rfl (lv_at hl 2 rfl) ?_
                  refine lv_aload_n hx hb dX10_compute_156 rfl (lv_at hl 3 rfl) ?_
                  refine r_get F hP i_X10 0 (me_0 E q) rfl 20 (by decide) rfl lf_X10_65 rfl dX10_compute_157 ?_
                  refine lv_iload hx hb dX10_compute_160 (lv_at hl 1 rfl) ?_
                  obtain ⟨y117, e118, h⟩ := Option.bind_eq_some_iff.mp h
                  refine r_lald F hP 18 (me_18 E q) e118 dX10_compute_162 ?_
                  refine lv_aload_n hx hb dX10_compute_163 rfl (lv_at hl 3 rfl) ?_
                  refine r_get F hP i_X10 0 (me_0 E q) rfl 20 (by decide) rfl lf_X10_65 rfl dX10_compute_164 ?_
                  refine lv_iload hx hb dX10_compute_167 (lv_at hl 0 rfl) ?_
                  obtain ⟨y119, e120, h⟩ := Option.bind_eq_some_iff.mp h
                  refine r_lald F hP 18 (me_18 E q) e120 dX10_compute_169 ?_
                  obtain ⟨r121, e122, h⟩ := Option.bind_eq_some_iff.mp h
                  refine q_callS (As := [.int y1, .long y117, .long y119]) (rest := [.int (0 : Int32), .int x1, .ref (eA E 0)]) F hA hP hD hS (c_X10_arithmetic (E := E) (l := l) q y1 y117 y119 e122) k_X10_arithmetic st_X10_arithmetic lm_X10_227 ⟨rfl, rfl⟩ ⟨by decide, by decide⟩ rfl hl.1 rfl (Nat.le_of_ble_eq_true rfl) dX10_compute_170 ⟨by decide, by decide⟩ ?_
                  intro H locs hP hD hS
                  obtain ⟨r123, e124, h⟩ := Option.bind_eq_some_iff.mp h
                  refine q_callV (As := [.int x1, .int (0 : Int32), .long r121]) (rest := []) F hA hP hD hS (c_X10_setNumber (E := E) (l := l) q x1 (0 : Int32) r121 e124) k_X10_setNumber in_X10_setNumber se_X10_setNumber lm_X10_212 0 (me_0 E q) rfl ⟨rfl, rfl⟩ ⟨by decide, by decide⟩ rfl hl.1 rfl (Nat.le_of_ble_eq_true rfl) dX10_compute_173 ⟨by decide, by decide⟩ ?_
                  intro H locs hP hD hS
                  refine lv_goto (tgt := 442) hx hb dX10_compute_176 (by decide) ?_
                  cases h
                  exact hRt _ _ dX10_compute_442 _ _ hP hD hS
                · rw [if_pos c116] at h
                  exact g_X10_compute_150 F hA hRt q y1 y3 y5 x1 h _ (lv_sub hl [3, 2, 1, 0] rfl) _ _ hP hD hS
      · rw [if_pos c9] at h
        refine lv_aload_n hx hb dX10_compute_81 rfl (lv_at hl 3 rfl) ?_
        refine lv_iload_n hx hb dX10_compute_82 rfl (lv_at hl 4 rfl) ?_
        refine lv_aload_n hx hb dX10_compute_83 rfl (lv_at hl 3 rfl) ?_
        refine r_get F hP i_X10 0 (me_0 E q) rfl 19 (by decide) rfl lf_X10_62 rfl dX10_compute_84 ?_
        refine lv_iload hx hb dX10_compute_87 (lv_at hl 1 rfl) ?_
        obtain ⟨y125, e126, h⟩ := Option.bind_eq_some_iff.mp h
        refine r_zald F hP 17 (me_17 E q) e126 dX10_compute_89 ?_
        refine lv_aload_n hx hb dX10_compute_90 rfl (lv_at hl 3 rfl) ?_
        refine r_get F hP i_X10 0 (me_0 E q) rfl 20 (by decide) rfl lf_X10_65 rfl dX10_compute_91 ?_
        refine lv_iload hx hb dX10_compute_94 (lv_at hl 1 rfl) ?_
        obtain ⟨y127, e128, h⟩ := Option.bind_eq_some_iff.mp h
        refine r_lald F hP 18 (me_18 E q) e128 dX10_compute_96 ?_
        refine lv_lneg hx hb dX10_compute_97 ?_
        obtain ⟨r129, e130, h⟩ := Option.bind_eq_some_iff.mp h
        refine q_callV (As := [.int x1, .int y125, .long (-y127)]) (rest := []) F hA hP hD hS (c_X10_setNumber (E := E) (l := l) q x1 y125 (-y127) e130) k_X10_setNumber in_X10_setNumber se_X10_setNumber lm_X10_212 0 (me_0 E q) rfl ⟨rfl, rfl⟩ ⟨by decide, by decide⟩ rfl hl.1 rfl (Nat.le_of_ble_eq_true rfl) dX10_compute_98 ⟨by decide, by decide⟩ ?_
        intro H locs hP hD hS
        refine lv_goto (tgt := 442) hx hb dX10_compute_101 (by decide) ?_
        cases h
        exact hRt _ _ dX10_compute_442 _ _ hP hD hS
    · rw [if_pos c8] at h
      refine lv_aload_n hx hb dX10_compute_43 rfl (lv_at hl 3 rfl) ?_
      refine lv_iload_n hx hb dX10_compute_44 rfl (lv_at hl 4 rfl) ?_
      refine lv_aload_n hx hb dX10_compute_45 rfl (lv_at hl 3 rfl) ?_
      refine r_get F hP i_X10 0 (me_0 E q) rfl 11 (by decide) rfl lf_X10_40 rfl dX10_compute_46 ?_
      refine lv_bipush (v := 8) hx hb dX10_compute_49 (by decide) ?_
      refine lv_bipush (v := 40) hx hb dX10_compute_51 (by decide) ?_
      refine lv_iload hx hb dX10_compute_53 (lv_at hl 1 rfl) ?_
      refine lv_imul hx hb dX10_compute_55 ?_
      refine lv_aload_n hx hb dX10_compute_56 rfl (lv_at hl 3 rfl) ?_
      refine lv_iload_n hx hb dX10_compute_57 rfl (lv_at hl 5 rfl) ?_
      refine lv_iload hx hb dX10_compute_58 (lv_at hl 1 rfl) ?_
      obtain ⟨r131, e132, h⟩ := Option.bind_eq_some_iff.mp h
      refine q_callV (As := [.int x2, .int y3]) (rest := [.int ((40 : Int32) * y3), .int (8 : Int32), .ref (eA E 10), .int x1, .ref (eA E 0)]) F hA hP hD hS (c_X10_rowOf (E := E) (l := l) q x2 y3 e132) k_X10_rowOf in_X10_rowOf se_X10_rowOf lm_X10_224 0 (me_0 E q) rfl ⟨rfl, rfl⟩ ⟨by decide, by decide⟩ rfl hl.1 rfl (Nat.le_of_ble_eq_true rfl) dX10_compute_60 ⟨by decide, by decide⟩ ?_
      intro H locs hP hD hS
      refine lv_iadd hx hb dX10_compute_63 ?_
      refine lv_imul hx hb dX10_compute_64 ?_
      refine lv_iload hx hb dX10_compute_65 (lv_at hl 0 rfl) ?_
      refine lv_iadd hx hb dX10_compute_67 ?_
      obtain ⟨y133, e134, h⟩ := Option.bind_eq_some_iff.mp h
      refine r_sald F hP 10 (me_10 E q) e134 dX10_compute_68 ?_
      obtain ⟨r135, e136, h⟩ := Option.bind_eq_some_iff.mp h
      refine q_callV (As := [.int x1, .int y133]) (rest := []) F hA hP hD hS (c_X10_setStep (E := E) (l := l) q x1 y133 e136) k_X10_setStep in_X10_setStep se_X10_setStep lm_X10_220 0 (me_0 E q) rfl ⟨rfl, rfl⟩ ⟨by decide, by decide⟩ rfl hl.1 rfl (Nat.le_of_ble_eq_true rfl) dX10_compute_69 ⟨by decide, by decide⟩ ?_
      intro H locs hP hD hS
      refine lv_goto (tgt := 442) hx hb dX10_compute_72 (by decide) ?_
      cases h
      exact hRt _ _ dX10_compute_442 _ _ hP hD hS
  · rw [if_neg c7] at h
    refine lv_aload_n hx hb dX10_compute_28 rfl (lv_at hl 3 rfl) ?_
    refine lv_iload_n hx hb dX10_compute_29 rfl (lv_at hl 4 rfl) ?_
    refine lv_iload hx hb dX10_compute_30 (lv_at hl 1 rfl) ?_
    obtain ⟨r137, e138, h⟩ := Option.bind_eq_some_iff.mp h
    refine q_callV (As := [.int x1, .int y3]) (rest := []) F hA hP hD hS (c_X10_setStep (E := E) (l := l) q x1 y3 e138) k_X10_setStep in_X10_setStep se_X10_setStep lm_X10_220 0 (me_0 E q) rfl ⟨rfl, rfl⟩ ⟨by decide, by decide⟩ rfl hl.1 rfl (Nat.le_of_ble_eq_true rfl) dX10_compute_32 ⟨by decide, by decide⟩ ?_
    intro H locs hP hD hS
    refine lv_goto (tgt := 442) hx hb dX10_compute_35 (by decide) ?_
    cases h
    exact hRt _ _ dX10_compute_442 _ _ hP hD hS
def f_X10_compute (q : QS) (x1 : Int32) (x2 : Int32) : Option (QS) := f_X10_compute_0 q x1 x2
set_option maxRecDepth 100000 in
theorem c_X10_compute {E : En} {l : Launch} (q : QS) (x1 : Int32) (x2 : Int32) {o : QS} (h : f_X10_compute q x1 x2 = some o) : Ct (wM E) E l yX10_compute (wy yX10_compute cX10_compute 9 none) rm_X10_compute q o [.ref (eA E 0), .int x1, .int x2] none :=
  ct_V (o := o) (by decide +kernel) (fun p e s m below meth c A Q F hA hRt H locs hP hD hS => en_W [.ref (eA E 0), .int x1, .int x2] (Nat.le_of_ble_eq_true rfl) (fun ls hl => g_X10_compute_0 F hA hRt q x1 x2 h ls (lv_sub hl [0, 1, 2] rfl) H locs hP hD hS))
