def rm_X9_reset : Room := { frames := 2, cells := 0, slots := 0, locals := 43 }
def f_X9_reset_0 (q : QS) : Option (QS) :=
  (f_X8_setAllNull 0 q).bind fun r1 =>
  (f_X4_forget (uF (uF r1 14 (0 : Int32)) 2 (0 : Int32))).bind fun r3 =>
  some (uF r3 0 (0 : Int32))
set_option maxHeartbeats 4000000 in
set_option maxRecDepth 100000 in
theorem g_X9_reset_0 {E : En} {p : Program} {l : Launch} {e : Env} {s : State} {m : MethodId} {args : Array Value} {below : List Frame} {meth : Method} {c : Code} {A : Nat → Prop} {Q : State → Prop} (F : Fx E p s m args meth c (yX9_reset).cls cX9_reset 1 none) (hA : ∀ z : Nat, s.heap.size ≤ z → A z) {o : QS} (hRt : RtV (wX E) E p l e rm_X9_reset s m args below meth c A Q cX9_reset o) (q : QS) (h : f_X9_reset_0 q = some o) (ls : Array Slot) (hl : lv_has ls 1 [(0, .ref (eA E 24))]) : Wq (wX E) E p l e rm_X9_reset s m args below meth c A 0 0 Q q (F0 m 0 ls []) := by
  intro H locs hP hD hS
  have hx := F.1
  have hb := F.2.1
  unfold f_X9_reset_0 at h
  refine lv_aload_n hx hb dX9_reset_0 rfl (lv_at hl 0 rfl) ?_
  refine r_get F hP i_X9 24 (xe_24 E q) rfl 0 (by decide) rfl lf_X9_14 rfl dX9_reset_1 ?_
  obtain ⟨r1, e2, h⟩ := Option.bind_eq_some_iff.mp h
  refine q_callV (As := []) (rest := []) F hA hP hD hS (c_X8_setAllNull (E := E) (l := l) (v := 0) (by decide) q e2) k_X8_setAllNull in_X8_setAllNull se_X8_setAllNull lm_X9_55 0 (xe_0 E q) rfl ⟨rfl, rfl⟩ ⟨by decide, by decide⟩ rfl hl.1 rfl (Nat.le_of_ble_eq_true rfl) dX9_reset_4 ⟨by decide, by decide⟩ ?_
  intro H locs hP hD hS
  refine lv_aload_n hx hb dX9_reset_7 rfl (lv_at hl 0 rfl) ?_
  refine r_get F hP i_X9 24 (xe_24 E r1) rfl 1 (by decide) rfl lf_X9_21 rfl dX9_reset_8 ?_
  refine lv_iconst (v := 0) hx hb dX9_reset_11 (by decide) ?_
  refine r_put (ty := .int) (q1 := (uF r1 14 (0 : Int32))) F hP hD hS i_X7 tyX7_ok nmX7 25 (xe_25 E r1) rfl 0 (by decide) rfl lf_X9_58 rfl (by decide +kernel) rfl rfl (Nat.le_of_ble_eq_true rfl) (xf_25_14 E r1 (0 : Int32)) dX9_reset_12 ?_
  intro H locs hP hD hS
  refine lv_aload_n hx hb dX9_reset_15 rfl (lv_at hl 0 rfl) ?_
  refine r_get F hP i_X9 24 (xe_24 E (uF r1 14 (0 : Int32))) rfl 2 (by decide) rfl lf_X9_28 rfl dX9_reset_16 ?_
  refine lv_iconst (v := 0) hx hb dX9_reset_19 (by decide) ?_
  refine r_put (ty := .int) (q1 := (uF (uF r1 14 (0 : Int32)) 2 (0 : Int32))) F hP hD hS i_X2 tyX2_ok nmX2 29 (xe_29 E (uF r1 14 (0 : Int32))) rfl 0 (by decide) rfl lf_X9_62 rfl (by decide +kernel) rfl rfl (Nat.le_of_ble_eq_true rfl) (xf_29_2 E (uF r1 14 (0 : Int32)) (0 : Int32)) dX9_reset_20 ?_
  intro H locs hP hD hS
  refine lv_aload_n hx hb dX9_reset_23 rfl (lv_at hl 0 rfl) ?_
  refine r_get F hP i_X9 24 (xe_24 E (uF (uF r1 14 (0 : Int32)) 2 (0 : Int32))) rfl 3 (by decide) rfl lf_X9_35 rfl dX9_reset_24 ?_
  obtain ⟨r3, e4, h⟩ := Option.bind_eq_some_iff.mp h
  refine q_callV (As := []) (rest := []) F hA hP hD hS (c_X4_forget (E := E) (l := l) (uF (uF r1 14 (0 : Int32)) 2 (0 : Int32)) e4) k_X4_forget in_X4_forget se_X4_forget lm_X9_63 38 (xe_38 E (uF (uF r1 14 (0 : Int32)) 2 (0 : Int32))) rfl ⟨rfl, rfl⟩ ⟨by decide, by decide⟩ rfl hl.1 rfl (Nat.le_of_ble_eq_true rfl) dX9_reset_27 ⟨by decide, by decide⟩ ?_
  intro H locs hP hD hS
  refine lv_aload_n hx hb dX9_reset_30 rfl (lv_at hl 0 rfl) ?_
  refine r_get F hP i_X9 24 (xe_24 E r3) rfl 4 (by decide) rfl lf_X9_42 rfl dX9_reset_31 ?_
  refine lv_iconst (v := 0) hx hb dX9_reset_34 (by decide) ?_
  refine r_put (ty := .int) (q1 := (uF r3 0 (0 : Int32))) F hP hD hS i_X0 tyX0_ok nmX0 44 (xe_44 E r3) rfl 0 (by decide) rfl lf_X9_66 rfl (by decide +kernel) rfl rfl (Nat.le_of_ble_eq_true rfl) (xf_44_0 E r3 (0 : Int32)) dX9_reset_35 ?_
  intro H locs hP hD hS
  cases h
  exact hRt _ _ dX9_reset_38 _ _ hP hD hS
def f_X9_reset (q : QS) : Option (QS) := f_X9_reset_0 q
set_option maxRecDepth 100000 in
theorem c_X9_reset {E : En} {l : Launch} (q : QS) {o : QS} (h : f_X9_reset q = some o) : Ct (wX E) E l yX9_reset (wy yX9_reset cX9_reset 1 none) rm_X9_reset q o [.ref (eA E 24)] none :=
  ct_V (o := o) (by decide +kernel) (fun p e s m below meth c A Q F hA hRt H locs hP hD hS => en_W [.ref (eA E 24)] (Nat.le_of_ble_eq_true rfl) (fun ls hl => g_X9_reset_0 F hA hRt q h ls (lv_sub hl [0] rfl) H locs hP hD hS))
def rm_X9_table : Room := { frames := 2, cells := 0, slots := 0, locals := 48 }
def f_X9_table_0 (q : QS) (x1 : Int32) (x2 : Int32) : Option (Int32 × QS) :=
  (f_X7_create q x1 x2).bind fun r1 =>
  some (r1.1, r1.2)
set_option maxHeartbeats 4000000 in
set_option maxRecDepth 100000 in
theorem g_X9_table_0 {E : En} {p : Program} {l : Launch} {e : Env} {s : State} {m : MethodId} {args : Array Value} {below : List Frame} {meth : Method} {c : Code} {A : Nat → Prop} {Q : State → Prop} (F : Fx E p s m args meth c (yX9_table).cls cX9_table 3 (some .int)) (hA : ∀ z : Nat, s.heap.size ≤ z → A z) {o : Int32 × QS} (hRt : RtI (wX E) E p l e rm_X9_table s m args below meth c A Q cX9_table o) (q : QS) (x1 : Int32) (x2 : Int32) (h : f_X9_table_0 q x1 x2 = some o) (ls : Array Slot) (hl : lv_has ls 3 [(0, .ref (eA E 24)), (1, .int x1), (2, .int x2)]) : Wq (wX E) E p l e rm_X9_table s m args below meth c A 0 0 Q q (F0 m 0 ls []) := by
  intro H locs hP hD hS
  have hx := F.1
  have hb := F.2.1
  unfold f_X9_table_0 at h
  refine lv_aload_n hx hb dX9_table_0 rfl (lv_at hl 0 rfl) ?_
  refine r_get F hP i_X9 24 (xe_24 E q) rfl 1 (by decide) rfl lf_X9_21 rfl dX9_table_1 ?_
  refine lv_iload_n hx hb dX9_table_4 rfl (lv_at hl 1 rfl) ?_
  refine lv_iload_n hx hb dX9_table_5 rfl (lv_at hl 2 rfl) ?_
  obtain ⟨r1, e2, h⟩ := Option.bind_eq_some_iff.mp h
  refine q_callV (As := [.int x1, .int x2]) (rest := []) F hA hP hD hS (c_X7_create (E := E) (l := l) q x1 x2 e2) k_X7_create in_X7_create se_X7_create lm_X9_69 25 (xe_25 E q) rfl ⟨rfl, rfl⟩ ⟨by decide, by decide⟩ rfl hl.1 rfl (Nat.le_of_ble_eq_true rfl) dX9_table_6 ⟨by decide, by decide⟩ ?_
  intro H locs hP hD hS
  cases h
  exact hRt _ _ dX9_table_9 _ _ hP hD hS
def f_X9_table (q : QS) (x1 : Int32) (x2 : Int32) : Option (Int32 × QS) := f_X9_table_0 q x1 x2
set_option maxRecDepth 100000 in
theorem c_X9_table {E : En} {l : Launch} (q : QS) (x1 : Int32) (x2 : Int32) {o : Int32 × QS} (h : f_X9_table q x1 x2 = some o) : Ct (wX E) E l yX9_table (wy yX9_table cX9_table 3 (some .int)) rm_X9_table q o.2 [.ref (eA E 24), .int x1, .int x2] (some (.int o.1)) :=
  ct_I (o := o) (by decide +kernel) rfl (fun p e s m below meth c A Q F hA hRt H locs hP hD hS => en_W [.ref (eA E 24), .int x1, .int x2] (Nat.le_of_ble_eq_true rfl) (fun ls hl => g_X9_table_0 F hA hRt q x1 x2 h ls (lv_sub hl [0, 1, 2] rfl) H locs hP hD hS))
def rm_X9_clear : Room := { frames := 2, cells := 0, slots := 0, locals := 43 }
def f_X9_clear_0 (q : QS) : Option (QS) :=
  (f_X8_setAllNull 0 q).bind fun r1 =>
  some r1
set_option maxHeartbeats 4000000 in
set_option maxRecDepth 100000 in
theorem g_X9_clear_0 {E : En} {p : Program} {l : Launch} {e : Env} {s : State} {m : MethodId} {args : Array Value} {below : List Frame} {meth : Method} {c : Code} {A : Nat → Prop} {Q : State → Prop} (F : Fx E p s m args meth c (yX9_clear).cls cX9_clear 1 none) (hA : ∀ z : Nat, s.heap.size ≤ z → A z) {o : QS} (hRt : RtV (wX E) E p l e rm_X9_clear s m args below meth c A Q cX9_clear o) (q : QS) (h : f_X9_clear_0 q = some o) (ls : Array Slot) (hl : lv_has ls 1 [(0, .ref (eA E 24))]) : Wq (wX E) E p l e rm_X9_clear s m args below meth c A 0 0 Q q (F0 m 0 ls []) := by
  intro H locs hP hD hS
  have hx := F.1
  have hb := F.2.1
  unfold f_X9_clear_0 at h
  refine lv_aload_n hx hb dX9_clear_0 rfl (lv_at hl 0 rfl) ?_
  refine r_get F hP i_X9 24 (xe_24 E q) rfl 0 (by decide) rfl lf_X9_14 rfl dX9_clear_1 ?_
  obtain ⟨r1, e2, h⟩ := Option.bind_eq_some_iff.mp h
  refine q_callV (As := []) (rest := []) F hA hP hD hS (c_X8_setAllNull (E := E) (l := l) (v := 0) (by decide) q e2) k_X8_setAllNull in_X8_setAllNull se_X8_setAllNull lm_X9_55 0 (xe_0 E q) rfl ⟨rfl, rfl⟩ ⟨by decide, by decide⟩ rfl hl.1 rfl (Nat.le_of_ble_eq_true rfl) dX9_clear_4 ⟨by decide, by decide⟩ ?_
  intro H locs hP hD hS
  cases h
  exact hRt _ _ dX9_clear_7 _ _ hP hD hS
def f_X9_clear (q : QS) : Option (QS) := f_X9_clear_0 q
set_option maxRecDepth 100000 in
theorem c_X9_clear {E : En} {l : Launch} (q : QS) {o : QS} (h : f_X9_clear q = some o) : Ct (wX E) E l yX9_clear (wy yX9_clear cX9_clear 1 none) rm_X9_clear q o [.ref (eA E 24)] none :=
  ct_V (o := o) (by decide +kernel) (fun p e s m below meth c A Q F hA hRt H locs hP hD hS => en_W [.ref (eA E 24)] (Nat.le_of_ble_eq_true rfl) (fun ls hl => g_X9_clear_0 F hA hRt q h ls (lv_sub hl [0] rfl) H locs hP hD hS))
def rm_X9_isCell : Room := { frames := 0, cells := 0, slots := 0, locals := 0 }
def f_X9_isCell_0 (x0 : Int32) : Option (Int32) :=
  if x0 < 0 then
    some (0 : Int32)
  else
    if (8 : Int32) ≤ x0 then
      some (0 : Int32)
    else
      some (1 : Int32)
set_option maxHeartbeats 4000000 in
set_option maxRecDepth 100000 in
theorem g_X9_isCell_0 {E : En} {p : Program} {l : Launch} {e : Env} {s : State} {m : MethodId} {args : Array Value} {below : List Frame} {meth : Method} {c : Code} {A : Nat → Prop} {Q : State → Prop} (F : Fx E p s m args meth c (yX9_isCell).cls cX9_isCell 1 (some .boolean)) (hA : ∀ z : Nat, s.heap.size ≤ z → A z) {q : QS} {o : Int32} (hRt : RtZ (wX E) E p l e rm_X9_isCell s m args below meth c A Q cX9_isCell (o, q)) (x0 : Int32) (h : f_X9_isCell_0 x0 = some o) (ls : Array Slot) (hl : lv_has ls 1 [(0, .int x0)]) : Wq (wX E) E p l e rm_X9_isCell s m args below meth c A 0 0 Q q (F0 m 0 ls []) := by
  intro H locs hP hD hS
  have hx := F.1
  have hb := F.2.1
  unfold f_X9_isCell_0 at h
  refine lv_iload_n hx hb dX9_isCell_0 rfl (lv_at hl 0 rfl) ?_
  refine lv_if_lt (tgt := 14) hx hb dX9_isCell_1 (by decide) (fun c1 => ?_) (fun c1 => ?_)
  · rw [if_pos c1] at h
    refine lv_iconst (v := 0) hx hb dX9_isCell_14 (by decide) ?_
    cases h
    exact hRt _ _ zz_0 dX9_isCell_15 _ _ hP hD hS
  · rw [if_neg c1] at h
    refine lv_iload_n hx hb dX9_isCell_4 rfl (lv_at hl 0 rfl) ?_
    refine lv_bipush (v := 8) hx hb dX9_isCell_5 (by decide) ?_
    refine lv_icmp_ge (tgt := 14) hx hb dX9_isCell_7 (by decide) (fun c2 => ?_) (fun c2 => ?_)
    · rw [if_pos c2] at h
      refine lv_iconst (v := 0) hx hb dX9_isCell_14 (by decide) ?_
      cases h
      exact hRt _ _ zz_0 dX9_isCell_15 _ _ hP hD hS
    · rw [if_neg c2] at h
      refine lv_iconst (v := 1) hx hb dX9_isCell_10 (by decide) ?_
      refine lv_goto (tgt := 15) hx hb dX9_isCell_11 (by decide) ?_
      cases h
      exact hRt _ _ zz_1 dX9_isCell_15 _ _ hP hD hS
def f_X9_isCell (x0 : Int32) : Option (Int32) := f_X9_isCell_0 x0
set_option maxRecDepth 100000 in
theorem c_X9_isCell {E : En} {l : Launch} (q : QS) (x0 : Int32) {o : Int32} (h : f_X9_isCell x0 = some o) : Ct (wX E) E l yX9_isCell (wy yX9_isCell cX9_isCell 1 (some .boolean)) rm_X9_isCell q q [.int x0] (some (.int o)) :=
  ct_Z (o := (o, q)) (by decide +kernel) (fun p e s m below meth c A Q F hA hRt H locs hP hD hS => en_W [.int x0] (Nat.le_of_ble_eq_true rfl) (fun ls hl => g_X9_isCell_0 F hA hRt x0 h ls (lv_sub hl [0] rfl) H locs hP hD hS))
def rm_X9_cell : Room := { frames := 1, cells := 0, slots := 0, locals := 23 }
def f_X9_cell_0 (q : QS) (x1 : Int32) (x2 : Int64) : Option (Int32 × QS) :=
  (f_X9_isCell x1).bind fun r1 =>
  if r1 = 0 then
    some ((0 : Int32), q)
  else
    (f_X8_setNumber 0 q x1 x2).bind fun r4 =>
    some ((1 : Int32), r4)
set_option maxHeartbeats 4000000 in
set_option maxRecDepth 100000 in
theorem g_X9_cell_0 {E : En} {p : Program} {l : Launch} {e : Env} {s : State} {m : MethodId} {args : Array Value} {below : List Frame} {meth : Method} {c : Code} {A : Nat → Prop} {Q : State → Prop} (F : Fx E p s m args meth c (yX9_cell).cls cX9_cell 4 (some .boolean)) (hA : ∀ z : Nat, s.heap.size ≤ z → A z) {o : Int32 × QS} (hRt : RtZ (wX E) E p l e rm_X9_cell s m args below meth c A Q cX9_cell o) (q : QS) (x1 : Int32) (x2 : Int64) (h : f_X9_cell_0 q x1 x2 = some o) (ls : Array Slot) (hl : lv_has ls 4 [(0, .ref (eA E 24)), (1, .int x1), (2, .long x2)]) : Wq (wX E) E p l e rm_X9_cell s m args below meth c A 0 0 Q q (F0 m 0 ls []) := by
  intro H locs hP hD hS
  have hx := F.1
  have hb := F.2.1
  unfold f_X9_cell_0 at h
  refine lv_iload_n hx hb dX9_cell_0 rfl (lv_at hl 1 rfl) ?_
  obtain ⟨r1, e2, h⟩ := Option.bind_eq_some_iff.mp h
  refine q_callS (As := [.int x1]) (rest := []) F hA hP hD hS (c_X9_isCell (E := E) (l := l) q x1 e2) k_X9_isCell st_X9_isCell lm_X9_73 ⟨rfl, rfl⟩ ⟨by decide, by decide⟩ rfl hl.1 rfl (Nat.le_of_ble_eq_true rfl) dX9_cell_1 ⟨by decide, by decide⟩ ?_
  intro H locs hP hD hS
  refine lv_if_ne (tgt := 9) hx hb dX9_cell_4 (by decide) (fun c3 => ?_) (fun c3 => ?_)
  · rw [if_neg c3] at h
    refine lv_aload_n hx hb dX9_cell_9 rfl (lv_at hl 0 rfl) ?_
    refine r_get F hP i_X9 24 (xe_24 E q) rfl 0 (by decide) rfl lf_X9_14 rfl dX9_cell_10 ?_
    refine lv_iload_n hx hb dX9_cell_13 rfl (lv_at hl 1 rfl) ?_
    refine lv_lload_n hx hb dX9_cell_14 rfl (lv_at hl 2 rfl) ?_
    obtain ⟨r4, e5, h⟩ := Option.bind_eq_some_iff.mp h
    refine q_callV (As := [.int x1, .long x2]) (rest := []) F hA hP hD hS (c_X8_setNumber (E := E) (l := l) (v := 0) (by decide) q x1 x2 e5) k_X8_setNumber in_X8_setNumber se_X8_setNumber lm_X9_77 0 (xe_0 E q) rfl ⟨rfl, rfl⟩ ⟨by decide, by decide⟩ rfl hl.1 rfl (Nat.le_of_ble_eq_true rfl) dX9_cell_15 ⟨by decide, by decide⟩ ?_
    intro H locs hP hD hS
    refine lv_iconst (v := 1) hx hb dX9_cell_18 (by decide) ?_
    cases h
    exact hRt _ _ zz_1 dX9_cell_19 _ _ hP hD hS
  · rw [if_pos c3] at h
    refine lv_iconst (v := 0) hx hb dX9_cell_7 (by decide) ?_
    cases h
    exact hRt _ _ zz_0 dX9_cell_8 _ _ hP hD hS
def f_X9_cell (q : QS) (x1 : Int32) (x2 : Int64) : Option (Int32 × QS) := f_X9_cell_0 q x1 x2
set_option maxRecDepth 100000 in
theorem c_X9_cell {E : En} {l : Launch} (q : QS) (x1 : Int32) (x2 : Int64) {o : Int32 × QS} (h : f_X9_cell q x1 x2 = some o) : Ct (wX E) E l yX9_cell (wy yX9_cell cX9_cell 4 (some .boolean)) rm_X9_cell q o.2 [.ref (eA E 24), .int x1, .long x2] (some (.int o.1)) :=
  ct_Z (o := o) (by decide +kernel) (fun p e s m below meth c A Q F hA hRt H locs hP hD hS => en_W [.ref (eA E 24), .int x1, .long x2] (Nat.le_of_ble_eq_true rfl) (fun ls hl => g_X9_cell_0 F hA hRt q x1 x2 h ls (lv_sub hl [0, 1, 2] rfl) H locs hP hD hS))
def rm_X9_truth : Room := { frames := 1, cells := 0, slots := 0, locals := 22 }
def f_X9_truth_0 (q : QS) (x1 : Int32) (x2 : Int32) : Option (Int32 × QS) :=
  (f_X9_isCell x1).bind fun r1 =>
  if r1 = 0 then
    some ((0 : Int32), q)
  else
    (f_X8_setTruth 0 q x1 x2).bind fun r4 =>
    some ((1 : Int32), r4)
set_option maxHeartbeats 4000000 in
set_option maxRecDepth 100000 in
theorem g_X9_truth_0 {E : En} {p : Program} {l : Launch} {e : Env} {s : State} {m : MethodId} {args : Array Value} {below : List Frame} {meth : Method} {c : Code} {A : Nat → Prop} {Q : State → Prop} (F : Fx E p s m args meth c (yX9_truth).cls cX9_truth 3 (some .boolean)) (hA : ∀ z : Nat, s.heap.size ≤ z → A z) {o : Int32 × QS} (hRt : RtZ (wX E) E p l e rm_X9_truth s m args below meth c A Q cX9_truth o) (q : QS) (x1 : Int32) (x2 : Int32) (h : f_X9_truth_0 q x1 x2 = some o) (ls : Array Slot) (hl : lv_has ls 3 [(0, .ref (eA E 24)), (1, .int x1), (2, .int x2)]) : Wq (wX E) E p l e rm_X9_truth s m args below meth c A 0 0 Q q (F0 m 0 ls []) := by
  intro H locs hP hD hS
  have hx := F.1
  have hb := F.2.1
  unfold f_X9_truth_0 at h
  refine lv_iload_n hx hb dX9_truth_0 rfl (lv_at hl 1 rfl) ?_
  obtain ⟨r1, e2, h⟩ := Option.bind_eq_some_iff.mp h
  refine q_callS (As := [.int x1]) (rest := []) F hA hP hD hS (c_X9_isCell (E := E) (l := l) q x1 e2) k_X9_isCell st_X9_isCell lm_X9_73 ⟨rfl, rfl⟩ ⟨by decide, by decide⟩ rfl hl.1 rfl (Nat.le_of_ble_eq_true rfl) dX9_truth_1 ⟨by decide, by decide⟩ ?_
  intro H locs hP hD hS
  refine lv_if_ne (tgt := 9) hx hb dX9_truth_4 (by decide) (fun c3 => ?_) (fun c3 => ?_)
  · rw [if_neg c3] at h
    refine lv_aload_n hx hb dX9_truth_9 rfl (lv_at hl 0 rfl) ?_
    refine r_get F hP i_X9 24 (xe_24 E q) rfl 0 (by decide) rfl lf_X9_14 rfl dX9_truth_10 ?_
    refine lv_iload_n hx hb dX9_truth_13 rfl (lv_at hl 1 rfl) ?_
    refine lv_iload_n hx hb dX9_truth_14 rfl (lv_at hl 2 rfl) ?_
    obtain ⟨r4, e5, h⟩ := Option.bind_eq_some_iff.mp h
    refine q_callV (As := [.int x1, .int x2]) (rest := []) F hA hP hD hS (c_X8_setTruth (E := E) (l := l) (v := 0) (by decide) q x1 x2 e5) k_X8_setTruth in_X8_setTruth se_X8_setTruth lm_X9_81 0 (xe_0 E q) rfl ⟨rfl, rfl⟩ ⟨by decide, by decide⟩ rfl hl.1 rfl (Nat.le_of_ble_eq_true rfl) dX9_truth_15 ⟨by decide, by decide⟩ ?_
    intro H locs hP hD hS
    refine lv_iconst (v := 1) hx hb dX9_truth_18 (by decide) ?_
    cases h
    exact hRt _ _ zz_1 dX9_truth_19 _ _ hP hD hS
  · rw [if_pos c3] at h
    refine lv_iconst (v := 0) hx hb dX9_truth_7 (by decide) ?_
    cases h
    exact hRt _ _ zz_0 dX9_truth_8 _ _ hP hD hS
def f_X9_truth (q : QS) (x1 : Int32) (x2 : Int32) : Option (Int32 × QS) := f_X9_truth_0 q x1 x2
set_option maxRecDepth 100000 in
theorem c_X9_truth {E : En} {l : Launch} (q : QS) (x1 : Int32) (x2 : Int32) {o : Int32 × QS} (h : f_X9_truth q x1 x2 = some o) : Ct (wX E) E l yX9_truth (wy yX9_truth cX9_truth 3 (some .boolean)) rm_X9_truth q o.2 [.ref (eA E 24), .int x1, .int x2] (some (.int o.1)) :=
  ct_Z (o := o) (by decide +kernel) (fun p e s m below meth c A Q F hA hRt H locs hP hD hS => en_W [.ref (eA E 24), .int x1, .int x2] (Nat.le_of_ble_eq_true rfl) (fun ls hl => g_X9_truth_0 F hA hRt q x1 x2 h ls (lv_sub hl [0, 1, 2] rfl) H locs hP hD hS))
def rm_X9_text : Room := { frames := 1, cells := 0, slots := 0, locals := 24 }
def f_X9_text_83_b (B83 : QS → Int32 → Int64 → Int32 → Option (Int32 × QS)) (q : QS) (x1 : Int32) (x2 : Int64) (x6 : Int32) : Option (Int32 × QS) :=
  if x6 < 0 then
    some ((1 : Int32), q)
  else
    (f_X8_appendByte 0 q x1 ((((((x2).toUInt64 >>> ((((8 : Int32) * x6)).toInt64.toUInt64 &&& Int64.toUInt64 63)).toInt64)).toInt32) &&& (255 : Int32))).bind fun r12 =>
    B83 r12 x1 x2 (x6 + (-1 : Int32))
set_option maxHeartbeats 4000000 in
set_option maxRecDepth 100000 in
theorem g_X9_text_83_b {E : En} {p : Program} {l : Launch} {e : Env} {s : State} {m : MethodId} {args : Array Value} {below : List Frame} {meth : Method} {c : Code} {A : Nat → Prop} {Q : State → Prop} (F : Fx E p s m args meth c (yX9_text).cls cX9_text 7 (some .boolean)) (hA : ∀ z : Nat, s.heap.size ≤ z → A z) {o : Int32 × QS} (hRt : RtZ (wX E) E p l e rm_X9_text s m args below meth c A Q cX9_text o) {B83 : QS → Int32 → Int64 → Int32 → Option (Int32 × QS)} (hB83 : ∀ (q : QS) (x1 : Int32) (x2 : Int64) (x6 : Int32), B83 q x1 x2 x6 = some o → ∀ ls : Array Slot, lv_has ls 7 [(0, .ref (eA E 24)), (1, .int x1), (2, .long x2), (6, .int x6)] → Wq (wX E) E p l e rm_X9_text s m args below meth c A 0 0 Q q (F0 m 83 ls [])) (q : QS) (x1 : Int32) (x2 : Int64) (x6 : Int32) (h : f_X9_text_83_b B83 q x1 x2 x6 = some o) (ls : Array Slot) (hl : lv_has ls 7 [(0, .ref (eA E 24)), (1, .int x1), (2, .long x2), (6, .int x6)]) : Wq (wX E) E p l e rm_X9_text s m args below meth c A 0 0 Q q (F0 m 83 ls []) := by
  intro H locs hP hD hS
  have hx := F.1
  have hb := F.2.1
  unfold f_X9_text_83_b at h
  refine lv_iload hx hb dX9_text_83 (lv_at hl 3 rfl) ?_
  refine lv_if_lt (tgt := 114) hx hb dX9_text_85 (by decide) (fun c11 => ?_) (fun c11 => ?_)
  · rw [if_pos c11] at h
    refine lv_iconst (v := 1) hx hb dX9_text_114 (by decide) ?_
    cases h
    exact hRt _ _ zz_1 dX9_text_115 _ _ hP hD hS
  · rw [if_neg c11] at h
    refine lv_aload_n hx hb dX9_text_88 rfl (lv_at hl 0 rfl) ?_
    refine r_get F hP i_X9 24 (xe_24 E q) rfl 0 (by decide) rfl lf_X9_14 rfl dX9_text_89 ?_
    refine lv_iload_n hx hb dX9_text_92 rfl (lv_at hl 1 rfl) ?_
    refine lv_lload_n hx hb dX9_text_93 rfl (lv_at hl 2 rfl) ?_
    refine lv_bipush (v := 8) hx hb dX9_text_94 (by decide) ?_
    refine lv_iload hx hb dX9_text_96 (lv_at hl 3 rfl) ?_
    refine lv_imul hx hb dX9_text_98 ?_
    refine lv_lushr (v := (((x2).toUInt64 >>> ((((8 : Int32) * x6)).toInt64.toUInt64 &&& Int64.toUInt64 63)).toInt64)) hx hb dX9_text_99 rfl ?_
    refine lv_l2i (v := (((((x2).toUInt64 >>> ((((8 : Int32) * x6)).toInt64.toUInt64 &&& Int64.toUInt64 63)).toInt64)).toInt32)) hx hb dX9_text_100 rfl ?_
    refine lv_sipush (v := 255) hx hb dX9_text_101 (by decide) ?_
    refine lv_iand hx hb dX9_text_104 ?_
    obtain ⟨r12, e13, h⟩ := Option.bind_eq_some_iff.mp h
    refine q_callV (As := [.int x1, .int ((((((x2).toUInt64 >>> ((((8 : Int32) * x6)).toInt64.toUInt64 &&& Int64.toUInt64 63)).toInt64)).toInt32) &&& (255 : Int32))]) (rest := []) F hA hP hD hS (c_X8_appendByte (E := E) (l := l) (v := 0) (by decide) q x1 ((((((x2).toUInt64 >>> ((((8 : Int32) * x6)).toInt64.toUInt64 &&& Int64.toUInt64 63)).toInt64)).toInt32) &&& (255 : Int32)) e13) k_X8_appendByte in_X8_appendByte se_X8_appendByte lm_X9_96 0 (xe_0 E q) rfl ⟨rfl, rfl⟩ ⟨by decide, by decide⟩ rfl hl.1 rfl (Nat.le_of_ble_eq_true rfl) dX9_text_105 ⟨by decide, by decide⟩ ?_
    intro H locs hP hD hS
    refine lv_iinc (v := (x6 + (-1 : Int32))) (lv' := [(6, .int (x6 + (-1 : Int32))), (0, .ref (eA E 24)), (1, .int x1), (2, .long x2)]) hx hb dX9_text_108 hl (k := 3) rfl rfl (by decide) rfl (fun ls hl => ?_)
    refine lv_goto (tgt := 83) hx hb dX9_text_111 (by decide) ?_
    exact hB83 r12 x1 x2 (x6 + (-1 : Int32)) h _ (lv_sub hl [1, 2, 3, 0] rfl) _ _ hP hD hS
def f_X9_text_83 : Nat → QS → Int32 → Int64 → Int32 → Option (Int32 × QS)
  | 0 => fun _ _ _ _ => none
  | n + 1 => f_X9_text_83_b (f_X9_text_83 n)
theorem g_X9_text_83 {E : En} {p : Program} {l : Launch} {e : Env} {s : State} {m : MethodId} {args : Array Value} {below : List Frame} {meth : Method} {c : Code} {A : Nat → Prop} {Q : State → Prop} (F : Fx E p s m args meth c (yX9_text).cls cX9_text 7 (some .boolean)) (hA : ∀ z : Nat, s.heap.size ≤ z → A z) {o : Int32 × QS} (hRt : RtZ (wX E) E p l e rm_X9_text s m args below meth c A Q cX9_text o) (n : Nat) : ∀ (q : QS) (x1 : Int32) (x2 : Int64) (x6 : Int32), f_X9_text_83 n q x1 x2 x6 = some o → ∀ ls : Array Slot, lv_has ls 7 [(0, .ref (eA E 24)), (1, .int x1), (2, .long x2), (6, .int x6)] → Wq (wX E) E p l e rm_X9_text s m args below meth c A 0 0 Q q (F0 m 83 ls []) := by
  induction n with
  | zero => intro q x1 x2 x6 h; cases h
  | succ n ih => intro q x1 x2 x6 h; exact g_X9_text_83_b F hA hRt ih q x1 x2 x6 h
def f_X9_text_77 (q : QS) (x1 : Int32) (x2 : Int64) (x4 : Int32) : Option (Int32 × QS) :=
  f_X9_text_83 FU q x1 x2 (x4 - (1 : Int32))
set_option maxHeartbeats 4000000 in
set_option maxRecDepth 100000 in
theorem g_X9_text_77 {E : En} {p : Program} {l : Launch} {e : Env} {s : State} {m : MethodId} {args : Array Value} {below : List Frame} {meth : Method} {c : Code} {A : Nat → Prop} {Q : State → Prop} (F : Fx E p s m args meth c (yX9_text).cls cX9_text 7 (some .boolean)) (hA : ∀ z : Nat, s.heap.size ≤ z → A z) {o : Int32 × QS} (hRt : RtZ (wX E) E p l e rm_X9_text s m args below meth c A Q cX9_text o) (q : QS) (x1 : Int32) (x2 : Int64) (x4 : Int32) (h : f_X9_text_77 q x1 x2 x4 = some o) (ls : Array Slot) (hl : lv_has ls 7 [(0, .ref (eA E 24)), (1, .int x1), (2, .long x2), (4, .int x4)]) : Wq (wX E) E p l e rm_X9_text s m args below meth c A 0 0 Q q (F0 m 77 ls []) := by
  intro H locs hP hD hS
  have hx := F.1
  have hb := F.2.1
  unfold f_X9_text_77 at h
  refine lv_iload hx hb dX9_text_77 (lv_at hl 3 rfl) ?_
  refine lv_iconst (v := 1) hx hb dX9_text_79 (by decide) ?_
  refine lv_isub hx hb dX9_text_80 ?_
  refine lv_istore (lv' := [(6, .int (x4 - (1 : Int32))), (0, .ref (eA E 24)), (1, .int x1), (2, .long x2), (4, .int x4)]) hx hb dX9_text_81 hl (by decide) rfl (fun ls hl => ?_)
  exact g_X9_text_83 F hA hRt FU q x1 x2 (x4 - (1 : Int32)) h _ (lv_sub hl [1, 2, 3, 0] rfl) _ _ hP hD hS
def f_X9_text_64 (q : QS) (x1 : Int32) (x2 : Int64) (x4 : Int32) (x5 : Int32) : Option (Int32 × QS) :=
  if x5 = 0 then
    (f_X8_setEmptyText 0 q x1).bind fun r14 =>
    f_X9_text_77 r14 x1 x2 x4
  else
    f_X9_text_77 q x1 x2 x4
set_option maxHeartbeats 4000000 in
set_option maxRecDepth 100000 in
theorem g_X9_text_64 {E : En} {p : Program} {l : Launch} {e : Env} {s : State} {m : MethodId} {args : Array Value} {below : List Frame} {meth : Method} {c : Code} {A : Nat → Prop} {Q : State → Prop} (F : Fx E p s m args meth c (yX9_text).cls cX9_text 7 (some .boolean)) (hA : ∀ z : Nat, s.heap.size ≤ z → A z) {o : Int32 × QS} (hRt : RtZ (wX E) E p l e rm_X9_text s m args below meth c A Q cX9_text o) (q : QS) (x1 : Int32) (x2 : Int64) (x4 : Int32) (x5 : Int32) (h : f_X9_text_64 q x1 x2 x4 x5 = some o) (ls : Array Slot) (hl : lv_has ls 7 [(0, .ref (eA E 24)), (1, .int x1), (2, .long x2), (4, .int x4), (5, .int x5)]) : Wq (wX E) E p l e rm_X9_text s m args below meth c A 0 0 Q q (F0 m 64 ls []) := by
  intro H locs hP hD hS
  have hx := F.1
  have hb := F.2.1
  unfold f_X9_text_64 at h
  refine lv_iload hx hb dX9_text_64 (lv_at hl 4 rfl) ?_
  refine lv_if_ne (tgt := 77) hx hb dX9_text_66 (by decide) (fun c10 => ?_) (fun c10 => ?_)
  · rw [if_neg c10] at h
    exact g_X9_text_77 F hA hRt q x1 x2 x4 h _ (lv_sub hl [0, 1, 2, 3] rfl) _ _ hP hD hS
  · rw [if_pos c10] at h
    refine lv_aload_n hx hb dX9_text_69 rfl (lv_at hl 0 rfl) ?_
    refine r_get F hP i_X9 24 (xe_24 E q) rfl 0 (by decide) rfl lf_X9_14 rfl dX9_text_70 ?_
    refine lv_iload_n hx hb dX9_text_73 rfl (lv_at hl 1 rfl) ?_
    obtain ⟨r14, e15, h⟩ := Option.bind_eq_some_iff.mp h
    refine q_callV (As := [.int x1]) (rest := []) F hA hP hD hS (c_X8_setEmptyText (E := E) (l := l) (v := 0) (by decide) q x1 e15) k_X8_setEmptyText in_X8_setEmptyText se_X8_setEmptyText lm_X9_93 0 (xe_0 E q) rfl ⟨rfl, rfl⟩ ⟨by decide, by decide⟩ rfl hl.1 rfl (Nat.le_of_ble_eq_true rfl) dX9_text_74 ⟨by decide, by decide⟩ ?_
    intro H locs hP hD hS
    exact g_X9_text_77 F hA hRt r14 x1 x2 x4 h _ (lv_sub hl [0, 1, 2, 3] rfl) _ _ hP hD hS
def f_X9_text_39 (q : QS) (x1 : Int32) (x2 : Int64) (x4 : Int32) (t0 : Int32) : Option (Int32 × QS) :=
  if t0 = 0 then
    f_X9_text_64 q x1 x2 x4 t0
  else
    (f_X8_lengthOf 0 q x1).bind fun r16 =>
    if (r16 + x4) ≤ (31 : Int32) then
      f_X9_text_64 q x1 x2 x4 t0
    else
      some ((0 : Int32), q)
set_option maxHeartbeats 4000000 in
set_option maxRecDepth 100000 in
theorem g_X9_text_39 {E : En} {p : Program} {l : Launch} {e : Env} {s : State} {m : MethodId} {args : Array Value} {below : List Frame} {meth : Method} {c : Code} {A : Nat → Prop} {Q : State → Prop} (F : Fx E p s m args meth c (yX9_text).cls cX9_text 7 (some .boolean)) (hA : ∀ z : Nat, s.heap.size ≤ z → A z) {o : Int32 × QS} (hRt : RtZ (wX E) E p l e rm_X9_text s m args below meth c A Q cX9_text o) (q : QS) (x1 : Int32) (x2 : Int64) (x4 : Int32) (t0 : Int32) (h : f_X9_text_39 q x1 x2 x4 t0 = some o) (ls : Array Slot) (hl : lv_has ls 7 [(0, .ref (eA E 24)), (1, .int x1), (2, .long x2), (4, .int x4)]) : Wq (wX E) E p l e rm_X9_text s m args below meth c A 0 0 Q q (F0 m 39 ls [.int t0]) := by
  intro H locs hP hD hS
  have hx := F.1
  have hb := F.2.1
  unfold f_X9_text_39 at h
  refine lv_istore (lv' := [(5, .int t0), (0, .ref (eA E 24)), (1, .int x1), (2, .long x2), (4, .int x4)]) hx hb dX9_text_39 hl (by decide) rfl (fun ls hl => ?_)
  refine lv_iload hx hb dX9_text_41 (lv_at hl 0 rfl) ?_
  refine lv_if_eq (tgt := 64) hx hb dX9_text_43 (by decide) (fun c9 => ?_) (fun c9 => ?_)
  · rw [if_pos c9] at h
    exact g_X9_text_64 F hA hRt q x1 x2 x4 t0 h _ (lv_sub hl [1, 2, 3, 4, 0] rfl) _ _ hP hD hS
  · rw [if_neg c9] at h
    refine lv_aload_n hx hb dX9_text_46 rfl (lv_at hl 1 rfl) ?_
    refine r_get F hP i_X9 24 (xe_24 E q) rfl 0 (by decide) rfl lf_X9_14 rfl dX9_text_47 ?_
    refine lv_iload_n hx hb dX9_text_50 rfl (lv_at hl 2 rfl) ?_
    obtain ⟨r16, e17, h⟩ := Option.bind_eq_some_iff.mp h
    refine q_callV (As := [.int x1]) (rest := []) F hA hP hD hS (c_X8_lengthOf (E := E) (l := l) (v := 0) (by decide) q x1 e17) k_X8_lengthOf in_X8_lengthOf se_X8_lengthOf lm_X9_89 0 (xe_0 E q) rfl ⟨rfl, rfl⟩ ⟨by decide, by decide⟩ rfl hl.1 rfl (Nat.le_of_ble_eq_true rfl) dX9_text_51 ⟨by decide, by decide⟩ ?_
    intro H locs hP hD hS
    refine lv_iload hx hb dX9_text_54 (lv_at hl 4 rfl) ?_
    refine lv_iadd hx hb dX9_text_56 ?_
    refine lv_bipush (v := 31) hx hb dX9_text_57 (by decide) ?_
    refine lv_icmp_le (tgt := 64) hx hb dX9_text_59 (by decide) (fun c18 => ?_) (fun c18 => ?_)
    · rw [if_pos c18] at h
      exact g_X9_text_64 F hA hRt q x1 x2 x4 t0 h _ (lv_sub hl [1, 2, 3, 4, 0] rfl) _ _ hP hD hS
    · rw [if_neg c18] at h
      refine lv_iconst (v := 0) hx hb dX9_text_62 (by decide) ?_
      cases h
      exact hRt _ _ zz_0 dX9_text_63 _ _ hP hD hS
def f_X9_text_0 (q : QS) (x1 : Int32) (x2 : Int64) (x4 : Int32) : Option (Int32 × QS) :=
  (f_X9_isCell x1).bind fun r1 =>
  if r1 = 0 then
    some ((0 : Int32), q)
  else
    if x4 < 0 then
      some ((0 : Int32), q)
    else
      if x4 ≤ (8 : Int32) then
        (rd (qI q 1) 8 x1).bind fun y6 =>
        if y6 = (2 : Int32) then
          f_X9_text_39 q x1 x2 x4 (1 : Int32)
        else
          f_X9_text_39 q x1 x2 x4 (0 : Int32)
      else
        some ((0 : Int32), q)
set_option maxHeartbeats 4000000 in
set_option maxRecDepth 100000 in
theorem g_X9_text_0 {E : En} {p : Program} {l : Launch} {e : Env} {s : State} {m : MethodId} {args : Array Value} {below : List Frame} {meth : Method} {c : Code} {A : Nat → Prop} {Q : State → Prop} (F : Fx E p s m args meth c (yX9_text).cls cX9_text 7 (some .boolean)) (hA : ∀ z : Nat, s.heap.size ≤ z → A z) {o : Int32 × QS} (hRt : RtZ (wX E) E p l e rm_X9_text s m args below meth c A Q cX9_text o) (q : QS) (x1 : Int32) (x2 : Int64) (x4 : Int32) (h : f_X9_text_0 q x1 x2 x4 = some o) (ls : Array Slot) (hl : lv_has ls 7 [(0, .ref (eA E 24)), (1, .int x1), (2, .long x2), (4, .int x4)]) : Wq (wX E) E p l e rm_X9_text s m args below meth c A 0 0 Q q (F0 m 0 ls []) := by
  intro H locs hP hD hS
  have hx := F.1
  have hb := F.2.1
  unfold f_X9_text_0 at h
  refine lv_iload_n hx hb dX9_text_0 rfl (lv_at hl 1 rfl) ?_
  obtain ⟨r1, e2, h⟩ := Option.bind_eq_some_iff.mp h
  refine q_callS (As := [.int x1]) (rest := []) F hA hP hD hS (c_X9_isCell (E := E) (l := l) q x1 e2) k_X9_isCell st_X9_isCell lm_X9_73 ⟨rfl, rfl⟩ ⟨by decide, by decide⟩ rfl hl.1 rfl (Nat.le_of_ble_eq_true rfl) dX9_text_1 ⟨by decide, by decide⟩ ?_
  intro H locs hP hD hS
  refine lv_if_eq (tgt := 19) hx hb dX9_text_4 (by decide) (fun c3 => ?_) (fun c3 => ?_)
  · rw [if_pos c3] at h
    refine lv_iconst (v := 0) hx hb dX9_text_19 (by decide) ?_
    cases h
    exact hRt _ _ zz_0 dX9_text_20 _ _ hP hD hS
  · rw [if_neg c3] at h
    refine lv_iload hx hb dX9_text_7 (lv_at hl 3 rfl) ?_
    refine lv_if_lt (tgt := 19) hx hb dX9_text_9 (by decide) (fun c4 => ?_) (fun c4 => ?_)
    · rw [if_pos c4] at h
      refine lv_iconst (v := 0) hx hb dX9_text_19 (by decide) ?_
      cases h
      exact hRt _ _ zz_0 dX9_text_20 _ _ hP hD hS
    · rw [if_neg c4] at h
      refine lv_iload hx hb dX9_text_12 (lv_at hl 3 rfl) ?_
      refine lv_bipush (v := 8) hx hb dX9_text_14 (by decide) ?_
      refine lv_icmp_le (tgt := 21) hx hb dX9_text_16 (by decide) (fun c5 => ?_) (fun c5 => ?_)
      · rw [if_pos c5] at h
        refine lv_aload_n hx hb dX9_text_21 rfl (lv_at hl 0 rfl) ?_
        refine r_get F hP i_X9 24 (xe_24 E q) rfl 0 (by decide) rfl lf_X9_14 rfl dX9_text_22 ?_
        refine r_get F hP i_X8 0 (xe_0 E q) rfl 0 (by decide) rfl lf_X9_85 rfl dX9_text_25 ?_
        refine lv_iload_n hx hb dX9_text_28 rfl (lv_at hl 1 rfl) ?_
        obtain ⟨y6, e7, h⟩ := Option.bind_eq_some_iff.mp h
        refine r_iald F hP 1 (xe_1 E q) e7 dX9_text_29 ?_
        refine lv_iconst (v := 2) hx hb dX9_text_30 (by decide) ?_
        refine lv_icmp_ne (tgt := 38) hx hb dX9_text_31 (by decide) (fun c8 => ?_) (fun c8 => ?_)
        · rw [if_neg c8] at h
          refine lv_iconst (v := 0) hx hb dX9_text_38 (by decide) ?_
          exact g_X9_text_39 F hA hRt q x1 x2 x4 (0 : Int32) h _ (lv_sub hl [0, 1, 2, 3] rfl) _ _ hP hD hS
        · rw [if_pos c8] at h
          refine lv_iconst (v := 1) hx hb dX9_text_34 (by decide) ?_
          refine lv_goto (tgt := 39) hx hb dX9_text_35 (by decide) ?_
          exact g_X9_text_39 F hA hRt q x1 x2 x4 (1 : Int32) h _ (lv_sub hl [0, 1, 2, 3] rfl) _ _ hP hD hS
      · rw [if_neg c5] at h
        refine lv_iconst (v := 0) hx hb dX9_text_19 (by decide) ?_
        cases h
        exact hRt _ _ zz_0 dX9_text_20 _ _ hP hD hS
def f_X9_text (q : QS) (x1 : Int32) (x2 : Int64) (x4 : Int32) : Option (Int32 × QS) := f_X9_text_0 q x1 x2 x4
set_option maxRecDepth 100000 in
theorem c_X9_text {E : En} {l : Launch} (q : QS) (x1 : Int32) (x2 : Int64) (x4 : Int32) {o : Int32 × QS} (h : f_X9_text q x1 x2 x4 = some o) : Ct (wX E) E l yX9_text (wy yX9_text cX9_text 7 (some .boolean)) rm_X9_text q o.2 [.ref (eA E 24), .int x1, .long x2, .int x4] (some (.int o.1)) :=
  ct_Z (o := o) (by decide +kernel) (fun p e s m below meth c A Q F hA hRt H locs hP hD hS => en_W [.ref (eA E 24), .int x1, .long x2, .int x4] (Nat.le_of_ble_eq_true rfl) (fun ls hl => g_X9_text_0 F hA hRt q x1 x2 x4 h ls (lv_sub hl [0, 1, 2, 3] rfl) H locs hP hD hS))
def rm_X9_add : Room := { frames := 3, cells := 0, slots := 0, locals := 69 }
def f_X9_add_0 (q : QS) (x1 : Int32) : Option (Int32 × QS) :=
  (f_X7_append q x1).bind fun r1 =>
  some (r1.1, r1.2)
set_option maxHeartbeats 4000000 in
set_option maxRecDepth 100000 in
theorem g_X9_add_0 {E : En} {p : Program} {l : Launch} {e : Env} {s : State} {m : MethodId} {args : Array Value} {below : List Frame} {meth : Method} {c : Code} {A : Nat → Prop} {Q : State → Prop} (F : Fx E p s m args meth c (yX9_add).cls cX9_add 2 (some .int)) (hA : ∀ z : Nat, s.heap.size ≤ z → A z) {o : Int32 × QS} (hRt : RtI (wX E) E p l e rm_X9_add s m args below meth c A Q cX9_add o) (q : QS) (x1 : Int32) (h : f_X9_add_0 q x1 = some o) (ls : Array Slot) (hl : lv_has ls 2 [(0, .ref (eA E 24)), (1, .int x1)]) : Wq (wX E) E p l e rm_X9_add s m args below meth c A 0 0 Q q (F0 m 0 ls []) := by
  intro H locs hP hD hS
  have hx := F.1
  have hb := F.2.1
  unfold f_X9_add_0 at h
  refine lv_aload_n hx hb dX9_add_0 rfl (lv_at hl 0 rfl) ?_
  refine r_get F hP i_X9 24 (xe_24 E q) rfl 1 (by decide) rfl lf_X9_21 rfl dX9_add_1 ?_
  refine lv_iload_n hx hb dX9_add_4 rfl (lv_at hl 1 rfl) ?_
  refine lv_aload_n hx hb dX9_add_5 rfl (lv_at hl 0 rfl) ?_
  refine r_get F hP i_X9 24 (xe_24 E q) rfl 0 (by decide) rfl lf_X9_14 rfl dX9_add_6 ?_
  obtain ⟨r1, e2, h⟩ := Option.bind_eq_some_iff.mp h
  refine q_callV (As := [.int x1, .ref (eA E 0)]) (rest := []) F hA hP hD hS (c_X7_append (E := E) (l := l) q x1 e2) k_X7_append in_X7_append se_X7_append lm_X9_100 25 (xe_25 E q) rfl ⟨rfl, rfl⟩ ⟨by decide, by decide⟩ rfl hl.1 rfl (Nat.le_of_ble_eq_true rfl) dX9_add_9 ⟨by decide, by decide⟩ ?_
  intro H locs hP hD hS
  cases h
  exact hRt _ _ dX9_add_12 _ _ hP hD hS
def f_X9_add (q : QS) (x1 : Int32) : Option (Int32 × QS) := f_X9_add_0 q x1
set_option maxRecDepth 100000 in
theorem c_X9_add {E : En} {l : Launch} (q : QS) (x1 : Int32) {o : Int32 × QS} (h : f_X9_add q x1 = some o) : Ct (wX E) E l yX9_add (wy yX9_add cX9_add 2 (some .int)) rm_X9_add q o.2 [.ref (eA E 24), .int x1] (some (.int o.1)) :=
  ct_I (o := o) (by decide +kernel) rfl (fun p e s m below meth c A Q F hA hRt H locs hP hD hS => en_W [.ref (eA E 24), .int x1] (Nat.le_of_ble_eq_true rfl) (fun ls hl => g_X9_add_0 F hA hRt q x1 h ls (lv_sub hl [0, 1] rfl) H locs hP hD hS))
def rm_X9_column : Room := { frames := 2, cells := 0, slots := 0, locals := 49 }
def f_X9_column_0 (q : QS) (x1 : Int32) (x2 : Int32) : Option (Int32 × QS) :=
  (f_X7_hasColumn q x1 x2).bind fun r1 =>
  if r1 = 0 then
    some ((-1 : Int32), q)
  else
    (f_X2_isFull q).bind fun r4 =>
    if r4 = 0 then
      (f_X7_typeOf q x1 x2).bind fun r7 =>
      (f_X2_addColumn q x1 x2 r7).bind fun r9 =>
      some (r9.1, r9.2)
    else
      some ((-1 : Int32), q)
set_option maxHeartbeats 4000000 in
set_option maxRecDepth 100000 in
theorem g_X9_column_0 {E : En} {p : Program} {l : Launch} {e : Env} {s : State} {m : MethodId} {args : Array Value} {below : List Frame} {meth : Method} {c : Code} {A : Nat → Prop} {Q : State → Prop} (F : Fx E p s m args meth c (yX9_column).cls cX9_column 3 (some .int)) (hA : ∀ z : Nat, s.heap.size ≤ z → A z) {o : Int32 × QS} (hRt : RtI (wX E) E p l e rm_X9_column s m args below meth c A Q cX9_column o) (q : QS) (x1 : Int32) (x2 : Int32) (h : f_X9_column_0 q x1 x2 = some o) (ls : Array Slot) (hl : lv_has ls 3 [(0, .ref (eA E 24)), (1, .int x1), (2, .int x2)]) : Wq (wX E) E p l e rm_X9_column s m args below meth c A 0 0 Q q (F0 m 0 ls []) := by
  intro H locs hP hD hS
  have hx := F.1
  have hb := F.2.1
  unfold f_X9_column_0 at h
  refine lv_aload_n hx hb dX9_column_0 rfl (lv_at hl 0 rfl) ?_
  refine r_get F hP i_X9 24 (xe_24 E q) rfl 1 (by decide) rfl lf_X9_21 rfl dX9_column_1 ?_
  refine lv_iload_n hx hb dX9_column_4 rfl (lv_at hl 1 rfl) ?_
  refine lv_iload_n hx hb dX9_column_5 rfl (lv_at hl 2 rfl) ?_
  obtain ⟨r1, e2, h⟩ := Option.bind_eq_some_iff.mp h
  refine q_callV (As := [.int x1, .int x2]) (rest := []) F hA hP hD hS (c_X7_hasColumn (E := E) (l := l) q x1 x2 e2) k_X7_hasColumn in_X7_hasColumn se_X7_hasColumn lm_X9_104 25 (xe_25 E q) rfl ⟨rfl, rfl⟩ ⟨by decide, by decide⟩ rfl hl.1 rfl (Nat.le_of_ble_eq_true rfl) dX9_column_6 ⟨by decide, by decide⟩ ?_
  intro H locs hP hD hS
  refine lv_if_eq (tgt := 22) hx hb dX9_column_9 (by decide) (fun c3 => ?_) (fun c3 => ?_)
  · rw [if_pos c3] at h
    refine lv_iconst (v := (-1)) hx hb dX9_column_22 (by decide) ?_
    cases h
    exact hRt _ _ dX9_column_23 _ _ hP hD hS
  · rw [if_neg c3] at h
    refine lv_aload_n hx hb dX9_column_12 rfl (lv_at hl 0 rfl) ?_
    refine r_get F hP i_X9 24 (xe_24 E q) rfl 2 (by decide) rfl lf_X9_28 rfl dX9_column_13 ?_
    obtain ⟨r4, e5, h⟩ := Option.bind_eq_some_iff.mp h
    refine q_callV (As := []) (rest := []) F hA hP hD hS (c_X2_isFull (E := E) (l := l) q e5) k_X2_isFull in_X2_isFull se_X2_isFull lm_X9_108 29 (xe_29 E q) rfl ⟨rfl, rfl⟩ ⟨by decide, by decide⟩ rfl hl.1 rfl (Nat.le_of_ble_eq_true rfl) dX9_column_16 ⟨by decide, by decide⟩ ?_
    intro H locs hP hD hS
    refine lv_if_eq (tgt := 24) hx hb dX9_column_19 (by decide) (fun c6 => ?_) (fun c6 => ?_)
    · rw [if_pos c6] at h
      refine lv_aload_n hx hb dX9_column_24 rfl (lv_at hl 0 rfl) ?_
      refine r_get F hP i_X9 24 (xe_24 E q) rfl 2 (by decide) rfl lf_X9_28 rfl dX9_column_25 ?_
      refine lv_iload_n hx hb dX9_column_28 rfl (lv_at hl 1 rfl) ?_
      refine lv_iload_n hx hb dX9_column_29 rfl (lv_at hl 2 rfl) ?_
      refine lv_aload_n hx hb dX9_column_30 rfl (lv_at hl 0 rfl) ?_
      refine r_get F hP i_X9 24 (xe_24 E q) rfl 1 (by decide) rfl lf_X9_21 rfl dX9_column_31 ?_
      refine lv_iload_n hx hb dX9_column_34 rfl (lv_at hl 1 rfl) ?_
      refine lv_iload_n hx hb dX9_column_35 rfl (lv_at hl 2 rfl) ?_
      obtain ⟨r7, e8, h⟩ := Option.bind_eq_some_iff.mp h
      refine q_callV (As := [.int x1, .int x2]) (rest := [.int x2, .int x1, .ref (eA E 29)]) F hA hP hD hS (c_X7_typeOf (E := E) (l := l) q x1 x2 e8) k_X7_typeOf in_X7_typeOf se_X7_typeOf lm_X9_112 25 (xe_25 E q) rfl ⟨rfl, rfl⟩ ⟨by decide, by decide⟩ rfl hl.1 rfl (Nat.le_of_ble_eq_true rfl) dX9_column_36 ⟨by decide, by decide⟩ ?_
      intro H locs hP hD hS
      obtain ⟨r9, e10, h⟩ := Option.bind_eq_some_iff.mp h
      refine q_callV (As := [.int x1, .int x2, .int r7]) (rest := []) F hA hP hD hS (c_X2_addColumn (E := E) (l := l) q x1 x2 r7 e10) k_X2_addColumn in_X2_addColumn se_X2_addColumn lm_X9_115 29 (xe_29 E q) rfl ⟨rfl, rfl⟩ ⟨by decide, by decide⟩ rfl hl.1 rfl (Nat.le_of_ble_eq_true rfl) dX9_column_39 ⟨by decide, by decide⟩ ?_
      intro H locs hP hD hS
      cases h
      exact hRt _ _ dX9_column_42 _ _ hP hD hS
    · rw [if_neg c6] at h
      refine lv_iconst (v := (-1)) hx hb dX9_column_22 (by decide) ?_
      cases h
      exact hRt _ _ dX9_column_23 _ _ hP hD hS
def f_X9_column (q : QS) (x1 : Int32) (x2 : Int32) : Option (Int32 × QS) := f_X9_column_0 q x1 x2
set_option maxRecDepth 100000 in
theorem c_X9_column {E : En} {l : Launch} (q : QS) (x1 : Int32) (x2 : Int32) {o : Int32 × QS} (h : f_X9_column q x1 x2 = some o) : Ct (wX E) E l yX9_column (wy yX9_column cX9_column 3 (some .int)) rm_X9_column q o.2 [.ref (eA E 24), .int x1, .int x2] (some (.int o.1)) :=
  ct_I (o := o) (by decide +kernel) rfl (fun p e s m below meth c A Q F hA hRt H locs hP hD hS => en_W [.ref (eA E 24), .int x1, .int x2] (Nat.le_of_ble_eq_true rfl) (fun ls hl => g_X9_column_0 F hA hRt q x1 x2 h ls (lv_sub hl [0, 1, 2] rfl) H locs hP hD hS))
def rm_X9_constant : Room := { frames := 3, cells := 0, slots := 0, locals := 69 }
def f_X9_constant_0 (q : QS) : Option (Int32 × QS) :=
  (f_X2_isFull q).bind fun r1 =>
  if r1 = 0 then
    (f_X2_addConstant q (0 : Int32)).bind fun r4 =>
    some (r4.1, r4.2)
  else
    some ((-1 : Int32), q)
set_option maxHeartbeats 4000000 in
set_option maxRecDepth 100000 in
theorem g_X9_constant_0 {E : En} {p : Program} {l : Launch} {e : Env} {s : State} {m : MethodId} {args : Array Value} {below : List Frame} {meth : Method} {c : Code} {A : Nat → Prop} {Q : State → Prop} (F : Fx E p s m args meth c (yX9_constant).cls cX9_constant 1 (some .int)) (hA : ∀ z : Nat, s.heap.size ≤ z → A z) {o : Int32 × QS} (hRt : RtI (wX E) E p l e rm_X9_constant s m args below meth c A Q cX9_constant o) (q : QS) (h : f_X9_constant_0 q = some o) (ls : Array Slot) (hl : lv_has ls 1 [(0, .ref (eA E 24))]) : Wq (wX E) E p l e rm_X9_constant s m args below meth c A 0 0 Q q (F0 m 0 ls []) := by
  intro H locs hP hD hS
  have hx := F.1
  have hb := F.2.1
  unfold f_X9_constant_0 at h
  refine lv_aload_n hx hb dX9_constant_0 rfl (lv_at hl 0 rfl) ?_
  refine r_get F hP i_X9 24 (xe_24 E q) rfl 2 (by decide) rfl lf_X9_28 rfl dX9_constant_1 ?_
  obtain ⟨r1, e2, h⟩ := Option.bind_eq_some_iff.mp h
  refine q_callV (As := []) (rest := []) F hA hP hD hS (c_X2_isFull (E := E) (l := l) q e2) k_X2_isFull in_X2_isFull se_X2_isFull lm_X9_108 29 (xe_29 E q) rfl ⟨rfl, rfl⟩ ⟨by decide, by decide⟩ rfl hl.1 rfl (Nat.le_of_ble_eq_true rfl) dX9_constant_4 ⟨by decide, by decide⟩ ?_
  intro H locs hP hD hS
  refine lv_if_eq (tgt := 12) hx hb dX9_constant_7 (by decide) (fun c3 => ?_) (fun c3 => ?_)
  · rw [if_pos c3] at h
    refine lv_aload_n hx hb dX9_constant_12 rfl (lv_at hl 0 rfl) ?_
    refine r_get F hP i_X9 24 (xe_24 E q) rfl 2 (by decide) rfl lf_X9_28 rfl dX9_constant_13 ?_
    refine lv_aload_n hx hb dX9_constant_16 rfl (lv_at hl 0 rfl) ?_
    refine r_get F hP i_X9 24 (xe_24 E q) rfl 0 (by decide) rfl lf_X9_14 rfl dX9_constant_17 ?_
    refine lv_iconst (v := 0) hx hb dX9_constant_20 (by decide) ?_
    obtain ⟨r4, e5, h⟩ := Option.bind_eq_some_iff.mp h
    refine q_callV (As := [.ref (eA E 0), .int (0 : Int32)]) (rest := []) F hA hP hD hS (c_X2_addConstant (E := E) (l := l) q (0 : Int32) e5) k_X2_addConstant in_X2_addConstant se_X2_addConstant lm_X9_119 29 (xe_29 E q) rfl ⟨rfl, rfl⟩ ⟨by decide, by decide⟩ rfl hl.1 rfl (Nat.le_of_ble_eq_true rfl) dX9_constant_21 ⟨by decide, by decide⟩ ?_
    intro H locs hP hD hS
    cases h
    exact hRt _ _ dX9_constant_24 _ _ hP hD hS
  · rw [if_neg c3] at h
    refine lv_iconst (v := (-1)) hx hb dX9_constant_10 (by decide) ?_
    cases h
    exact hRt _ _ dX9_constant_11 _ _ hP hD hS
def f_X9_constant (q : QS) : Option (Int32 × QS) := f_X9_constant_0 q
set_option maxRecDepth 100000 in
theorem c_X9_constant {E : En} {l : Launch} (q : QS) {o : Int32 × QS} (h : f_X9_constant q = some o) : Ct (wX E) E l yX9_constant (wy yX9_constant cX9_constant 1 (some .int)) rm_X9_constant q o.2 [.ref (eA E 24)] (some (.int o.1)) :=
  ct_I (o := o) (by decide +kernel) rfl (fun p e s m below meth c A Q F hA hRt H locs hP hD hS => en_W [.ref (eA E 24)] (Nat.le_of_ble_eq_true rfl) (fun ls hl => g_X9_constant_0 F hA hRt q h ls (lv_sub hl [0] rfl) H locs hP hD hS))
def rm_X9_node : Room := { frames := 3, cells := 0, slots := 0, locals := 70 }
def f_X9_node_0 (q : QS) (x1 : Int32) (x2 : Int32) (x3 : Int32) : Option (Int32 × QS) :=
  if x1 < (5 : Int32) then
    some ((-1 : Int32), q)
  else
    if (27 : Int32) < x1 then
      some ((-1 : Int32), q)
    else
      (f_X2_isFull q).bind fun r3 =>
      if r3 = 0 then
        (f_X2_partsOf x1).bind fun r6 =>
        if r6 < (1 : Int32) then
          if r6 = (2 : Int32) then
            (f_X2_addComputed q x1 (-1 : Int32) x3).bind fun r12 =>
            some (r12.1, r12.2)
          else
            (f_X2_addComputed q x1 (-1 : Int32) (-1 : Int32)).bind fun r10 =>
            some (r10.1, r10.2)
        else
          if r6 = (2 : Int32) then
            (f_X2_addComputed q x1 x2 x3).bind fun r17 =>
            some (r17.1, r17.2)
          else
            (f_X2_addComputed q x1 x2 (-1 : Int32)).bind fun r15 =>
            some (r15.1, r15.2)
      else
        some ((-1 : Int32), q)
set_option maxHeartbeats 4000000 in
set_option maxRecDepth 100000 in
theorem g_X9_node_0 {E : En} {p : Program} {l : Launch} {e : Env} {s : State} {m : MethodId} {args : Array Value} {below : List Frame} {meth : Method} {c : Code} {A : Nat → Prop} {Q : State → Prop} (F : Fx E p s m args meth c (yX9_node).cls cX9_node 5 (some .int)) (hA : ∀ z : Nat, s.heap.size ≤ z → A z) {o : Int32 × QS} (hRt : RtI (wX E) E p l e rm_X9_node s m args below meth c A Q cX9_node o) (q : QS) (x1 : Int32) (x2 : Int32) (x3 : Int32) (h : f_X9_node_0 q x1 x2 x3 = some o) (ls : Array Slot) (hl : lv_has ls 5 [(0, .ref (eA E 24)), (1, .int x1), (2, .int x2), (3, .int x3)]) : Wq (wX E) E p l e rm_X9_node s m args below meth c A 0 0 Q q (F0 m 0 ls []) := by
  intro H locs hP hD hS
  have hx := F.1
  have hb := F.2.1
  unfold f_X9_node_0 at h
  refine lv_iload_n hx hb dX9_node_0 rfl (lv_at hl 1 rfl) ?_
  refine lv_iconst (v := 5) hx hb dX9_node_1 (by decide) ?_
  refine lv_icmp_lt (tgt := 21) hx hb dX9_node_2 (by decide) (fun c1 => ?_) (fun c1 => ?_)
  · rw [if_pos c1] at h
    refine lv_iconst (v := (-1)) hx hb dX9_node_21 (by decide) ?_
    cases h
    exact hRt _ _ dX9_node_22 _ _ hP hD hS
  · rw [if_neg c1] at h
    refine lv_iload_n hx hb dX9_node_5 rfl (lv_at hl 1 rfl) ?_
    refine lv_bipush (v := 27) hx hb dX9_node_6 (by decide) ?_
    refine lv_icmp_gt (tgt := 21) hx hb dX9_node_8 (by decide) (fun c2 => ?_) (fun c2 => ?_)
    · rw [if_pos c2] at h
      refine lv_iconst (v := (-1)) hx hb dX9_node_21 (by decide) ?_
      cases h
      exact hRt _ _ dX9_node_22 _ _ hP hD hS
    · rw [if_neg c2] at h
      refine lv_aload_n hx hb dX9_node_11 rfl (lv_at hl 0 rfl) ?_
      refine r_get F hP i_X9 24 (xe_24 E q) rfl 2 (by decide) rfl lf_X9_28 rfl dX9_node_12 ?_
      obtain ⟨r3, e4, h⟩ := Option.bind_eq_some_iff.mp h
      refine q_callV (As := []) (rest := []) F hA hP hD hS (c_X2_isFull (E := E) (l := l) q e4) k_X2_isFull in_X2_isFull se_X2_isFull lm_X9_108 29 (xe_29 E q) rfl ⟨rfl, rfl⟩ ⟨by decide, by decide⟩ rfl hl.1 rfl (Nat.le_of_ble_eq_true rfl) dX9_node_15 ⟨by decide, by decide⟩ ?_
      intro H locs hP hD hS
      refine lv_if_eq (tgt := 23) hx hb dX9_node_18 (by decide) (fun c5 => ?_) (fun c5 => ?_)
      · rw [if_pos c5] at h
        refine lv_iload_n hx hb dX9_node_23 rfl (lv_at hl 1 rfl) ?_
        obtain ⟨r6, e7, h⟩ := Option.bind_eq_some_iff.mp h
        refine q_callS (As := [.int x1]) (rest := []) F hA hP hD hS (c_X2_partsOf (E := E) (l := l) q x1 e7) k_X2_partsOf st_X2_partsOf lm_X9_123 ⟨rfl, rfl⟩ ⟨by decide, by decide⟩ rfl hl.1 rfl (Nat.le_of_ble_eq_true rfl) dX9_node_24 ⟨by decide, by decide⟩ ?_
        intro H locs hP hD hS
        refine lv_istore (lv' := [(4, .int r6), (0, .ref (eA E 24)), (1, .int x1), (2, .int x2), (3, .int x3)]) hx hb dX9_node_27 hl (by decide) rfl (fun ls hl => ?_)
        refine lv_aload_n hx hb dX9_node_29 rfl (lv_at hl 1 rfl) ?_
        refine r_get F hP i_X9 24 (xe_24 E q) rfl 2 (by decide) rfl lf_X9_28 rfl dX9_node_30 ?_
        refine lv_iload_n hx hb dX9_node_33 rfl (lv_at hl 2 rfl) ?_
        refine lv_iload hx hb dX9_node_34 (lv_at hl 0 rfl) ?_
        refine lv_iconst (v := 1) hx hb dX9_node_36 (by decide) ?_
        refine lv_icmp_lt (tgt := 44) hx hb dX9_node_37 (by decide) (fun c8 => ?_) (fun c8 => ?_)
        · rw [if_pos c8] at h
          refine lv_iconst (v := (-1)) hx hb dX9_node_44 (by decide) ?_
          refine lv_iload hx hb dX9_node_45 (lv_at hl 0 rfl) ?_
          refine lv_iconst (v := 2) hx hb dX9_node_47 (by decide) ?_
          refine lv_icmp_ne (tgt := 55) hx hb dX9_node_48 (by decide) (fun c9 => ?_) (fun c9 => ?_)
          · rw [if_neg c9] at h
            refine lv_iconst (v := (-1)) hx hb dX9_node_55 (by decide) ?_
            obtain ⟨r10, e11, h⟩ := Option.bind_eq_some_iff.mp h
            refine q_callV (As := [.int x1, .int (-1 : Int32), .int (-1 : Int32)]) (rest := []) F hA hP hD hS (c_X2_addComputed (E := E) (l := l) q x1 (-1 : Int32) (-1 : Int32) e11) k_X2_addComputed in_X2_addComputed se_X2_addComputed lm_X9_126 29 (xe_29 E q) rfl ⟨rfl, rfl⟩ ⟨by decide, by decide⟩ rfl hl.1 rfl (Nat.le_of_ble_eq_true rfl) dX9_node_56 ⟨by decide, by decide⟩ ?_
            intro H locs hP hD hS
            cases h
            exact hRt _ _ dX9_node_59 _ _ hP hD hS
          · rw [if_pos c9] at h
            refine lv_iload_n hx hb dX9_node_51 rfl (lv_at hl 4 rfl) ?_
            refine lv_goto (tgt := 56) hx hb dX9_node_52 (by decide) ?_
            obtain ⟨r12, e13, h⟩ := Option.bind_eq_some_iff.mp h
            refine q_callV (As := [.int x1, .int (-1 : Int32), .int x3]) (rest := []) F hA hP hD hS (c_X2_addComputed (E := E) (l := l) q x1 (-1 : Int32) x3 e13) k_X2_addComputed in_X2_addComputed se_X2_addComputed lm_X9_126 29 (xe_29 E q) rfl ⟨rfl, rfl⟩ ⟨by decide, by decide⟩ rfl hl.1 rfl (Nat.le_of_ble_eq_true rfl) dX9_node_56 ⟨by decide, by decide⟩ ?_
            intro H locs hP hD hS
            cases h
            exact hRt _ _ dX9_node_59 _ _ hP hD hS
        · rw [if_neg c8] at h
          refine lv_iload_n hx hb dX9_node_40 rfl (lv_at hl 3 rfl) ?_
          refine lv_goto (tgt := 45) hx hb dX9_node_41 (by decide) ?_
          refine lv_iload hx hb dX9_node_45 (lv_at hl 0 rfl) ?_
          refine lv_iconst (v := 2) hx hb dX9_node_47 (by decide) ?_
          refine lv_icmp_ne (tgt := 55) hx hb dX9_node_48 (by decide) (fun c14 => ?_) (fun c14 => ?_)
          · rw [if_neg c14] at h
            refine lv_iconst (v := (-1)) hx hb dX9_node_55 (by decide) ?_
            obtain ⟨r15, e16, h⟩ := Option.bind_eq_some_iff.mp h
            refine q_callV (As := [.int x1, .int x2, .int (-1 : Int32)]) (rest := []) F hA hP hD hS (c_X2_addComputed (E := E) (l := l) q x1 x2 (-1 : Int32) e16) k_X2_addComputed in_X2_addComputed se_X2_addComputed lm_X9_126 29 (xe_29 E q) rfl ⟨rfl, rfl⟩ ⟨by decide, by decide⟩ rfl hl.1 rfl (Nat.le_of_ble_eq_true rfl) dX9_node_56 ⟨by decide, by decide⟩ ?_
            intro H locs hP hD hS
            cases h
            exact hRt _ _ dX9_node_59 _ _ hP hD hS
          · rw [if_pos c14] at h
            refine lv_iload_n hx hb dX9_node_51 rfl (lv_at hl 4 rfl) ?_
            refine lv_goto (tgt := 56) hx hb dX9_node_52 (by decide) ?_
            obtain ⟨r17, e18, h⟩ := Option.bind_eq_some_iff.mp h
            refine q_callV (As := [.int x1, .int x2, .int x3]) (rest := []) F hA hP hD hS (c_X2_addComputed (E := E) (l := l) q x1 x2 x3 e18) k_X2_addComputed in_X2_addComputed se_X2_addComputed lm_X9_126 29 (xe_29 E q) rfl ⟨rfl, rfl⟩ ⟨by decide, by decide⟩ rfl hl.1 rfl (Nat.le_of_ble_eq_true rfl) dX9_node_56 ⟨by decide, by decide⟩ ?_
            intro H locs hP hD hS
            cases h
            exact hRt _ _ dX9_node_59 _ _ hP hD hS
      · rw [if_neg c5] at h
        refine lv_iconst (v := (-1)) hx hb dX9_node_21 (by decide) ?_
        cases h
        exact hRt _ _ dX9_node_22 _ _ hP hD hS
def f_X9_node (q : QS) (x1 : Int32) (x2 : Int32) (x3 : Int32) : Option (Int32 × QS) := f_X9_node_0 q x1 x2 x3
set_option maxRecDepth 100000 in
theorem c_X9_node {E : En} {l : Launch} (q : QS) (x1 : Int32) (x2 : Int32) (x3 : Int32) {o : Int32 × QS} (h : f_X9_node q x1 x2 x3 = some o) : Ct (wX E) E l yX9_node (wy yX9_node cX9_node 5 (some .int)) rm_X9_node q o.2 [.ref (eA E 24), .int x1, .int x2, .int x3] (some (.int o.1)) :=
  ct_I (o := o) (by decide +kernel) rfl (fun p e s m below meth c A Q F hA hRt H locs hP hD hS => en_W [.ref (eA E 24), .int x1, .int x2, .int x3] (Nat.le_of_ble_eq_true rfl) (fun ls hl => g_X9_node_0 F hA hRt q x1 x2 x3 h ls (lv_sub hl [0, 1, 2, 3] rfl) H locs hP hD hS))
def rm_X9_type : Room := { frames := 1, cells := 0, slots := 0, locals := 21 }
def f_X9_type_0 (q : QS) (x1 : Int32) : Option (Int32) :=
  (f_X2_has q x1).bind fun r1 =>
  if r1 = 0 then
    some (-1 : Int32)
  else
    (rd (qI q 31) 200 x1).bind fun y4 =>
    (rd (qI q 36) 200 x1).bind fun y6 =>
    if y6 = 0 then
      some (y4 + (0 : Int32))
    else
      some (y4 + (10 : Int32))
set_option maxHeartbeats 4000000 in
set_option maxRecDepth 100000 in
theorem g_X9_type_0 {E : En} {p : Program} {l : Launch} {e : Env} {s : State} {m : MethodId} {args : Array Value} {below : List Frame} {meth : Method} {c : Code} {A : Nat → Prop} {Q : State → Prop} (F : Fx E p s m args meth c (yX9_type).cls cX9_type 2 (some .int)) (hA : ∀ z : Nat, s.heap.size ≤ z → A z) {q : QS} {o : Int32} (hRt : RtI (wX E) E p l e rm_X9_type s m args below meth c A Q cX9_type (o, q)) (x1 : Int32) (h : f_X9_type_0 q x1 = some o) (ls : Array Slot) (hl : lv_has ls 2 [(0, .ref (eA E 24)), (1, .int x1)]) : Wq (wX E) E p l e rm_X9_type s m args below meth c A 0 0 Q q (F0 m 0 ls []) := by
  intro H locs hP hD hS
  have hx := F.1
  have hb := F.2.1
  unfold f_X9_type_0 at h
  refine lv_aload_n hx hb dX9_type_0 rfl (lv_at hl 0 rfl) ?_
  refine r_get F hP i_X9 24 (xe_24 E q) rfl 2 (by decide) rfl lf_X9_28 rfl dX9_type_1 ?_
  refine lv_iload_n hx hb dX9_type_4 rfl (lv_at hl 1 rfl) ?_
  obtain ⟨r1, e2, h⟩ := Option.bind_eq_some_iff.mp h
  refine q_callV (As := [.int x1]) (rest := []) F hA hP hD hS (c_X2_has (E := E) (l := l) q x1 e2) k_X2_has in_X2_has se_X2_has lm_X9_129 29 (xe_29 E q) rfl ⟨rfl, rfl⟩ ⟨by decide, by decide⟩ rfl hl.1 rfl (Nat.le_of_ble_eq_true rfl) dX9_type_5 ⟨by decide, by decide⟩ ?_
  intro H locs hP hD hS
  refine lv_if_ne (tgt := 13) hx hb dX9_type_8 (by decide) (fun c3 => ?_) (fun c3 => ?_)
  · rw [if_neg c3] at h
    refine lv_aload_n hx hb dX9_type_13 rfl (lv_at hl 0 rfl) ?_
    refine r_get F hP i_X9 24 (xe_24 E q) rfl 2 (by decide) rfl lf_X9_28 rfl dX9_type_14 ?_
    refine r_get F hP i_X2 29 (xe_29 E q) rfl 2 (by decide) rfl lf_X9_132 rfl dX9_type_17 ?_
    refine lv_iload_n hx hb dX9_type_20 rfl (lv_at hl 1 rfl) ?_
    obtain ⟨y4, e5, h⟩ := Option.bind_eq_some_iff.mp h
    refine r_iald F hP 31 (xe_31 E q) e5 dX9_type_21 ?_
    refine lv_aload_n hx hb dX9_type_22 rfl (lv_at hl 0 rfl) ?_
    refine r_get F hP i_X9 24 (xe_24 E q) rfl 2 (by decide) rfl lf_X9_28 rfl dX9_type_23 ?_
    refine r_get F hP i_X2 29 (xe_29 E q) rfl 7 (by decide) rfl lf_X9_135 rfl dX9_type_26 ?_
    refine lv_iload_n hx hb dX9_type_29 rfl (lv_at hl 1 rfl) ?_
    obtain ⟨y6, e7, h⟩ := Option.bind_eq_some_iff.mp h
    refine r_zald F hP 36 (xe_36 E q) e7 dX9_type_30 ?_
    refine lv_if_eq (tgt := 39) hx hb dX9_type_31 (by decide) (fun c8 => ?_) (fun c8 => ?_)
    · rw [if_pos c8] at h
      refine lv_iconst (v := 0) hx hb dX9_type_39 (by decide) ?_
      refine lv_iadd hx hb dX9_type_40 ?_
      cases h
      exact hRt _ _ dX9_type_41 _ _ hP hD hS
    · rw [if_neg c8] at h
      refine lv_bipush (v := 10) hx hb dX9_type_34 (by decide) ?_
      refine lv_goto (tgt := 40) hx hb dX9_type_36 (by decide) ?_
      refine lv_iadd hx hb dX9_type_40 ?_
      cases h
      exact hRt _ _ dX9_type_41 _ _ hP hD hS
  · rw [if_pos c3] at h
    refine lv_iconst (v := (-1)) hx hb dX9_type_11 (by decide) ?_
    cases h
    exact hRt _ _ dX9_type_12 _ _ hP hD hS
def f_X9_type (q : QS) (x1 : Int32) : Option (Int32) := f_X9_type_0 q x1
set_option maxRecDepth 100000 in
theorem c_X9_type {E : En} {l : Launch} (q : QS) (x1 : Int32) {o : Int32} (h : f_X9_type q x1 = some o) : Ct (wX E) E l yX9_type (wy yX9_type cX9_type 2 (some .int)) rm_X9_type q q [.ref (eA E 24), .int x1] (some (.int o)) :=
  ct_I (o := (o, q)) (by decide +kernel) rfl (fun p e s m below meth c A Q F hA hRt H locs hP hD hS => en_W [.ref (eA E 24), .int x1] (Nat.le_of_ble_eq_true rfl) (fun ls hl => g_X9_type_0 F hA hRt x1 h ls (lv_sub hl [0, 1] rfl) H locs hP hD hS))
def rm_X9_where : Room := { frames := 2, cells := 0, slots := 0, locals := 43 }
def f_X9_where_0 (q : QS) (x1 : Int32) : Option (Int32 × QS) :=
  if x1 = (-1 : Int32) then
    some ((1 : Int32), (uF q 9 x1))
  else
    (f_X2_canBeCondition q x1).bind fun r2 =>
    if r2 = 0 then
      some ((0 : Int32), q)
    else
      some ((1 : Int32), (uF q 9 x1))
set_option maxHeartbeats 4000000 in
set_option maxRecDepth 100000 in
theorem g_X9_where_0 {E : En} {p : Program} {l : Launch} {e : Env} {s : State} {m : MethodId} {args : Array Value} {below : List Frame} {meth : Method} {c : Code} {A : Nat → Prop} {Q : State → Prop} (F : Fx E p s m args meth c (yX9_where).cls cX9_where 2 (some .boolean)) (hA : ∀ z : Nat, s.heap.size ≤ z → A z) {o : Int32 × QS} (hRt : RtZ (wX E) E p l e rm_X9_where s m args below meth c A Q cX9_where o) (q : QS) (x1 : Int32) (h : f_X9_where_0 q x1 = some o) (ls : Array Slot) (hl : lv_has ls 2 [(0, .ref (eA E 24)), (1, .int x1)]) : Wq (wX E) E p l e rm_X9_where s m args below meth c A 0 0 Q q (F0 m 0 ls []) := by
  intro H locs hP hD hS
  have hx := F.1
  have hb := F.2.1
  unfold f_X9_where_0 at h
  refine lv_iload_n hx hb dX9_where_0 rfl (lv_at hl 1 rfl) ?_
  refine lv_iconst (v := (-1)) hx hb dX9_where_1 (by decide) ?_
  refine lv_icmp_eq (tgt := 18) hx hb dX9_where_2 (by decide) (fun c1 => ?_) (fun c1 => ?_)
  · rw [if_pos c1] at h
    refine lv_aload_n hx hb dX9_where_18 rfl (lv_at hl 0 rfl) ?_
    refine r_get F hP i_X9 24 (xe_24 E q) rfl 3 (by decide) rfl lf_X9_35 rfl dX9_where_19 ?_
    refine lv_iload_n hx hb dX9_where_22 rfl (lv_at hl 1 rfl) ?_
    refine r_put (ty := .int) (q1 := (uF q 9 x1)) F hP hD hS i_X4 tyX4_ok nmX4 38 (xe_38 E q) rfl 3 (by decide) rfl lf_X9_142 rfl (by decide +kernel) rfl rfl (Nat.le_of_ble_eq_true rfl) (xf_38_9 E q x1) dX9_where_23 ?_
    intro H locs hP hD hS
    refine lv_iconst (v := 1) hx hb dX9_where_26 (by decide) ?_
    cases h
    exact hRt _ _ zz_1 dX9_where_27 _ _ hP hD hS
  · rw [if_neg c1] at h
    refine lv_aload_n hx hb dX9_where_5 rfl (lv_at hl 0 rfl) ?_
    refine r_get F hP i_X9 24 (xe_24 E q) rfl 2 (by decide) rfl lf_X9_28 rfl dX9_where_6 ?_
    refine lv_iload_n hx hb dX9_where_9 rfl (lv_at hl 1 rfl) ?_
    obtain ⟨r2, e3, h⟩ := Option.bind_eq_some_iff.mp h
    refine q_callV (As := [.int x1]) (rest := []) F hA hP hD hS (c_X2_canBeCondition (E := E) (l := l) q x1 e3) k_X2_canBeCondition in_X2_canBeCondition se_X2_canBeCondition lm_X9_139 29 (xe_29 E q) rfl ⟨rfl, rfl⟩ ⟨by decide, by decide⟩ rfl hl.1 rfl (Nat.le_of_ble_eq_true rfl) dX9_where_10 ⟨by decide, by decide⟩ ?_
    intro H locs hP hD hS
    refine lv_if_ne (tgt := 18) hx hb dX9_where_13 (by decide) (fun c4 => ?_) (fun c4 => ?_)
    · rw [if_neg c4] at h
      refine lv_aload_n hx hb dX9_where_18 rfl (lv_at hl 0 rfl) ?_
      refine r_get F hP i_X9 24 (xe_24 E q) rfl 3 (by decide) rfl lf_X9_35 rfl dX9_where_19 ?_
      refine lv_iload_n hx hb dX9_where_22 rfl (lv_at hl 1 rfl) ?_
      refine r_put (ty := .int) (q1 := (uF q 9 x1)) F hP hD hS i_X4 tyX4_ok nmX4 38 (xe_38 E q) rfl 3 (by decide) rfl lf_X9_142 rfl (by decide +kernel) rfl rfl (Nat.le_of_ble_eq_true rfl) (xf_38_9 E q x1) dX9_where_23 ?_
      intro H locs hP hD hS
      refine lv_iconst (v := 1) hx hb dX9_where_26 (by decide) ?_
      cases h
      exact hRt _ _ zz_1 dX9_where_27 _ _ hP hD hS
    · rw [if_pos c4] at h
      refine lv_iconst (v := 0) hx hb dX9_where_16 (by decide) ?_
      cases h
      exact hRt _ _ zz_0 dX9_where_17 _ _ hP hD hS
def f_X9_where (q : QS) (x1 : Int32) : Option (Int32 × QS) := f_X9_where_0 q x1
set_option maxRecDepth 100000 in
theorem c_X9_where {E : En} {l : Launch} (q : QS) (x1 : Int32) {o : Int32 × QS} (h : f_X9_where q x1 = some o) : Ct (wX E) E l yX9_where (wy yX9_where cX9_where 2 (some .boolean)) rm_X9_where q o.2 [.ref (eA E 24), .int x1] (some (.int o.1)) :=
  ct_Z (o := o) (by decide +kernel) (fun p e s m below meth c A Q F hA hRt H locs hP hD hS => en_W [.ref (eA E 24), .int x1] (Nat.le_of_ble_eq_true rfl) (fun ls hl => g_X9_where_0 F hA hRt q x1 h ls (lv_sub hl [0, 1] rfl) H locs hP hD hS))
def rm_X9_item : Room := { frames := 1, cells := 0, slots := 0, locals := 21 }
def f_X9_item_0 (q : QS) (x1 : Int32) : Option (Int32 × QS) :=
  (f_X2_has q x1).bind fun r1 =>
  if r1 = 0 then
    some ((-1 : Int32), q)
  else
    (f_X4_addItem q x1).bind fun r4 =>
    some (r4.1, r4.2)
set_option maxHeartbeats 4000000 in
set_option maxRecDepth 100000 in
theorem g_X9_item_0 {E : En} {p : Program} {l : Launch} {e : Env} {s : State} {m : MethodId} {args : Array Value} {below : List Frame} {meth : Method} {c : Code} {A : Nat → Prop} {Q : State → Prop} (F : Fx E p s m args meth c (yX9_item).cls cX9_item 2 (some .int)) (hA : ∀ z : Nat, s.heap.size ≤ z → A z) {o : Int32 × QS} (hRt : RtI (wX E) E p l e rm_X9_item s m args below meth c A Q cX9_item o) (q : QS) (x1 : Int32) (h : f_X9_item_0 q x1 = some o) (ls : Array Slot) (hl : lv_has ls 2 [(0, .ref (eA E 24)), (1, .int x1)]) : Wq (wX E) E p l e rm_X9_item s m args below meth c A 0 0 Q q (F0 m 0 ls []) := by
  intro H locs hP hD hS
  have hx := F.1
  have hb := F.2.1
  unfold f_X9_item_0 at h
  refine lv_aload_n hx hb dX9_item_0 rfl (lv_at hl 0 rfl) ?_
  refine r_get F hP i_X9 24 (xe_24 E q) rfl 2 (by decide) rfl lf_X9_28 rfl dX9_item_1 ?_
  refine lv_iload_n hx hb dX9_item_4 rfl (lv_at hl 1 rfl) ?_
  obtain ⟨r1, e2, h⟩ := Option.bind_eq_some_iff.mp h
  refine q_callV (As := [.int x1]) (rest := []) F hA hP hD hS (c_X2_has (E := E) (l := l) q x1 e2) k_X2_has in_X2_has se_X2_has lm_X9_129 29 (xe_29 E q) rfl ⟨rfl, rfl⟩ ⟨by decide, by decide⟩ rfl hl.1 rfl (Nat.le_of_ble_eq_true rfl) dX9_item_5 ⟨by decide, by decide⟩ ?_
  intro H locs hP hD hS
  refine lv_if_ne (tgt := 13) hx hb dX9_item_8 (by decide) (fun c3 => ?_) (fun c3 => ?_)
  · rw [if_neg c3] at h
    refine lv_aload_n hx hb dX9_item_13 rfl (lv_at hl 0 rfl) ?_
    refine r_get F hP i_X9 24 (xe_24 E q) rfl 3 (by decide) rfl lf_X9_35 rfl dX9_item_14 ?_
    refine lv_iload_n hx hb dX9_item_17 rfl (lv_at hl 1 rfl) ?_
    obtain ⟨r4, e5, h⟩ := Option.bind_eq_some_iff.mp h
    refine q_callV (As := [.int x1]) (rest := []) F hA hP hD hS (c_X4_addItem (E := E) (l := l) q x1 e5) k_X4_addItem in_X4_addItem se_X4_addItem lm_X9_145 38 (xe_38 E q) rfl ⟨rfl, rfl⟩ ⟨by decide, by decide⟩ rfl hl.1 rfl (Nat.le_of_ble_eq_true rfl) dX9_item_18 ⟨by decide, by decide⟩ ?_
    intro H locs hP hD hS
    cases h
    exact hRt _ _ dX9_item_21 _ _ hP hD hS
  · rw [if_pos c3] at h
    refine lv_iconst (v := (-1)) hx hb dX9_item_11 (by decide) ?_
    cases h
    exact hRt _ _ dX9_item_12 _ _ hP hD hS
def f_X9_item (q : QS) (x1 : Int32) : Option (Int32 × QS) := f_X9_item_0 q x1
set_option maxRecDepth 100000 in
theorem c_X9_item {E : En} {l : Launch} (q : QS) (x1 : Int32) {o : Int32 × QS} (h : f_X9_item q x1 = some o) : Ct (wX E) E l yX9_item (wy yX9_item cX9_item 2 (some .int)) rm_X9_item q o.2 [.ref (eA E 24), .int x1] (some (.int o.1)) :=
  ct_I (o := o) (by decide +kernel) rfl (fun p e s m below meth c A Q F hA hRt H locs hP hD hS => en_W [.ref (eA E 24), .int x1] (Nat.le_of_ble_eq_true rfl) (fun ls hl => g_X9_item_0 F hA hRt q x1 h ls (lv_sub hl [0, 1] rfl) H locs hP hD hS))
def rm_X9_group : Room := { frames := 1, cells := 0, slots := 0, locals := 22 }
def f_X9_group_0 (q : QS) (x1 : Int32) : Option (Int32 × QS) :=
  (f_X2_has q x1).bind fun r1 =>
  if r1 = 0 then
    some ((0 : Int32), q)
  else
    (rd (qI q 30) 200 x1).bind fun y4 =>
    if y4 = (4 : Int32) then
      (rd (qI q 34) 200 x1).bind fun y7 =>
      (rd (qI q 35) 200 x1).bind fun y9 =>
      (f_X4_addGroup q y7 y9).bind fun r11 =>
      if vp_nar .boolean r11.1 = r11.1 then some (r11.1, r11.2) else none
    else
      some ((0 : Int32), q)
set_option maxHeartbeats 4000000 in
set_option maxRecDepth 100000 in
theorem g_X9_group_0 {E : En} {p : Program} {l : Launch} {e : Env} {s : State} {m : MethodId} {args : Array Value} {below : List Frame} {meth : Method} {c : Code} {A : Nat → Prop} {Q : State → Prop} (F : Fx E p s m args meth c (yX9_group).cls cX9_group 2 (some .boolean)) (hA : ∀ z : Nat, s.heap.size ≤ z → A z) {o : Int32 × QS} (hRt : RtZ (wX E) E p l e rm_X9_group s m args below meth c A Q cX9_group o) (q : QS) (x1 : Int32) (h : f_X9_group_0 q x1 = some o) (ls : Array Slot) (hl : lv_has ls 2 [(0, .ref (eA E 24)), (1, .int x1)]) : Wq (wX E) E p l e rm_X9_group s m args below meth c A 0 0 Q q (F0 m 0 ls []) := by
  intro H locs hP hD hS
  have hx := F.1
  have hb := F.2.1
  unfold f_X9_group_0 at h
  refine lv_aload_n hx hb dX9_group_0 rfl (lv_at hl 0 rfl) ?_
  refine r_get F hP i_X9 24 (xe_24 E q) rfl 2 (by decide) rfl lf_X9_28 rfl dX9_group_1 ?_
  refine lv_iload_n hx hb dX9_group_4 rfl (lv_at hl 1 rfl) ?_
  obtain ⟨r1, e2, h⟩ := Option.bind_eq_some_iff.mp h
  refine q_callV (As := [.int x1]) (rest := []) F hA hP hD hS (c_X2_has (E := E) (l := l) q x1 e2) k_X2_has in_X2_has se_X2_has lm_X9_129 29 (xe_29 E q) rfl ⟨rfl, rfl⟩ ⟨by decide, by decide⟩ rfl hl.1 rfl (Nat.le_of_ble_eq_true rfl) dX9_group_5 ⟨by decide, by decide⟩ ?_
  intro H locs hP hD hS
  refine lv_if_eq (tgt := 24) hx hb dX9_group_8 (by decide) (fun c3 => ?_) (fun c3 => ?_)
  · rw [if_pos c3] at h
    refine lv_iconst (v := 0) hx hb dX9_group_24 (by decide) ?_
    cases h
    exact hRt _ _ zz_0 dX9_group_25 _ _ hP hD hS
  · rw [if_neg c3] at h
    refine lv_aload_n hx hb dX9_group_11 rfl (lv_at hl 0 rfl) ?_
    refine r_get F hP i_X9 24 (xe_24 E q) rfl 2 (by decide) rfl lf_X9_28 rfl dX9_group_12 ?_
    refine r_get F hP i_X2 29 (xe_29 E q) rfl 1 (by decide) rfl lf_X9_148 rfl dX9_group_15 ?_
    refine lv_iload_n hx hb dX9_group_18 rfl (lv_at hl 1 rfl) ?_
    obtain ⟨y4, e5, h⟩ := Option.bind_eq_some_iff.mp h
    refine r_iald F hP 30 (xe_30 E q) e5 dX9_group_19 ?_
    refine lv_iconst (v := 4) hx hb dX9_group_20 (by decide) ?_
    refine lv_icmp_eq (tgt := 26) hx hb dX9_group_21 (by decide) (fun c6 => ?_) (fun c6 => ?_)
    · rw [if_pos c6] at h
      refine lv_aload_n hx hb dX9_group_26 rfl (lv_at hl 0 rfl) ?_
      refine r_get F hP i_X9 24 (xe_24 E q) rfl 3 (by decide) rfl lf_X9_35 rfl dX9_group_27 ?_
      refine lv_aload_n hx hb dX9_group_30 rfl (lv_at hl 0 rfl) ?_
      refine r_get F hP i_X9 24 (xe_24 E q) rfl 2 (by decide) rfl lf_X9_28 rfl dX9_group_31 ?_
      refine r_get F hP i_X2 29 (xe_29 E q) rfl 5 (by decide) rfl lf_X9_149 rfl dX9_group_34 ?_
      refine lv_iload_n hx hb dX9_group_37 rfl (lv_at hl 1 rfl) ?_
      obtain ⟨y7, e8, h⟩ := Option.bind_eq_some_iff.mp h
      refine r_iald F hP 34 (xe_34 E q) e8 dX9_group_38 ?_
      refine lv_aload_n hx hb dX9_group_39 rfl (lv_at hl 0 rfl) ?_
      refine r_get F hP i_X9 24 (xe_24 E q) rfl 2 (by decide) rfl lf_X9_28 rfl dX9_group_40 ?_
      refine r_get F hP i_X2 29 (xe_29 E q) rfl 6 (by decide) rfl lf_X9_152 rfl dX9_group_43 ?_
      refine lv_iload_n hx hb dX9_group_46 rfl (lv_at hl 1 rfl) ?_
      obtain ⟨y9, e10, h⟩ := Option.bind_eq_some_iff.mp h
      refine r_iald F hP 35 (xe_35 E q) e10 dX9_group_47 ?_
      obtain ⟨r11, e12, h⟩ := Option.bind_eq_some_iff.mp h
      refine q_callV (As := [.int y7, .int y9]) (rest := []) F hA hP hD hS (c_X4_addGroup (E := E) (l := l) q y7 y9 e12) k_X4_addGroup in_X4_addGroup se_X4_addGroup lm_X9_155 38 (xe_38 E q) rfl ⟨rfl, rfl⟩ ⟨by decide, by decide⟩ rfl hl.1 rfl (Nat.le_of_ble_eq_true rfl) dX9_group_48 ⟨by decide, by decide⟩ ?_
      intro H locs hP hD hS
      by_cases z13 : vp_nar .boolean r11.1 = r11.1
      rotate_left
      · rw [if_neg z13] at h; cases h
      rw [if_pos z13] at h
      cases h
      exact hRt _ _ z13 dX9_group_51 _ _ hP hD hS
    · rw [if_neg c6] at h
      refine lv_iconst (v := 0) hx hb dX9_group_24 (by decide) ?_
      cases h
      exact hRt _ _ zz_0 dX9_group_25 _ _ hP hD hS
def f_X9_group (q : QS) (x1 : Int32) : Option (Int32 × QS) := f_X9_group_0 q x1
set_option maxRecDepth 100000 in
theorem c_X9_group {E : En} {l : Launch} (q : QS) (x1 : Int32) {o : Int32 × QS} (h : f_X9_group q x1 = some o) : Ct (wX E) E l yX9_group (wy yX9_group cX9_group 2 (some .boolean)) rm_X9_group q o.2 [.ref (eA E 24), .int x1] (some (.int o.1)) :=
  ct_Z (o := o) (by decide +kernel) (fun p e s m below meth c A Q F hA hRt H locs hP hD hS => en_W [.ref (eA E 24), .int x1] (Nat.le_of_ble_eq_true rfl) (fun ls hl => g_X9_group_0 F hA hRt q x1 h ls (lv_sub hl [0, 1] rfl) H locs hP hD hS))
def rm_X9_order : Room := { frames := 1, cells := 0, slots := 0, locals := 22 }
def f_X9_order_0 (q : QS) (x1 : Int32) (x2 : Int32) : Option (Int32 × QS) :=
  (f_X4_addOrder q x1 x2).bind fun r1 =>
  if vp_nar .boolean r1.1 = r1.1 then some (r1.1, r1.2) else none
set_option maxHeartbeats 4000000 in
set_option maxRecDepth 100000 in
theorem g_X9_order_0 {E : En} {p : Program} {l : Launch} {e : Env} {s : State} {m : MethodId} {args : Array Value} {below : List Frame} {meth : Method} {c : Code} {A : Nat → Prop} {Q : State → Prop} (F : Fx E p s m args meth c (yX9_order).cls cX9_order 3 (some .boolean)) (hA : ∀ z : Nat, s.heap.size ≤ z → A z) {o : Int32 × QS} (hRt : RtZ (wX E) E p l e rm_X9_order s m args below meth c A Q cX9_order o) (q : QS) (x1 : Int32) (x2 : Int32) (h : f_X9_order_0 q x1 x2 = some o) (ls : Array Slot) (hl : lv_has ls 3 [(0, .ref (eA E 24)), (1, .int x1), (2, .int x2)]) : Wq (wX E) E p l e rm_X9_order s m args below meth c A 0 0 Q q (F0 m 0 ls []) := by
  intro H locs hP hD hS
  have hx := F.1
  have hb := F.2.1
  unfold f_X9_order_0 at h
  refine lv_aload_n hx hb dX9_order_0 rfl (lv_at hl 0 rfl) ?_
  refine r_get F hP i_X9 24 (xe_24 E q) rfl 3 (by decide) rfl lf_X9_35 rfl dX9_order_1 ?_
  refine lv_iload_n hx hb dX9_order_4 rfl (lv_at hl 1 rfl) ?_
  refine lv_iload_n hx hb dX9_order_5 rfl (lv_at hl 2 rfl) ?_
  obtain ⟨r1, e2, h⟩ := Option.bind_eq_some_iff.mp h
  refine q_callV (As := [.int x1, .int x2]) (rest := []) F hA hP hD hS (c_X4_addOrder (E := E) (l := l) q x1 x2 e2) k_X4_addOrder in_X4_addOrder se_X4_addOrder lm_X9_158 38 (xe_38 E q) rfl ⟨rfl, rfl⟩ ⟨by decide, by decide⟩ rfl hl.1 rfl (Nat.le_of_ble_eq_true rfl) dX9_order_6 ⟨by decide, by decide⟩ ?_
  intro H locs hP hD hS
  by_cases z3 : vp_nar .boolean r1.1 = r1.1
  rotate_left
  · rw [if_neg z3] at h; cases h
  rw [if_pos z3] at h
  cases h
  exact hRt _ _ z3 dX9_order_9 _ _ hP hD hS
def f_X9_order (q : QS) (x1 : Int32) (x2 : Int32) : Option (Int32 × QS) := f_X9_order_0 q x1 x2
set_option maxRecDepth 100000 in
theorem c_X9_order {E : En} {l : Launch} (q : QS) (x1 : Int32) (x2 : Int32) {o : Int32 × QS} (h : f_X9_order q x1 x2 = some o) : Ct (wX E) E l yX9_order (wy yX9_order cX9_order 3 (some .boolean)) rm_X9_order q o.2 [.ref (eA E 24), .int x1, .int x2] (some (.int o.1)) :=
  ct_Z (o := o) (by decide +kernel) (fun p e s m below meth c A Q F hA hRt H locs hP hD hS => en_W [.ref (eA E 24), .int x1, .int x2] (Nat.le_of_ble_eq_true rfl) (fun ls hl => g_X9_order_0 F hA hRt q x1 x2 h ls (lv_sub hl [0, 1, 2] rfl) H locs hP hD hS))
def rm_X9_limit : Room := { frames := 0, cells := 0, slots := 0, locals := 0 }
def f_X9_limit_0 (q : QS) (x1 : Int32) : Option (Int32 × QS) :=
  if (-1 : Int32) ≤ x1 then
    some ((1 : Int32), (uF q 10 x1))
  else
    some ((0 : Int32), q)
set_option maxHeartbeats 4000000 in
set_option maxRecDepth 100000 in
theorem g_X9_limit_0 {E : En} {p : Program} {l : Launch} {e : Env} {s : State} {m : MethodId} {args : Array Value} {below : List Frame} {meth : Method} {c : Code} {A : Nat → Prop} {Q : State → Prop} (F : Fx E p s m args meth c (yX9_limit).cls cX9_limit 2 (some .boolean)) (hA : ∀ z : Nat, s.heap.size ≤ z → A z) {o : Int32 × QS} (hRt : RtZ (wX E) E p l e rm_X9_limit s m args below meth c A Q cX9_limit o) (q : QS) (x1 : Int32) (h : f_X9_limit_0 q x1 = some o) (ls : Array Slot) (hl : lv_has ls 2 [(0, .ref (eA E 24)), (1, .int x1)]) : Wq (wX E) E p l e rm_X9_limit s m args below meth c A 0 0 Q q (F0 m 0 ls []) := by
  intro H locs hP hD hS
  have hx := F.1
  have hb := F.2.1
  unfold f_X9_limit_0 at h
  refine lv_iload_n hx hb dX9_limit_0 rfl (lv_at hl 1 rfl) ?_
  refine lv_iconst (v := (-1)) hx hb dX9_limit_1 (by decide) ?_
  refine lv_icmp_ge (tgt := 7) hx hb dX9_limit_2 (by decide) (fun c1 => ?_) (fun c1 => ?_)
  · rw [if_pos c1] at h
    refine lv_aload_n hx hb dX9_limit_7 rfl (lv_at hl 0 rfl) ?_
    refine r_get F hP i_X9 24 (xe_24 E q) rfl 3 (by decide) rfl lf_X9_35 rfl dX9_limit_8 ?_
    refine lv_iload_n hx hb dX9_limit_11 rfl (lv_at hl 1 rfl) ?_
    refine r_put (ty := .int) (q1 := (uF q 10 x1)) F hP hD hS i_X4 tyX4_ok nmX4 38 (xe_38 E q) rfl 4 (by decide) rfl lf_X9_162 rfl (by decide +kernel) rfl rfl (Nat.le_of_ble_eq_true rfl) (xf_38_10 E q x1) dX9_limit_12 ?_
    intro H locs hP hD hS
    refine lv_iconst (v := 1) hx hb dX9_limit_15 (by decide) ?_
    cases h
    exact hRt _ _ zz_1 dX9_limit_16 _ _ hP hD hS
  · rw [if_neg c1] at h
    refine lv_iconst (v := 0) hx hb dX9_limit_5 (by decide) ?_
    cases h
    exact hRt _ _ zz_0 dX9_limit_6 _ _ hP hD hS
def f_X9_limit (q : QS) (x1 : Int32) : Option (Int32 × QS) := f_X9_limit_0 q x1
set_option maxRecDepth 100000 in
theorem c_X9_limit {E : En} {l : Launch} (q : QS) (x1 : Int32) {o : Int32 × QS} (h : f_X9_limit q x1 = some o) : Ct (wX E) E l yX9_limit (wy yX9_limit cX9_limit 2 (some .boolean)) rm_X9_limit q o.2 [.ref (eA E 24), .int x1] (some (.int o.1)) :=
  ct_Z (o := o) (by decide +kernel) (fun p e s m below meth c A Q F hA hRt H locs hP hD hS => en_W [.ref (eA E 24), .int x1] (Nat.le_of_ble_eq_true rfl) (fun ls hl => g_X9_limit_0 F hA hRt q x1 h ls (lv_sub hl [0, 1] rfl) H locs hP hD hS))
def rm_X9_distinct : Room := { frames := 0, cells := 0, slots := 0, locals := 0 }
def f_X9_distinct_0 (q : QS) (x1 : Int32) : Option (QS) :=
  if vp_nar .boolean x1 = x1 then
    some (uF q 11 x1)
  else none
set_option maxHeartbeats 4000000 in
set_option maxRecDepth 100000 in
theorem g_X9_distinct_0 {E : En} {p : Program} {l : Launch} {e : Env} {s : State} {m : MethodId} {args : Array Value} {below : List Frame} {meth : Method} {c : Code} {A : Nat → Prop} {Q : State → Prop} (F : Fx E p s m args meth c (yX9_distinct).cls cX9_distinct 2 none) (hA : ∀ z : Nat, s.heap.size ≤ z → A z) {o : QS} (hRt : RtV (wX E) E p l e rm_X9_distinct s m args below meth c A Q cX9_distinct o) (q : QS) (x1 : Int32) (h : f_X9_distinct_0 q x1 = some o) (ls : Array Slot) (hl : lv_has ls 2 [(0, .ref (eA E 24)), (1, .int x1)]) : Wq (wX E) E p l e rm_X9_distinct s m args below meth c A 0 0 Q q (F0 m 0 ls []) := by
  intro H locs hP hD hS
  have hx := F.1
  have hb := F.2.1
  unfold f_X9_distinct_0 at h
  refine lv_aload_n hx hb dX9_distinct_0 rfl (lv_at hl 0 rfl) ?_
  refine r_get F hP i_X9 24 (xe_24 E q) rfl 3 (by decide) rfl lf_X9_35 rfl dX9_distinct_1 ?_
  refine lv_iload_n hx hb dX9_distinct_4 rfl (lv_at hl 1 rfl) ?_
  by_cases z1 : vp_nar .boolean x1 = x1
  rotate_left
  · rw [if_neg z1] at h; cases h
  rw [if_pos z1] at h
  refine r_put (ty := .boolean) (q1 := (uF q 11 x1)) F hP hD hS i_X4 tyX4_ok nmX4 38 (xe_38 E q) rfl 5 (by decide) rfl lf_X9_165 rfl (by decide +kernel) (zz_nar z1) (zz_fit z1) (Nat.le_of_ble_eq_true rfl) (xf_38_11 E q x1) dX9_distinct_5 ?_
  intro H locs hP hD hS
  cases h
  exact hRt _ _ dX9_distinct_8 _ _ hP hD hS
def f_X9_distinct (q : QS) (x1 : Int32) : Option (QS) := f_X9_distinct_0 q x1
set_option maxRecDepth 100000 in
theorem c_X9_distinct {E : En} {l : Launch} (q : QS) (x1 : Int32) {o : QS} (h : f_X9_distinct q x1 = some o) : Ct (wX E) E l yX9_distinct (wy yX9_distinct cX9_distinct 2 none) rm_X9_distinct q o [.ref (eA E 24), .int x1] none :=
  ct_V (o := o) (by decide +kernel) (fun p e s m below meth c A Q F hA hRt H locs hP hD hS => en_W [.ref (eA E 24), .int x1] (Nat.le_of_ble_eq_true rfl) (fun ls hl => g_X9_distinct_0 F hA hRt q x1 h ls (lv_sub hl [0, 1] rfl) H locs hP hD hS))
def rm_X9_kind : Room := { frames := 1, cells := 0, slots := 0, locals := 22 }
def f_X9_kind_0 (q : QS) (x1 : Int32) (x2 : Int32) : Option (Int32) :=
  (f_X0_has q x1 x2).bind fun r1 =>
  if r1 = 0 then
    some (-1 : Int32)
  else
    (f_X0_placeOf x1 x2).bind fun r4 =>
    (rd (qI q 10) 512 r4).bind fun y6 =>
    some y6
set_option maxHeartbeats 4000000 in
set_option maxRecDepth 100000 in
theorem g_X9_kind_0 {E : En} {p : Program} {l : Launch} {e : Env} {s : State} {m : MethodId} {args : Array Value} {below : List Frame} {meth : Method} {c : Code} {A : Nat → Prop} {Q : State → Prop} (F : Fx E p s m args meth c (yX9_kind).cls cX9_kind 3 (some .int)) (hA : ∀ z : Nat, s.heap.size ≤ z → A z) {q : QS} {o : Int32} (hRt : RtI (wX E) E p l e rm_X9_kind s m args below meth c A Q cX9_kind (o, q)) (x1 : Int32) (x2 : Int32) (h : f_X9_kind_0 q x1 x2 = some o) (ls : Array Slot) (hl : lv_has ls 3 [(0, .ref (eA E 24)), (1, .int x1), (2, .int x2)]) : Wq (wX E) E p l e rm_X9_kind s m args below meth c A 0 0 Q q (F0 m 0 ls []) := by
  intro H locs hP hD hS
  have hx := F.1
  have hb := F.2.1
  unfold f_X9_kind_0 at h
  refine lv_aload_n hx hb dX9_kind_0 rfl (lv_at hl 0 rfl) ?_
  refine r_get F hP i_X9 24 (xe_24 E q) rfl 4 (by decide) rfl lf_X9_42 rfl dX9_kind_1 ?_
  refine lv_iload_n hx hb dX9_kind_4 rfl (lv_at hl 1 rfl) ?_
  refine lv_iload_n hx hb dX9_kind_5 rfl (lv_at hl 2 rfl) ?_
  obtain ⟨r1, e2, h⟩ := Option.bind_eq_some_iff.mp h
  refine q_callV (As := [.int x1, .int x2]) (rest := []) F hA hP hD hS (c_X0_has (E := E) (l := l) q x1 x2 e2) k_X0_has in_X0_has se_X0_has lm_X9_209 44 (xe_44 E q) rfl ⟨rfl, rfl⟩ ⟨by decide, by decide⟩ rfl hl.1 rfl (Nat.le_of_ble_eq_true rfl) dX9_kind_6 ⟨by decide, by decide⟩ ?_
  intro H locs hP hD hS
  refine lv_if_eq (tgt := 35) hx hb dX9_kind_9 (by decide) (fun c3 => ?_) (fun c3 => ?_)
  · rw [if_pos c3] at h
    refine lv_iconst (v := (-1)) hx hb dX9_kind_35 (by decide) ?_
    cases h
    exact hRt _ _ dX9_kind_36 _ _ hP hD hS
  · rw [if_neg c3] at h
    refine lv_aload_n hx hb dX9_kind_12 rfl (lv_at hl 0 rfl) ?_
    refine r_get F hP i_X9 24 (xe_24 E q) rfl 4 (by decide) rfl lf_X9_42 rfl dX9_kind_13 ?_
    refine r_get F hP i_X0 44 (xe_44 E q) rfl 2 (by decide) rfl lf_X9_211 rfl dX9_kind_16 ?_
    refine r_get F hP i_X8 9 (xe_9 E q) rfl 0 (by decide) rfl lf_X9_85 rfl dX9_kind_19 ?_
    refine lv_aload_n hx hb dX9_kind_22 rfl (lv_at hl 0 rfl) ?_
    refine r_get F hP i_X9 24 (xe_24 E q) rfl 4 (by decide) rfl lf_X9_42 rfl dX9_kind_23 ?_
    refine lv_iload_n hx hb dX9_kind_26 rfl (lv_at hl 1 rfl) ?_
    refine lv_iload_n hx hb dX9_kind_27 rfl (lv_at hl 2 rfl) ?_
    obtain ⟨r4, e5, h⟩ := Option.bind_eq_some_iff.mp h
    refine q_callV (As := [.int x1, .int x2]) (rest := [.ref (eA E 10)]) F hA hP hD hS (c_X0_placeOf (E := E) (l := l) q x1 x2 e5) k_X0_placeOf in_X0_placeOf se_X0_placeOf lm_X9_214 44 (xe_44 E q) rfl ⟨rfl, rfl⟩ ⟨by decide, by decide⟩ rfl hl.1 rfl (Nat.le_of_ble_eq_true rfl) dX9_kind_28 ⟨by decide, by decide⟩ ?_
    intro H locs hP hD hS
    obtain ⟨y6, e7, h⟩ := Option.bind_eq_some_iff.mp h
    refine r_iald F hP 10 (xe_10 E q) e7 dX9_kind_31 ?_
    refine lv_goto (tgt := 36) hx hb dX9_kind_32 (by decide) ?_
    cases h
    exact hRt _ _ dX9_kind_36 _ _ hP hD hS
def f_X9_kind (q : QS) (x1 : Int32) (x2 : Int32) : Option (Int32) := f_X9_kind_0 q x1 x2
set_option maxRecDepth 100000 in
theorem c_X9_kind {E : En} {l : Launch} (q : QS) (x1 : Int32) (x2 : Int32) {o : Int32} (h : f_X9_kind q x1 x2 = some o) : Ct (wX E) E l yX9_kind (wy yX9_kind cX9_kind 3 (some .int)) rm_X9_kind q q [.ref (eA E 24), .int x1, .int x2] (some (.int o)) :=
  ct_I (o := (o, q)) (by decide +kernel) rfl (fun p e s m below meth c A Q F hA hRt H locs hP hD hS => en_W [.ref (eA E 24), .int x1, .int x2] (Nat.le_of_ble_eq_true rfl) (fun ls hl => g_X9_kind_0 F hA hRt x1 x2 h ls (lv_sub hl [0, 1, 2] rfl) H locs hP hD hS))
def rm_X9_value : Room := { frames := 1, cells := 0, slots := 0, locals := 22 }
def f_X9_value_0 (q : QS) (x1 : Int32) (x2 : Int32) : Option (Int64) :=
  (f_X0_has q x1 x2).bind fun r1 =>
  if r1 = 0 then
    some (0 : Int64)
  else
    (f_X0_placeOf x1 x2).bind fun r4 =>
    (rd (qI q 10) 512 r4).bind fun y6 =>
    if y6 = 0 then
      some (0 : Int64)
    else
    if y6 = 2 then
      (f_X8_lengthOf 3 q r4).bind fun r10 =>
      some ((r10).toInt64)
    else
      (f_X8_numberOf 3 q r4).bind fun r12 =>
      some r12
set_option maxHeartbeats 4000000 in
set_option maxRecDepth 100000 in
theorem g_X9_value_0 {E : En} {p : Program} {l : Launch} {e : Env} {s : State} {m : MethodId} {args : Array Value} {below : List Frame} {meth : Method} {c : Code} {A : Nat → Prop} {Q : State → Prop} (F : Fx E p s m args meth c (yX9_value).cls cX9_value 4 (some .long)) (hA : ∀ z : Nat, s.heap.size ≤ z → A z) {q : QS} {o : Int64} (hRt : RtL (wX E) E p l e rm_X9_value s m args below meth c A Q cX9_value (o, q)) (x1 : Int32) (x2 : Int32) (h : f_X9_value_0 q x1 x2 = some o) (ls : Array Slot) (hl : lv_has ls 4 [(0, .ref (eA E 24)), (1, .int x1), (2, .int x2)]) : Wq (wX E) E p l e rm_X9_value s m args below meth c A 0 0 Q q (F0 m 0 ls []) := by
  intro H locs hP hD hS
  have hx := F.1
  have hb := F.2.1
  unfold f_X9_value_0 at h
  refine lv_aload_n hx hb dX9_value_0 rfl (lv_at hl 0 rfl) ?_
  refine r_get F hP i_X9 24 (xe_24 E q) rfl 4 (by decide) rfl lf_X9_42 rfl dX9_value_1 ?_
  refine lv_iload_n hx hb dX9_value_4 rfl (lv_at hl 1 rfl) ?_
  refine lv_iload_n hx hb dX9_value_5 rfl (lv_at hl 2 rfl) ?_
  obtain ⟨r1, e2, h⟩ := Option.bind_eq_some_iff.mp h
  refine q_callV (As := [.int x1, .int x2]) (rest := []) F hA hP hD hS (c_X0_has (E := E) (l := l) q x1 x2 e2) k_X0_has in_X0_has se_X0_has lm_X9_209 44 (xe_44 E q) rfl ⟨rfl, rfl⟩ ⟨by decide, by decide⟩ rfl hl.1 rfl (Nat.le_of_ble_eq_true rfl) dX9_value_6 ⟨by decide, by decide⟩ ?_
  intro H locs hP hD hS
  refine lv_if_ne (tgt := 14) hx hb dX9_value_9 (by decide) (fun c3 => ?_) (fun c3 => ?_)
  · rw [if_neg c3] at h
    refine lv_aload_n hx hb dX9_value_14 rfl (lv_at hl 0 rfl) ?_
    refine r_get F hP i_X9 24 (xe_24 E q) rfl 4 (by decide) rfl lf_X9_42 rfl dX9_value_15 ?_
    refine lv_iload_n hx hb dX9_value_18 rfl (lv_at hl 1 rfl) ?_
    refine lv_iload_n hx hb dX9_value_19 rfl (lv_at hl 2 rfl) ?_
    obtain ⟨r4, e5, h⟩ := Option.bind_eq_some_iff.mp h
    refine q_callV (As := [.int x1, .int x2]) (rest := []) F hA hP hD hS (c_X0_placeOf (E := E) (l := l) q x1 x2 e5) k_X0_placeOf in_X0_placeOf se_X0_placeOf lm_X9_214 44 (xe_44 E q) rfl ⟨rfl, rfl⟩ ⟨by decide, by decide⟩ rfl hl.1 rfl (Nat.le_of_ble_eq_true rfl) dX9_value_20 ⟨by decide, by decide⟩ ?_
    intro H locs hP hD hS
    refine lv_istore_n (lv' := [(3, .int r4), (0, .ref (eA E 24)), (1, .int x1), (2, .int x2)]) hx hb dX9_value_23 rfl hl (by decide) rfl (fun ls hl => ?_)
    refine lv_aload_n hx hb dX9_value_24 rfl (lv_at hl 1 rfl) ?_
    refine r_get F hP i_X9 24 (xe_24 E q) rfl 4 (by decide) rfl lf_X9_42 rfl dX9_value_25 ?_
    refine r_get F hP i_X0 44 (xe_44 E q) rfl 2 (by decide) rfl lf_X9_211 rfl dX9_value_28 ?_
    refine r_get F hP i_X8 9 (xe_9 E q) rfl 0 (by decide) rfl lf_X9_85 rfl dX9_value_31 ?_
    refine lv_iload_n hx hb dX9_value_34 rfl (lv_at hl 0 rfl) ?_
    obtain ⟨y6, e7, h⟩ := Option.bind_eq_some_iff.mp h
    refine r_iald F hP 10 (xe_10 E q) e7 dX9_value_35 ?_
    by_cases c8 : y6 = 0
    · rw [if_pos c8] at h
      refine lv_lookup (tgt := 64) (off := 28) hx hb dX9_value_36 (by decide) (by rw [c8]; decide) (by decide) ?_
      refine lv_lconst (v := 0) hx hb dX9_value_64 (by decide) ?_
      cases h
      exact hRt _ _ dX9_value_65 _ _ hP hD hS
    rw [if_neg c8] at h
    by_cases c9 : y6 = 2
    · rw [if_pos c9] at h
      refine lv_lookup (tgt := 66) (off := 30) hx hb dX9_value_36 (by decide) (by rw [c9]; decide) (by decide) ?_
      refine lv_aload_n hx hb dX9_value_66 rfl (lv_at hl 1 rfl) ?_
      refine r_get F hP i_X9 24 (xe_24 E q) rfl 4 (by decide) rfl lf_X9_42 rfl dX9_value_67 ?_
      refine r_get F hP i_X0 44 (xe_44 E q) rfl 2 (by decide) rfl lf_X9_211 rfl dX9_value_70 ?_
      refine lv_iload_n hx hb dX9_value_73 rfl (lv_at hl 0 rfl) ?_
      obtain ⟨r10, e11, h⟩ := Option.bind_eq_some_iff.mp h
      refine q_callV (As := [.int r4]) (rest := []) F hA hP hD hS (c_X8_lengthOf (E := E) (l := l) (v := 3) (by decide) q r4 e11) k_X8_lengthOf in_X8_lengthOf se_X8_lengthOf lm_X9_89 9 (xe_9 E q) rfl ⟨rfl, rfl⟩ ⟨by decide, by decide⟩ rfl hl.1 rfl (Nat.le_of_ble_eq_true rfl) dX9_value_74 ⟨by decide, by decide⟩ ?_
      intro H locs hP hD hS
      refine lv_i2l (v := ((r10).toInt64)) hx hb dX9_value_77 rfl ?_
      cases h
      exact hRt _ _ dX9_value_78 _ _ hP hD hS
    rw [if_neg c9] at h
    refine lv_lookup (tgt := 79) (off := 43) hx hb dX9_value_36 (by decide) (by rw [show ∀ r o d, Op.lookupswitch.offset ((0, o) :: r) d (y6).toInt = Op.lookupswitch.offset r d (y6).toInt from fun r o d => lv_osw (k := 0) c8 (by decide)]; rw [show ∀ r o d, Op.lookupswitch.offset ((2, o) :: r) d (y6).toInt = Op.lookupswitch.offset r d (y6).toInt from fun r o d => lv_osw (k := 2) c9 (by decide)]; rfl) (by decide) ?_
    refine lv_aload_n hx hb dX9_value_79 rfl (lv_at hl 1 rfl) ?_
    refine r_get F hP i_X9 24 (xe_24 E q) rfl 4 (by decide) rfl lf_X9_42 rfl dX9_value_80 ?_
    refine r_get F hP i_X0 44 (xe_44 E q) rfl 2 (by decide) rfl lf_X9_211 rfl dX9_value_83 ?_
    refine lv_iload_n hx hb dX9_value_86 rfl (lv_at hl 0 rfl) ?_
    obtain ⟨r12, e13, h⟩ := Option.bind_eq_some_iff.mp h
    refine q_callV (As := [.int r4]) (rest := []) F hA hP hD hS (c_X8_numberOf (E := E) (l := l) (v := 3) (by decide) q r4 e13) k_X8_numberOf in_X8_numberOf se_X8_numberOf lm_X9_217 9 (xe_9 E q) rfl ⟨rfl, rfl⟩ ⟨by decide, by decide⟩ rfl hl.1 rfl (Nat.le_of_ble_eq_true rfl) dX9_value_87 ⟨by decide, by decide⟩ ?_
    intro H locs hP hD hS
    cases h
    exact hRt _ _ dX9_value_90 _ _ hP hD hS
  · rw [if_pos c3] at h
    refine lv_lconst (v := 0) hx hb dX9_value_12 (by decide) ?_
    cases h
    exact hRt _ _ dX9_value_13 _ _ hP hD hS
def f_X9_value (q : QS) (x1 : Int32) (x2 : Int32) : Option (Int64) := f_X9_value_0 q x1 x2
set_option maxRecDepth 100000 in
theorem c_X9_value {E : En} {l : Launch} (q : QS) (x1 : Int32) (x2 : Int32) {o : Int64} (h : f_X9_value q x1 x2 = some o) : Ct (wX E) E l yX9_value (wy yX9_value cX9_value 4 (some .long)) rm_X9_value q q [.ref (eA E 24), .int x1, .int x2] (some (.long o)) :=
  ct_L (o := (o, q)) (by decide +kernel) (fun p e s m below meth c A Q F hA hRt H locs hP hD hS => en_W [.ref (eA E 24), .int x1, .int x2] (Nat.le_of_ble_eq_true rfl) (fun ls hl => g_X9_value_0 F hA hRt x1 x2 h ls (lv_sub hl [0, 1, 2] rfl) H locs hP hD hS))
def rm_X9_letter : Room := { frames := 1, cells := 0, slots := 0, locals := 22 }
def f_X9_letter_0 (q : QS) (x1 : Int32) (x2 : Int32) (x3 : Int32) : Option (Int32) :=
  (f_X0_has q x1 x2).bind fun r1 =>
  if r1 = 0 then
    some (-1 : Int32)
  else
    (f_X0_placeOf x1 x2).bind fun r4 =>
    (rd (qI q 10) 512 r4).bind fun y6 =>
    if y6 = (2 : Int32) then
      if x3 < 0 then
        some (-1 : Int32)
      else
        (f_X8_lengthOf 3 q r4).bind fun r10 =>
        if x3 < r10 then
          (f_X8_byteOf 3 q r4 x3).bind fun r13 =>
          some r13
        else
          some (-1 : Int32)
    else
      some (-1 : Int32)
set_option maxHeartbeats 4000000 in
set_option maxRecDepth 100000 in
theorem g_X9_letter_0 {E : En} {p : Program} {l : Launch} {e : Env} {s : State} {m : MethodId} {args : Array Value} {below : List Frame} {meth : Method} {c : Code} {A : Nat → Prop} {Q : State → Prop} (F : Fx E p s m args meth c (yX9_letter).cls cX9_letter 5 (some .int)) (hA : ∀ z : Nat, s.heap.size ≤ z → A z) {q : QS} {o : Int32} (hRt : RtI (wX E) E p l e rm_X9_letter s m args below meth c A Q cX9_letter (o, q)) (x1 : Int32) (x2 : Int32) (x3 : Int32) (h : f_X9_letter_0 q x1 x2 x3 = some o) (ls : Array Slot) (hl : lv_has ls 5 [(0, .ref (eA E 24)), (1, .int x1), (2, .int x2), (3, .int x3)]) : Wq (wX E) E p l e rm_X9_letter s m args below meth c A 0 0 Q q (F0 m 0 ls []) := by
  intro H locs hP hD hS
  have hx := F.1
  have hb := F.2.1
  unfold f_X9_letter_0 at h
  refine lv_aload_n hx hb dX9_letter_0 rfl (lv_at hl 0 rfl) ?_
  refine r_get F hP i_X9 24 (xe_24 E q) rfl 4 (by decide) rfl lf_X9_42 rfl dX9_letter_1 ?_
  refine lv_iload_n hx hb dX9_letter_4 rfl (lv_at hl 1 rfl) ?_
  refine lv_iload_n hx hb dX9_letter_5 rfl (lv_at hl 2 rfl) ?_
  obtain ⟨r1, e2, h⟩ := Option.bind_eq_some_iff.mp h
  refine q_callV (As := [.int x1, .int x2]) (rest := []) F hA hP hD hS (c_X0_has (E := E) (l := l) q x1 x2 e2) k_X0_has in_X0_has se_X0_has lm_X9_209 44 (xe_44 E q) rfl ⟨rfl, rfl⟩ ⟨by decide, by decide⟩ rfl hl.1 rfl (Nat.le_of_ble_eq_true rfl) dX9_letter_6 ⟨by decide, by decide⟩ ?_
  intro H locs hP hD hS
  refine lv_if_ne (tgt := 14) hx hb dX9_letter_9 (by decide) (fun c3 => ?_) (fun c3 => ?_)
  · rw [if_neg c3] at h
    refine lv_aload_n hx hb dX9_letter_14 rfl (lv_at hl 0 rfl) ?_
    refine r_get F hP i_X9 24 (xe_24 E q) rfl 4 (by decide) rfl lf_X9_42 rfl dX9_letter_15 ?_
    refine lv_iload_n hx hb dX9_letter_18 rfl (lv_at hl 1 rfl) ?_
    refine lv_iload_n hx hb dX9_letter_19 rfl (lv_at hl 2 rfl) ?_
    obtain ⟨r4, e5, h⟩ := Option.bind_eq_some_iff.mp h
    refine q_callV (As := [.int x1, .int x2]) (rest := []) F hA hP hD hS (c_X0_placeOf (E := E) (l := l) q x1 x2 e5) k_X0_placeOf in_X0_placeOf se_X0_placeOf lm_X9_214 44 (xe_44 E q) rfl ⟨rfl, rfl⟩ ⟨by decide, by decide⟩ rfl hl.1 rfl (Nat.le_of_ble_eq_true rfl) dX9_letter_20 ⟨by decide, by decide⟩ ?_
    intro H locs hP hD hS
    refine lv_istore (lv' := [(4, .int r4), (0, .ref (eA E 24)), (1, .int x1), (2, .int x2), (3, .int x3)]) hx hb dX9_letter_23 hl (by decide) rfl (fun ls hl => ?_)
    refine lv_aload_n hx hb dX9_letter_25 rfl (lv_at hl 1 rfl) ?_
    refine r_get F hP i_X9 24 (xe_24 E q) rfl 4 (by decide) rfl lf_X9_42 rfl dX9_letter_26 ?_
    refine r_get F hP i_X0 44 (xe_44 E q) rfl 2 (by decide) rfl lf_X9_211 rfl dX9_letter_29 ?_
    refine r_get F hP i_X8 9 (xe_9 E q) rfl 0 (by decide) rfl lf_X9_85 rfl dX9_letter_32 ?_
    refine lv_iload hx hb dX9_letter_35 (lv_at hl 0 rfl) ?_
    obtain ⟨y6, e7, h⟩ := Option.bind_eq_some_iff.mp h
    refine r_iald F hP 10 (xe_10 E q) e7 dX9_letter_37 ?_
    refine lv_iconst (v := 2) hx hb dX9_letter_38 (by decide) ?_
    refine lv_icmp_ne (tgt := 62) hx hb dX9_letter_39 (by decide) (fun c8 => ?_) (fun c8 => ?_)
    · rw [if_neg c8] at h
      refine lv_iconst (v := (-1)) hx hb dX9_letter_62 (by decide) ?_
      cases h
      exact hRt _ _ dX9_letter_63 _ _ hP hD hS
    · rw [if_pos c8] at h
      refine lv_iload_n hx hb dX9_letter_42 rfl (lv_at hl 4 rfl) ?_
      refine lv_if_lt (tgt := 62) hx hb dX9_letter_43 (by decide) (fun c9 => ?_) (fun c9 => ?_)
      · rw [if_pos c9] at h
        refine lv_iconst (v := (-1)) hx hb dX9_letter_62 (by decide) ?_
        cases h
        exact hRt _ _ dX9_letter_63 _ _ hP hD hS
      · rw [if_neg c9] at h
        refine lv_iload_n hx hb dX9_letter_46 rfl (lv_at hl 4 rfl) ?_
        refine lv_aload_n hx hb dX9_letter_47 rfl (lv_at hl 1 rfl) ?_
        refine r_get F hP i_X9 24 (xe_24 E q) rfl 4 (by decide) rfl lf_X9_42 rfl dX9_letter_48 ?_
        refine r_get F hP i_X0 44 (xe_44 E q) rfl 2 (by decide) rfl lf_X9_211 rfl dX9_letter_51 ?_
        refine lv_iload hx hb dX9_letter_54 (lv_at hl 0 rfl) ?_
        obtain ⟨r10, e11, h⟩ := Option.bind_eq_some_iff.mp h
        refine q_callV (As := [.int r4]) (rest := [.int x3]) F hA hP hD hS (c_X8_lengthOf (E := E) (l := l) (v := 3) (by decide) q r4 e11) k_X8_lengthOf in_X8_lengthOf se_X8_lengthOf lm_X9_89 9 (xe_9 E q) rfl ⟨rfl, rfl⟩ ⟨by decide, by decide⟩ rfl hl.1 rfl (Nat.le_of_ble_eq_true rfl) dX9_letter_56 ⟨by decide, by decide⟩ ?_
        intro H locs hP hD hS
        refine lv_icmp_lt (tgt := 64) hx hb dX9_letter_59 (by decide) (fun c12 => ?_) (fun c12 => ?_)
        · rw [if_pos c12] at h
          refine lv_aload_n hx hb dX9_letter_64 rfl (lv_at hl 1 rfl) ?_
          refine r_get F hP i_X9 24 (xe_24 E q) rfl 4 (by decide) rfl lf_X9_42 rfl dX9_letter_65 ?_
          refine r_get F hP i_X0 44 (xe_44 E q) rfl 2 (by decide) rfl lf_X9_211 rfl dX9_letter_68 ?_
          refine lv_iload hx hb dX9_letter_71 (lv_at hl 0 rfl) ?_
          refine lv_iload_n hx hb dX9_letter_73 rfl (lv_at hl 4 rfl) ?_
          obtain ⟨r13, e14, h⟩ := Option.bind_eq_some_iff.mp h
          refine q_callV (As := [.int r4, .int x3]) (rest := []) F hA hP hD hS (c_X8_byteOf (E := E) (l := l) (v := 3) (by decide) q r4 x3 e14) k_X8_byteOf in_X8_byteOf se_X8_byteOf lm_X9_221 9 (xe_9 E q) rfl ⟨rfl, rfl⟩ ⟨by decide, by decide⟩ rfl hl.1 rfl (Nat.le_of_ble_eq_true rfl) dX9_letter_74 ⟨by decide, by decide⟩ ?_
          intro H locs hP hD hS
          cases h
          exact hRt _ _ dX9_letter_77 _ _ hP hD hS
        · rw [if_neg c12] at h
          refine lv_iconst (v := (-1)) hx hb dX9_letter_62 (by decide) ?_
          cases h
          exact hRt _ _ dX9_letter_63 _ _ hP hD hS
  · rw [if_pos c3] at h
    refine lv_iconst (v := (-1)) hx hb dX9_letter_12 (by decide) ?_
    cases h
    exact hRt _ _ dX9_letter_13 _ _ hP hD hS
def f_X9_letter (q : QS) (x1 : Int32) (x2 : Int32) (x3 : Int32) : Option (Int32) := f_X9_letter_0 q x1 x2 x3
set_option maxRecDepth 100000 in
theorem c_X9_letter {E : En} {l : Launch} (q : QS) (x1 : Int32) (x2 : Int32) (x3 : Int32) {o : Int32} (h : f_X9_letter q x1 x2 x3 = some o) : Ct (wX E) E l yX9_letter (wy yX9_letter cX9_letter 5 (some .int)) rm_X9_letter q q [.ref (eA E 24), .int x1, .int x2, .int x3] (some (.int o)) :=
  ct_I (o := (o, q)) (by decide +kernel) rfl (fun p e s m below meth c A Q F hA hRt H locs hP hD hS => en_W [.ref (eA E 24), .int x1, .int x2, .int x3] (Nat.le_of_ble_eq_true rfl) (fun ls hl => g_X9_letter_0 F hA hRt x1 x2 x3 h ls (lv_sub hl [0, 1, 2, 3] rfl) H locs hP hD hS))
