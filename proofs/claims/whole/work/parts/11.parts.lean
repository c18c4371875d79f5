def rm_X0_has : Room := { frames := 0, cells := 0, slots := 0, locals := 0 }
def f_X0_has_0 (q : QS) (x1 : Int32) (x2 : Int32) : Option (Int32) :=
  if x1 < 0 then
    some (0 : Int32)
  else
    if (qF q 0) ≤ x1 then
      some (0 : Int32)
    else
      if x2 < 0 then
        some (0 : Int32)
      else
        if (qF q 1) ≤ x2 then
          some (0 : Int32)
        else
          some (1 : Int32)
set_option maxHeartbeats 4000000 in
set_option maxRecDepth 100000 in
theorem g_X0_has_0 {E : En} {p : Program} {l : Launch} {e : Env} {s : State} {m : MethodId} {args : Array Value} {below : List Frame} {meth : Method} {c : Code} {A : Nat → Prop} {Q : State → Prop} (F : Fx E p s m args meth c (yX0_has).cls cX0_has 3 (some .boolean)) (hA : ∀ z : Nat, s.heap.size ≤ z → A z) {q : QS} {o : Int32} (hRt : RtZ (wX E) E p l e rm_X0_has s m args below meth c A Q cX0_has (o, q)) (x1 : Int32) (x2 : Int32) (h : f_X0_has_0 q x1 x2 = some o) (ls : Array Slot) (hl : lv_has ls 3 [(0, .ref (eA E 44)), (1, .int x1), (2, .int x2)]) : Wq (wX E) E p l e rm_X0_has s m args below meth c A 0 0 Q q (F0 m 0 ls []) := by
  intro H locs hP hD hS
  have hx := F.1
  have hb := F.2.1
  unfold f_X0_has_0 at h
  refine lv_iload_n hx hb dX0_has_0 rfl (lv_at hl 1 rfl) ?_
  refine lv_if_lt (tgt := 28) hx hb dX0_has_1 (by decide) (fun c1 => ?_) (fun c1 => ?_)
  · rw [if_pos c1] at h
    refine lv_iconst (v := 0) hx hb dX0_has_28 (by decide) ?_
    cases h
    exact hRt _ _ zz_0 dX0_has_29 _ _ hP hD hS
  · rw [if_neg c1] at h
    refine lv_iload_n hx hb dX0_has_4 rfl (lv_at hl 1 rfl) ?_
    refine lv_aload_n hx hb dX0_has_5 rfl (lv_at hl 0 rfl) ?_
    refine r_get F hP i_X0 44 (xe_44 E q) rfl 0 (by decide) rfl lf_X0_20 rfl dX0_has_6 ?_
    refine lv_icmp_ge (tgt := 28) hx hb dX0_has_9 (by decide) (fun c2 => ?_) (fun c2 => ?_)
    · rw [if_pos c2] at h
      refine lv_iconst (v := 0) hx hb dX0_has_28 (by decide) ?_
      cases h
      exact hRt _ _ zz_0 dX0_has_29 _ _ hP hD hS
    · rw [if_neg c2] at h
      refine lv_iload_n hx hb dX0_has_12 rfl (lv_at hl 2 rfl) ?_
      refine lv_if_lt (tgt := 28) hx hb dX0_has_13 (by decide) (fun c3 => ?_) (fun c3 => ?_)
      · rw [if_pos c3] at h
        refine lv_iconst (v := 0) hx hb dX0_has_28 (by decide) ?_
        cases h
        exact hRt _ _ zz_0 dX0_has_29 _ _ hP hD hS
      · rw [if_neg c3] at h
        refine lv_iload_n hx hb dX0_has_16 rfl (lv_at hl 2 rfl) ?_
        refine lv_aload_n hx hb dX0_has_17 rfl (lv_at hl 0 rfl) ?_
        refine r_get F hP i_X0 44 (xe_44 E q) rfl 1 (by decide) rfl lf_X0_24 rfl dX0_has_18 ?_
        refine lv_icmp_ge (tgt := 28) hx hb dX0_has_21 (by decide) (fun c4 => ?_) (fun c4 => ?_)
        · rw [if_pos c4] at h
          refine lv_iconst (v := 0) hx hb dX0_has_28 (by decide) ?_
          cases h
          exact hRt _ _ zz_0 dX0_has_29 _ _ hP hD hS
        · rw [if_neg c4] at h
          refine lv_iconst (v := 1) hx hb dX0_has_24 (by decide) ?_
          refine lv_goto (tgt := 29) hx hb dX0_has_25 (by decide) ?_
          cases h
          exact hRt _ _ zz_1 dX0_has_29 _ _ hP hD hS
def f_X0_has (q : QS) (x1 : Int32) (x2 : Int32) : Option (Int32) := f_X0_has_0 q x1 x2
set_option maxRecDepth 100000 in
theorem c_X0_has {E : En} {l : Launch} (q : QS) (x1 : Int32) (x2 : Int32) {o : Int32} (h : f_X0_has q x1 x2 = some o) : Ct (wX E) E l yX0_has (wy yX0_has cX0_has 3 (some .boolean)) rm_X0_has q q [.ref (eA E 44), .int x1, .int x2] (some (.int o)) :=
  ct_Z (o := (o, q)) (by decide +kernel) (fun p e s m below meth c A Q F hA hRt H locs hP hD hS => en_W [.ref (eA E 44), .int x1, .int x2] (Nat.le_of_ble_eq_true rfl) (fun ls hl => g_X0_has_0 F hA hRt x1 x2 h ls (lv_sub hl [0, 1, 2] rfl) H locs hP hD hS))
def rm_X0_placeOf : Room := { frames := 0, cells := 0, slots := 0, locals := 0 }
def f_X0_placeOf_0 (x1 : Int32) (x2 : Int32) : Option (Int32) :=
  some ((x1 * (8 : Int32)) + x2)
set_option maxHeartbeats 4000000 in
set_option maxRecDepth 100000 in
theorem g_X0_placeOf_0 {E : En} {p : Program} {l : Launch} {e : Env} {s : State} {m : MethodId} {args : Array Value} {below : List Frame} {meth : Method} {c : Code} {A : Nat → Prop} {Q : State → Prop} (F : Fx E p s m args meth c (yX0_placeOf).cls cX0_placeOf 3 (some .int)) (hA : ∀ z : Nat, s.heap.size ≤ z → A z) {q : QS} {o : Int32} (hRt : RtI (wX E) E p l e rm_X0_placeOf s m args below meth c A Q cX0_placeOf (o, q)) (x1 : Int32) (x2 : Int32) (h : f_X0_placeOf_0 x1 x2 = some o) (ls : Array Slot) (hl : lv_has ls 3 [(1, .int x1), (2, .int x2)]) : Wq (wX E) E p l e rm_X0_placeOf s m args below meth c A 0 0 Q q (F0 m 0 ls []) := by
  intro H locs hP hD hS
  have hx := F.1
  have hb := F.2.1
  unfold f_X0_placeOf_0 at h
  refine lv_iload_n hx hb dX0_placeOf_0 rfl (lv_at hl 0 rfl) ?_
  refine lv_bipush (v := 8) hx hb dX0_placeOf_1 (by decide) ?_
  refine lv_imul hx hb dX0_placeOf_3 ?_
  refine lv_iload_n hx hb dX0_placeOf_4 rfl (lv_at hl 1 rfl) ?_
  refine lv_iadd hx hb dX0_placeOf_5 ?_
  cases h
  exact hRt _ _ dX0_placeOf_6 _ _ hP hD hS
def f_X0_placeOf (x1 : Int32) (x2 : Int32) : Option (Int32) := f_X0_placeOf_0 x1 x2
set_option maxRecDepth 100000 in
theorem c_X0_placeOf {E : En} {l : Launch} (q : QS) (x1 : Int32) (x2 : Int32) {o : Int32} (h : f_X0_placeOf x1 x2 = some o) : Ct (wX E) E l yX0_placeOf (wy yX0_placeOf cX0_placeOf 3 (some .int)) rm_X0_placeOf q q [.ref (eA E 44), .int x1, .int x2] (some (.int o)) :=
  ct_I (o := (o, q)) (by decide +kernel) rfl (fun p e s m below meth c A Q F hA hRt H locs hP hD hS => en_W [.ref (eA E 44), .int x1, .int x2] (Nat.le_of_ble_eq_true rfl) (fun ls hl => g_X0_placeOf_0 F hA hRt x1 x2 h ls (lv_sub hl [1, 2] rfl) H locs hP hD hS))
def rm_X5_placeOf : Room := { frames := 0, cells := 0, slots := 0, locals := 0 }
def f_X5_placeOf_0 (x0 : Int32) (x1 : Int32) : Option (Int32) :=
  some ((x0 * (8 : Int32)) + x1)
set_option maxHeartbeats 4000000 in
set_option maxRecDepth 100000 in
theorem g_X5_placeOf_0 {E : En} {p : Program} {l : Launch} {e : Env} {s : State} {m : MethodId} {args : Array Value} {below : List Frame} {meth : Method} {c : Code} {A : Nat → Prop} {Q : State → Prop} (F : Fx E p s m args meth c (yX5_placeOf).cls cX5_placeOf 2 (some .int)) (hA : ∀ z : Nat, s.heap.size ≤ z → A z) {q : QS} {o : Int32} (hRt : RtI (wX E) E p l e rm_X5_placeOf s m args below meth c A Q cX5_placeOf (o, q)) (x0 : Int32) (x1 : Int32) (h : f_X5_placeOf_0 x0 x1 = some o) (ls : Array Slot) (hl : lv_has ls 2 [(0, .int x0), (1, .int x1)]) : Wq (wX E) E p l e rm_X5_placeOf s m args below meth c A 0 0 Q q (F0 m 0 ls []) := by
  intro H locs hP hD hS
  have hx := F.1
  have hb := F.2.1
  unfold f_X5_placeOf_0 at h
  refine lv_iload_n hx hb dX5_placeOf_0 rfl (lv_at hl 0 rfl) ?_
  refine lv_bipush (v := 8) hx hb dX5_placeOf_1 (by decide) ?_
  refine lv_imul hx hb dX5_placeOf_3 ?_
  refine lv_iload_n hx hb dX5_placeOf_4 rfl (lv_at hl 1 rfl) ?_
  refine lv_iadd hx hb dX5_placeOf_5 ?_
  cases h
  exact hRt _ _ dX5_placeOf_6 _ _ hP hD hS
def f_X5_placeOf (x0 : Int32) (x1 : Int32) : Option (Int32) := f_X5_placeOf_0 x0 x1
set_option maxRecDepth 100000 in
theorem c_X5_placeOf {E : En} {l : Launch} (q : QS) (x0 : Int32) (x1 : Int32) {o : Int32} (h : f_X5_placeOf x0 x1 = some o) : Ct (wX E) E l yX5_placeOf (wy yX5_placeOf cX5_placeOf 2 (some .int)) rm_X5_placeOf q q [.int x0, .int x1] (some (.int o)) :=
  ct_I (o := (o, q)) (by decide +kernel) rfl (fun p e s m below meth c A Q F hA hRt H locs hP hD hS => en_W [.int x0, .int x1] (Nat.le_of_ble_eq_true rfl) (fun ls hl => g_X5_placeOf_0 F hA hRt x0 x1 h ls (lv_sub hl [0, 1] rfl) H locs hP hD hS))
def rm_X0_keep : Room := { frames := 2, cells := 0, slots := 0, locals := 46 }
def f_X0_keep_30_b (K73 : QS → Int32 → Int32 → Option (QS)) (B30 : QS → Int32 → Int32 → Int32 → Option (QS)) (q : QS) (x3 : Int32) (x4 : Int32) (x5 : Int32) : Option (QS) :=
  if x3 ≤ x5 then
    K73 q x3 x4
  else
    (f_X0_placeOf x4 x5).bind fun r5 =>
    (rd (qI q 54) (qC q) x4).bind fun y7 =>
    (f_X5_placeOf y7 x5).bind fun r9 =>
    (f_X8_copy 3 4 q r5 r9).bind fun r11 =>
    B30 r11 x3 x4 (x5 + (1 : Int32))
set_option maxHeartbeats 4000000 in
set_option maxRecDepth 100000 in
theorem g_X0_keep_30_b {E : En} {p : Program} {l : Launch} {e : Env} {s : State} {m : MethodId} {args : Array Value} {below : List Frame} {meth : Method} {c : Code} {A : Nat → Prop} {Q : State → Prop} (F : Fx E p s m args meth c (yX0_keep).cls cX0_keep 6 none) (hA : ∀ z : Nat, s.heap.size ≤ z → A z) {o : QS} (hRt : RtV (wX E) E p l e rm_X0_keep s m args below meth c A Q cX0_keep o) {K73 : QS → Int32 → Int32 → Option (QS)} {B30 : QS → Int32 → Int32 → Int32 → Option (QS)} (hK73 : ∀ (q : QS) (x3 : Int32) (x4 : Int32), K73 q x3 x4 = some o → ∀ ls : Array Slot, lv_has ls 6 [(0, .ref (eA E 44)), (1, .ref (eA E 49)), (3, .int x3), (4, .int x4)] → Wq (wX E) E p l e rm_X0_keep s m args below meth c A 0 0 Q q (F0 m 73 ls [])) (hB30 : ∀ (q : QS) (x3 : Int32) (x4 : Int32) (x5 : Int32), B30 q x3 x4 x5 = some o → ∀ ls : Array Slot, lv_has ls 6 [(0, .ref (eA E 44)), (1, .ref (eA E 49)), (3, .int x3), (4, .int x4), (5, .int x5)] → Wq (wX E) E p l e rm_X0_keep s m args below meth c A 0 0 Q q (F0 m 30 ls [])) (q : QS) (x3 : Int32) (x4 : Int32) (x5 : Int32) (h : f_X0_keep_30_b K73 B30 q x3 x4 x5 = some o) (ls : Array Slot) (hl : lv_has ls 6 [(0, .ref (eA E 44)), (1, .ref (eA E 49)), (3, .int x3), (4, .int x4), (5, .int x5)]) : Wq (wX E) E p l e rm_X0_keep s m args below meth c A 0 0 Q q (F0 m 30 ls []) := by
  intro H locs hP hD hS
  have hx := F.1
  have hb := F.2.1
  unfold f_X0_keep_30_b at h
  refine lv_iload hx hb dX0_keep_30 (lv_at hl 4 rfl) ?_
  refine lv_iload_n hx hb dX0_keep_32 rfl (lv_at hl 2 rfl) ?_
  refine lv_icmp_ge (tgt := 73) hx hb dX0_keep_33 (by decide) (fun c4 => ?_) (fun c4 => ?_)
  · rw [if_pos c4] at h
    exact hK73 q x3 x4 h _ (lv_sub hl [0, 1, 2, 3] rfl) _ _ hP hD hS
  · rw [if_neg c4] at h
    refine lv_aload_n hx hb dX0_keep_36 rfl (lv_at hl 0 rfl) ?_
    refine r_get F hP i_X0 44 (xe_44 E q) rfl 2 (by decide) rfl lf_X0_14 rfl dX0_keep_37 ?_
    refine lv_aload_n hx hb dX0_keep_40 rfl (lv_at hl 0 rfl) ?_
    refine lv_iload hx hb dX0_keep_41 (lv_at hl 3 rfl) ?_
    refine lv_iload hx hb dX0_keep_43 (lv_at hl 4 rfl) ?_
    obtain ⟨r5, e6, h⟩ := Option.bind_eq_some_iff.mp h
    refine q_callV (As := [.int x4, .int x5]) (rest := [.ref (eA E 9)]) F hA hP hD hS (c_X0_placeOf (E := E) (l := l) q x4 x5 e6) k_X0_placeOf in_X0_placeOf se_X0_placeOf lm_X0_33 44 (xe_44 E q) rfl ⟨rfl, rfl⟩ ⟨by decide, by decide⟩ rfl hl.1 rfl (Nat.le_of_ble_eq_true rfl) dX0_keep_45 ⟨by decide, by decide⟩ ?_
    intro H locs hP hD hS
    refine lv_aload_n hx hb dX0_keep_48 rfl (lv_at hl 1 rfl) ?_
    refine r_get F hP i_X5 49 (xe_49 E q) rfl 9 (by decide) rfl lf_X0_36 rfl dX0_keep_49 ?_
    refine lv_aload_n hx hb dX0_keep_52 rfl (lv_at hl 1 rfl) ?_
    refine r_get F hP i_X5 49 (xe_49 E q) rfl 5 (by decide) rfl lf_X0_39 rfl dX0_keep_53 ?_
    refine lv_iload hx hb dX0_keep_56 (lv_at hl 3 rfl) ?_
    obtain ⟨y7, e8, h⟩ := Option.bind_eq_some_iff.mp h
    refine r_iald F hP 54 (xe_54 E q) e8 dX0_keep_58 ?_
    refine lv_iload hx hb dX0_keep_59 (lv_at hl 4 rfl) ?_
    obtain ⟨r9, e10, h⟩ := Option.bind_eq_some_iff.mp h
    refine q_callS (As := [.int y7, .int x5]) (rest := [.ref (eA E 12), .int r5, .ref (eA E 9)]) F hA hP hD hS (c_X5_placeOf (E := E) (l := l) q y7 x5 e10) k_X5_placeOf st_X5_placeOf lm_X0_43 ⟨rfl, rfl⟩ ⟨by decide, by decide⟩ rfl hl.1 rfl (Nat.le_of_ble_eq_true rfl) dX0_keep_61 ⟨by decide, by decide⟩ ?_
    intro H locs hP hD hS
    obtain ⟨r11, e12, h⟩ := Option.bind_eq_some_iff.mp h
    refine q_callV (As := [.int r5, .ref (eA E 12), .int r9]) (rest := []) F hA hP hD hS (c_X8_copy (E := E) (l := l) (v := 3) (by decide) (u := 4) (by decide) q r5 r9 e12) k_X8_copy in_X8_copy se_X8_copy lm_X0_44 9 (xe_9 E q) rfl ⟨rfl, rfl⟩ ⟨by decide, by decide⟩ rfl hl.1 rfl (Nat.le_of_ble_eq_true rfl) dX0_keep_64 ⟨by decide, by decide⟩ ?_
    intro H locs hP hD hS
    refine lv_iinc (v := (x5 + (1 : Int32))) (lv' := [(5, .int (x5 + (1 : Int32))), (0, .ref (eA E 44)), (1, .ref (eA E 49)), (3, .int x3), (4, .int x4)]) hx hb dX0_keep_67 hl (k := 4) rfl rfl (by decide) rfl (fun ls hl => ?_)
    refine lv_goto (tgt := 30) hx hb dX0_keep_70 (by decide) ?_
    exact hB30 r11 x3 x4 (x5 + (1 : Int32)) h _ (lv_sub hl [1, 2, 3, 4, 0] rfl) _ _ hP hD hS
def f_X0_keep_30 (K73 : QS → Int32 → Int32 → Option (QS)) : Nat → QS → Int32 → Int32 → Int32 → Option (QS)
  | 0 => fun _ _ _ _ => none
  | n + 1 => f_X0_keep_30_b K73 (f_X0_keep_30 K73 n)
theorem g_X0_keep_30 {E : En} {p : Program} {l : Launch} {e : Env} {s : State} {m : MethodId} {args : Array Value} {below : List Frame} {meth : Method} {c : Code} {A : Nat → Prop} {Q : State → Prop} (F : Fx E p s m args meth c (yX0_keep).cls cX0_keep 6 none) (hA : ∀ z : Nat, s.heap.size ≤ z → A z) {o : QS} (hRt : RtV (wX E) E p l e rm_X0_keep s m args below meth c A Q cX0_keep o) {K73 : QS → Int32 → Int32 → Option (QS)} (hK73 : ∀ (q : QS) (x3 : Int32) (x4 : Int32), K73 q x3 x4 = some o → ∀ ls : Array Slot, lv_has ls 6 [(0, .ref (eA E 44)), (1, .ref (eA E 49)), (3, .int x3), (4, .int x4)] → Wq (wX E) E p l e rm_X0_keep s m args below meth c A 0 0 Q q (F0 m 73 ls [])) (n : Nat) : ∀ (q : QS) (x3 : Int32) (x4 : Int32) (x5 : Int32), f_X0_keep_30 K73 n q x3 x4 x5 = some o → ∀ ls : Array Slot, lv_has ls 6 [(0, .ref (eA E 44)), (1, .ref (eA E 49)), (3, .int x3), (4, .int x4), (5, .int x5)] → Wq (wX E) E p l e rm_X0_keep s m args below meth c A 0 0 Q q (F0 m 30 ls []) := by
  induction n with
  | zero => intro q x3 x4 x5 h; cases h
  | succ n ih => intro q x3 x4 x5 h; exact g_X0_keep_30_b F hA hRt hK73 ih q x3 x4 x5 h
def f_X0_keep_73 (B18 : QS → Int32 → Int32 → Option (QS)) (q : QS) (x3 : Int32) (x4 : Int32) : Option (QS) :=
  B18 q x3 (x4 + (1 : Int32))
set_option maxHeartbeats 4000000 in
set_option maxRecDepth 100000 in
theorem g_X0_keep_73 {E : En} {p : Program} {l : Launch} {e : Env} {s : State} {m : MethodId} {args : Array Value} {below : List Frame} {meth : Method} {c : Code} {A : Nat → Prop} {Q : State → Prop} (F : Fx E p s m args meth c (yX0_keep).cls cX0_keep 6 none) (hA : ∀ z : Nat, s.heap.size ≤ z → A z) {o : QS} (hRt : RtV (wX E) E p l e rm_X0_keep s m args below meth c A Q cX0_keep o) {B18 : QS → Int32 → Int32 → Option (QS)} (hB18 : ∀ (q : QS) (x3 : Int32) (x4 : Int32), B18 q x3 x4 = some o → ∀ ls : Array Slot, lv_has ls 6 [(0, .ref (eA E 44)), (1, .ref (eA E 49)), (3, .int x3), (4, .int x4)] → Wq (wX E) E p l e rm_X0_keep s m args below meth c A 0 0 Q q (F0 m 18 ls [])) (q : QS) (x3 : Int32) (x4 : Int32) (h : f_X0_keep_73 B18 q x3 x4 = some o) (ls : Array Slot) (hl : lv_has ls 6 [(0, .ref (eA E 44)), (1, .ref (eA E 49)), (3, .int x3), (4, .int x4)]) : Wq (wX E) E p l e rm_X0_keep s m args below meth c A 0 0 Q q (F0 m 73 ls []) := by
  intro H locs hP hD hS
  have hx := F.1
  have hb := F.2.1
  unfold f_X0_keep_73 at h
  refine lv_iinc (v := (x4 + (1 : Int32))) (lv' := [(4, .int (x4 + (1 : Int32))), (0, .ref (eA E 44)), (1, .ref (eA E 49)), (3, .int x3)]) hx hb dX0_keep_73 hl (k := 3) rfl rfl (by decide) rfl (fun ls hl => ?_)
  refine lv_goto (tgt := 18) hx hb dX0_keep_76 (by decide) ?_
  exact hB18 q x3 (x4 + (1 : Int32)) h _ (lv_sub hl [1, 2, 3, 0] rfl) _ _ hP hD hS
def f_X0_keep_18_b (B18 : QS → Int32 → Int32 → Option (QS)) (q : QS) (x3 : Int32) (x4 : Int32) : Option (QS) :=
  if (qF q 0) ≤ x4 then
    some q
  else
    f_X0_keep_30 (f_X0_keep_73 B18) FU q x3 x4 (0 : Int32)
set_option maxHeartbeats 4000000 in
set_option maxRecDepth 100000 in
theorem g_X0_keep_18_b {E : En} {p : Program} {l : Launch} {e : Env} {s : State} {m : MethodId} {args : Array Value} {below : List Frame} {meth : Method} {c : Code} {A : Nat → Prop} {Q : State → Prop} (F : Fx E p s m args meth c (yX0_keep).cls cX0_keep 6 none) (hA : ∀ z : Nat, s.heap.size ≤ z → A z) {o : QS} (hRt : RtV (wX E) E p l e rm_X0_keep s m args below meth c A Q cX0_keep o) {B18 : QS → Int32 → Int32 → Option (QS)} (hB18 : ∀ (q : QS) (x3 : Int32) (x4 : Int32), B18 q x3 x4 = some o → ∀ ls : Array Slot, lv_has ls 6 [(0, .ref (eA E 44)), (1, .ref (eA E 49)), (3, .int x3), (4, .int x4)] → Wq (wX E) E p l e rm_X0_keep s m args below meth c A 0 0 Q q (F0 m 18 ls [])) (q : QS) (x3 : Int32) (x4 : Int32) (h : f_X0_keep_18_b B18 q x3 x4 = some o) (ls : Array Slot) (hl : lv_has ls 6 [(0, .ref (eA E 44)), (1, .ref (eA E 49)), (3, .int x3), (4, .int x4)]) : Wq (wX E) E p l e rm_X0_keep s m args below meth c A 0 0 Q q (F0 m 18 ls []) := by
  intro H locs hP hD hS
  have hx := F.1
  have hb := F.2.1
  unfold f_X0_keep_18_b at h
  refine lv_iload hx hb dX0_keep_18 (lv_at hl 3 rfl) ?_
  refine lv_aload_n hx hb dX0_keep_20 rfl (lv_at hl 0 rfl) ?_
  refine r_get F hP i_X0 44 (xe_44 E q) rfl 0 (by decide) rfl lf_X0_20 rfl dX0_keep_21 ?_
  refine lv_icmp_ge (tgt := 79) hx hb dX0_keep_24 (by decide) (fun c3 => ?_) (fun c3 => ?_)
  · rw [if_pos c3] at h
    cases h
    exact hRt _ _ dX0_keep_79 _ _ hP hD hS
  · rw [if_neg c3] at h
    refine lv_iconst (v := 0) hx hb dX0_keep_27 (by decide) ?_
    refine lv_istore (lv' := [(5, .int (0 : Int32)), (0, .ref (eA E 44)), (1, .ref (eA E 49)), (3, .int x3), (4, .int x4)]) hx hb dX0_keep_28 hl (by decide) rfl (fun ls hl => ?_)
    exact g_X0_keep_30 F hA hRt (g_X0_keep_73 F hA hRt hB18) FU q x3 x4 (0 : Int32) h _ (lv_sub hl [1, 2, 3, 4, 0] rfl) _ _ hP hD hS
def f_X0_keep_18 : Nat → QS → Int32 → Int32 → Option (QS)
  | 0 => fun _ _ _ => none
  | n + 1 => f_X0_keep_18_b (f_X0_keep_18 n)
theorem g_X0_keep_18 {E : En} {p : Program} {l : Launch} {e : Env} {s : State} {m : MethodId} {args : Array Value} {below : List Frame} {meth : Method} {c : Code} {A : Nat → Prop} {Q : State → Prop} (F : Fx E p s m args meth c (yX0_keep).cls cX0_keep 6 none) (hA : ∀ z : Nat, s.heap.size ≤ z → A z) {o : QS} (hRt : RtV (wX E) E p l e rm_X0_keep s m args below meth c A Q cX0_keep o) (n : Nat) : ∀ (q : QS) (x3 : Int32) (x4 : Int32), f_X0_keep_18 n q x3 x4 = some o → ∀ ls : Array Slot, lv_has ls 6 [(0, .ref (eA E 44)), (1, .ref (eA E 49)), (3, .int x3), (4, .int x4)] → Wq (wX E) E p l e rm_X0_keep s m args below meth c A 0 0 Q q (F0 m 18 ls []) := by
  induction n with
  | zero => intro q x3 x4 h; cases h
  | succ n ih => intro q x3 x4 h; exact g_X0_keep_18_b F hA hRt ih q x3 x4 h
def f_X0_keep_0 (q : QS) (x2 : Int32) (x3 : Int32) : Option (QS) :=
  (f_J9_min_7cf53 x2 (64 : Int32)).bind fun r1 =>
  f_X0_keep_18 FU (uF (uF q 0 r1) 1 x3) x3 (0 : Int32)
set_option maxHeartbeats 4000000 in
set_option maxRecDepth 100000 in
theorem g_X0_keep_0 {E : En} {p : Program} {l : Launch} {e : Env} {s : State} {m : MethodId} {args : Array Value} {below : List Frame} {meth : Method} {c : Code} {A : Nat → Prop} {Q : State → Prop} (F : Fx E p s m args meth c (yX0_keep).cls cX0_keep 6 none) (hA : ∀ z : Nat, s.heap.size ≤ z → A z) {o : QS} (hRt : RtV (wX E) E p l e rm_X0_keep s m args below meth c A Q cX0_keep o) (q : QS) (x2 : Int32) (x3 : Int32) (h : f_X0_keep_0 q x2 x3 = some o) (ls : Array Slot) (hl : lv_has ls 6 [(0, .ref (eA E 44)), (1, .ref (eA E 49)), (2, .int x2), (3, .int x3)]) : Wq (wX E) E p l e rm_X0_keep s m args below meth c A 0 0 Q q (F0 m 0 ls []) := by
  intro H locs hP hD hS
  have hx := F.1
  have hb := F.2.1
  unfold f_X0_keep_0 at h
  refine lv_aload_n hx hb dX0_keep_0 rfl (lv_at hl 0 rfl) ?_
  refine lv_iload_n hx hb dX0_keep_1 rfl (lv_at hl 2 rfl) ?_
  refine lv_bipush (v := 64) hx hb dX0_keep_2 (by decide) ?_
  obtain ⟨r1, e2, h⟩ := Option.bind_eq_some_iff.mp h
  refine q_callS (As := [.int x2, .int (64 : Int32)]) (rest := [.ref (eA E 44)]) F hA hP hD hS (c_J9_min_7cf53 (E := E) (l := l) q x2 (64 : Int32) e2) k_J9_min_7cf53 st_J9_min_7cf53 lm_X0_27 ⟨rfl, rfl⟩ ⟨by decide, by decide⟩ rfl hl.1 rfl (Nat.le_of_ble_eq_true rfl) dX0_keep_4 ⟨by decide, by decide⟩ ?_
  intro H locs hP hD hS
  refine r_put (ty := .int) (q1 := (uF q 0 r1)) F hP hD hS i_X0 tyX0_ok nmX0 44 (xe_44 E q) rfl 0 (by decide) rfl lf_X0_20 rfl (by decide +kernel) rfl rfl (Nat.le_of_ble_eq_true rfl) (xf_44_0 E q r1) dX0_keep_7 ?_
  intro H locs hP hD hS
  refine lv_aload_n hx hb dX0_keep_10 rfl (lv_at hl 0 rfl) ?_
  refine lv_iload_n hx hb dX0_keep_11 rfl (lv_at hl 3 rfl) ?_
  refine r_put (ty := .int) (q1 := (uF (uF q 0 r1) 1 x3)) F hP hD hS i_X0 tyX0_ok nmX0 44 (xe_44 E (uF q 0 r1)) rfl 1 (by decide) rfl lf_X0_24 rfl (by decide +kernel) rfl rfl (Nat.le_of_ble_eq_true rfl) (xf_44_1 E (uF q 0 r1) x3) dX0_keep_12 ?_
  intro H locs hP hD hS
  refine lv_iconst (v := 0) hx hb dX0_keep_15 (by decide) ?_
  refine lv_istore (lv' := [(4, .int (0 : Int32)), (0, .ref (eA E 44)), (1, .ref (eA E 49)), (2, .int x2), (3, .int x3)]) hx hb dX0_keep_16 hl (by decide) rfl (fun ls hl => ?_)
  exact g_X0_keep_18 F hA hRt FU (uF (uF q 0 r1) 1 x3) x3 (0 : Int32) h _ (lv_sub hl [1, 2, 4, 0] rfl) _ _ hP hD hS
def f_X0_keep (q : QS) (x2 : Int32) (x3 : Int32) : Option (QS) := f_X0_keep_0 q x2 x3
set_option maxRecDepth 100000 in
theorem c_X0_keep {E : En} {l : Launch} (q : QS) (x2 : Int32) (x3 : Int32) {o : QS} (h : f_X0_keep q x2 x3 = some o) : Ct (wX E) E l yX0_keep (wy yX0_keep cX0_keep 6 none) rm_X0_keep q o [.ref (eA E 44), .ref (eA E 49), .int x2, .int x3] none :=
  ct_V (o := o) (by decide +kernel) (fun p e s m below meth c A Q F hA hRt H locs hP hD hS => en_W [.ref (eA E 44), .ref (eA E 49), .int x2, .int x3] (Nat.le_of_ble_eq_true rfl) (fun ls hl => g_X0_keep_0 F hA hRt q x2 x3 h ls (lv_sub hl [0, 1, 2, 3] rfl) H locs hP hD hS))
def rm_X2_isFull : Room := { frames := 0, cells := 0, slots := 0, locals := 0 }
def f_X2_isFull_0 (q : QS) : Option (Int32) :=
  if (qF q 2) < (200 : Int32) then
    some (0 : Int32)
  else
    some (1 : Int32)
set_option maxHeartbeats 4000000 in
set_option maxRecDepth 100000 in
theorem g_X2_isFull_0 {E : En} {p : Program} {l : Launch} {e : Env} {s : State} {m : MethodId} {args : Array Value} {below : List Frame} {meth : Method} {c : Code} {A : Nat → Prop} {Q : State → Prop} (F : Fx E p s m args meth c (yX2_isFull).cls cX2_isFull 1 (some .boolean)) (hA : ∀ z : Nat, s.heap.size ≤ z → A z) {q : QS} {o : Int32} (hRt : RtZ (wX E) E p l e rm_X2_isFull s m args below meth c A Q cX2_isFull (o, q)) (h : f_X2_isFull_0 q = some o) (ls : Array Slot) (hl : lv_has ls 1 [(0, .ref (eA E 29))]) : Wq (wX E) E p l e rm_X2_isFull s m args below meth c A 0 0 Q q (F0 m 0 ls []) := by
  intro H locs hP hD hS
  have hx := F.1
  have hb := F.2.1
  unfold f_X2_isFull_0 at h
  refine lv_aload_n hx hb dX2_isFull_0 rfl (lv_at hl 0 rfl) ?_
  refine r_get F hP i_X2 29 (xe_29 E q) rfl 0 (by decide) rfl lf_X2_46 rfl dX2_isFull_1 ?_
  refine lv_sipush (v := 200) hx hb dX2_isFull_4 (by decide) ?_
  refine lv_icmp_lt (tgt := 14) hx hb dX2_isFull_7 (by decide) (fun c1 => ?_) (fun c1 => ?_)
  · rw [if_pos c1] at h
    refine lv_iconst (v := 0) hx hb dX2_isFull_14 (by decide) ?_
    cases h
    exact hRt _ _ zz_0 dX2_isFull_15 _ _ hP hD hS
  · rw [if_neg c1] at h
    refine lv_iconst (v := 1) hx hb dX2_isFull_10 (by decide) ?_
    refine lv_goto (tgt := 15) hx hb dX2_isFull_11 (by decide) ?_
    cases h
    exact hRt _ _ zz_1 dX2_isFull_15 _ _ hP hD hS
def f_X2_isFull (q : QS) : Option (Int32) := f_X2_isFull_0 q
set_option maxRecDepth 100000 in
theorem c_X2_isFull {E : En} {l : Launch} (q : QS) {o : Int32} (h : f_X2_isFull q = some o) : Ct (wX E) E l yX2_isFull (wy yX2_isFull cX2_isFull 1 (some .boolean)) rm_X2_isFull q q [.ref (eA E 29)] (some (.int o)) :=
  ct_Z (o := (o, q)) (by decide +kernel) (fun p e s m below meth c A Q F hA hRt H locs hP hD hS => en_W [.ref (eA E 29)] (Nat.le_of_ble_eq_true rfl) (fun ls hl => g_X2_isFull_0 F hA hRt h ls (lv_sub hl [0] rfl) H locs hP hD hS))
def rm_X2_has : Room := { frames := 0, cells := 0, slots := 0, locals := 0 }
def f_X2_has_0 (q : QS) (x1 : Int32) : Option (Int32) :=
  if x1 < 0 then
    some (0 : Int32)
  else
    if (qF q 2) ≤ x1 then
      some (0 : Int32)
    else
      some (1 : Int32)
set_option maxHeartbeats 4000000 in
set_option maxRecDepth 100000 in
theorem g_X2_has_0 {E : En} {p : Program} {l : Launch} {e : Env} {s : State} {m : MethodId} {args : Array Value} {below : List Frame} {meth : Method} {c : Code} {A : Nat → Prop} {Q : State → Prop} (F : Fx E p s m args meth c (yX2_has).cls cX2_has 2 (some .boolean)) (hA : ∀ z : Nat, s.heap.size ≤ z → A z) {q : QS} {o : Int32} (hRt : RtZ (wX E) E p l e rm_X2_has s m args below meth c A Q cX2_has (o, q)) (x1 : Int32) (h : f_X2_has_0 q x1 = some o) (ls : Array Slot) (hl : lv_has ls 2 [(0, .ref (eA E 29)), (1, .int x1)]) : Wq (wX E) E p l e rm_X2_has s m args below meth c A 0 0 Q q (F0 m 0 ls []) := by
  intro H locs hP hD hS
  have hx := F.1
  have hb := F.2.1
  unfold f_X2_has_0 at h
  refine lv_iload_n hx hb dX2_has_0 rfl (lv_at hl 1 rfl) ?_
  refine lv_if_lt (tgt := 16) hx hb dX2_has_1 (by decide) (fun c1 => ?_) (fun c1 => ?_)
  · rw [if_pos c1] at h
    refine lv_iconst (v := 0) hx hb dX2_has_16 (by decide) ?_
    cases h
    exact hRt _ _ zz_0 dX2_has_17 _ _ hP hD hS
  · rw [if_neg c1] at h
    refine lv_iload_n hx hb dX2_has_4 rfl (lv_at hl 1 rfl) ?_
    refine lv_aload_n hx hb dX2_has_5 rfl (lv_at hl 0 rfl) ?_
    refine r_get F hP i_X2 29 (xe_29 E q) rfl 0 (by decide) rfl lf_X2_46 rfl dX2_has_6 ?_
    refine lv_icmp_ge (tgt := 16) hx hb dX2_has_9 (by decide) (fun c2 => ?_) (fun c2 => ?_)
    · rw [if_pos c2] at h
      refine lv_iconst (v := 0) hx hb dX2_has_16 (by decide) ?_
      cases h
      exact hRt _ _ zz_0 dX2_has_17 _ _ hP hD hS
    · rw [if_neg c2] at h
      refine lv_iconst (v := 1) hx hb dX2_has_12 (by decide) ?_
      refine lv_goto (tgt := 17) hx hb dX2_has_13 (by decide) ?_
      cases h
      exact hRt _ _ zz_1 dX2_has_17 _ _ hP hD hS
def f_X2_has (q : QS) (x1 : Int32) : Option (Int32) := f_X2_has_0 q x1
set_option maxRecDepth 100000 in
theorem c_X2_has {E : En} {l : Launch} (q : QS) (x1 : Int32) {o : Int32} (h : f_X2_has q x1 = some o) : Ct (wX E) E l yX2_has (wy yX2_has cX2_has 2 (some .boolean)) rm_X2_has q q [.ref (eA E 29), .int x1] (some (.int o)) :=
  ct_Z (o := (o, q)) (by decide +kernel) (fun p e s m below meth c A Q F hA hRt H locs hP hD hS => en_W [.ref (eA E 29), .int x1] (Nat.le_of_ble_eq_true rfl) (fun ls hl => g_X2_has_0 F hA hRt x1 h ls (lv_sub hl [0, 1] rfl) H locs hP hD hS))
def rm_X2_isAggregateKind : Room := { frames := 0, cells := 0, slots := 0, locals := 0 }
def f_X2_isAggregateKind_0 (x0 : Int32) : Option (Int32) :=
  if x0 < (5 : Int32) then
    some (0 : Int32)
  else
    if (9 : Int32) < x0 then
      some (0 : Int32)
    else
      some (1 : Int32)
set_option maxHeartbeats 4000000 in
set_option maxRecDepth 100000 in
theorem g_X2_isAggregateKind_0 {E : En} {p : Program} {l : Launch} {e : Env} {s : State} {m : MethodId} {args : Array Value} {below : List Frame} {meth : Method} {c : Code} {A : Nat → Prop} {Q : State → Prop} (F : Fx E p s m args meth c (yX2_isAggregateKind).cls cX2_isAggregateKind 1 (some .boolean)) (hA : ∀ z : Nat, s.heap.size ≤ z → A z) {q : QS} {o : Int32} (hRt : RtZ (wX E) E p l e rm_X2_isAggregateKind s m args below meth c A Q cX2_isAggregateKind (o, q)) (x0 : Int32) (h : f_X2_isAggregateKind_0 x0 = some o) (ls : Array Slot) (hl : lv_has ls 1 [(0, .int x0)]) : Wq (wX E) E p l e rm_X2_isAggregateKind s m args below meth c A 0 0 Q q (F0 m 0 ls []) := by
  intro H locs hP hD hS
  have hx := F.1
  have hb := F.2.1
  unfold f_X2_isAggregateKind_0 at h
  refine lv_iload_n hx hb dX2_isAggregateKind_0 rfl (lv_at hl 0 rfl) ?_
  refine lv_iconst (v := 5) hx hb dX2_isAggregateKind_1 (by decide) ?_
  refine lv_icmp_lt (tgt := 15) hx hb dX2_isAggregateKind_2 (by decide) (fun c1 => ?_) (fun c1 => ?_)
  · rw [if_pos c1] at h
    refine lv_iconst (v := 0) hx hb dX2_isAggregateKind_15 (by decide) ?_
    cases h
    exact hRt _ _ zz_0 dX2_isAggregateKind_16 _ _ hP hD hS
  · rw [if_neg c1] at h
    refine lv_iload_n hx hb dX2_isAggregateKind_5 rfl (lv_at hl 0 rfl) ?_
    refine lv_bipush (v := 9) hx hb dX2_isAggregateKind_6 (by decide) ?_
    refine lv_icmp_gt (tgt := 15) hx hb dX2_isAggregateKind_8 (by decide) (fun c2 => ?_) (fun c2 => ?_)
    · rw [if_pos c2] at h
      refine lv_iconst (v := 0) hx hb dX2_isAggregateKind_15 (by decide) ?_
      cases h
      exact hRt _ _ zz_0 dX2_isAggregateKind_16 _ _ hP hD hS
    · rw [if_neg c2] at h
      refine lv_iconst (v := 1) hx hb dX2_isAggregateKind_11 (by decide) ?_
      refine lv_goto (tgt := 16) hx hb dX2_isAggregateKind_12 (by decide) ?_
      cases h
      exact hRt _ _ zz_1 dX2_isAggregateKind_16 _ _ hP hD hS
def f_X2_isAggregateKind (x0 : Int32) : Option (Int32) := f_X2_isAggregateKind_0 x0
set_option maxRecDepth 100000 in
theorem c_X2_isAggregateKind {E : En} {l : Launch} (q : QS) (x0 : Int32) {o : Int32} (h : f_X2_isAggregateKind x0 = some o) : Ct (wX E) E l yX2_isAggregateKind (wy yX2_isAggregateKind cX2_isAggregateKind 1 (some .boolean)) rm_X2_isAggregateKind q q [.int x0] (some (.int o)) :=
  ct_Z (o := (o, q)) (by decide +kernel) (fun p e s m below meth c A Q F hA hRt H locs hP hD hS => en_W [.int x0] (Nat.le_of_ble_eq_true rfl) (fun ls hl => g_X2_isAggregateKind_0 F hA hRt x0 h ls (lv_sub hl [0] rfl) H locs hP hD hS))
def rm_X2_isAggregate : Room := { frames := 1, cells := 0, slots := 0, locals := 20 }
def f_X2_isAggregate_0 (q : QS) (x1 : Int32) : Option (Int32) :=
  (rd (qI q 30) 200 x1).bind fun y1 =>
  (f_X2_isAggregateKind y1).bind fun r3 =>
  if vp_nar .boolean r3 = r3 then some r3 else none
set_option maxHeartbeats 4000000 in
set_option maxRecDepth 100000 in
theorem g_X2_isAggregate_0 {E : En} {p : Program} {l : Launch} {e : Env} {s : State} {m : MethodId} {args : Array Value} {below : List Frame} {meth : Method} {c : Code} {A : Nat → Prop} {Q : State → Prop} (F : Fx E p s m args meth c (yX2_isAggregate).cls cX2_isAggregate 2 (some .boolean)) (hA : ∀ z : Nat, s.heap.size ≤ z → A z) {q : QS} {o : Int32} (hRt : RtZ (wX E) E p l e rm_X2_isAggregate s m args below meth c A Q cX2_isAggregate (o, q)) (x1 : Int32) (h : f_X2_isAggregate_0 q x1 = some o) (ls : Array Slot) (hl : lv_has ls 2 [(0, .ref (eA E 29)), (1, .int x1)]) : Wq (wX E) E p l e rm_X2_isAggregate s m args below meth c A 0 0 Q q (F0 m 0 ls []) := by
  intro H locs hP hD hS
  have hx := F.1
  have hb := F.2.1
  unfold f_X2_isAggregate_0 at h
  refine lv_aload_n hx hb dX2_isAggregate_0 rfl (lv_at hl 0 rfl) ?_
  refine r_get F hP i_X2 29 (xe_29 E q) rfl 1 (by decide) rfl lf_X2_9 rfl dX2_isAggregate_1 ?_
  refine lv_iload_n hx hb dX2_isAggregate_4 rfl (lv_at hl 1 rfl) ?_
  obtain ⟨y1, e2, h⟩ := Option.bind_eq_some_iff.mp h
  refine r_iald F hP 30 (xe_30 E q) e2 dX2_isAggregate_5 ?_
  obtain ⟨r3, e4, h⟩ := Option.bind_eq_some_iff.mp h
  refine q_callS (As := [.int y1]) (rest := []) F hA hP hD hS (c_X2_isAggregateKind (E := E) (l := l) q y1 e4) k_X2_isAggregateKind st_X2_isAggregateKind lm_X2_50 ⟨rfl, rfl⟩ ⟨by decide, by decide⟩ rfl hl.1 rfl (Nat.le_of_ble_eq_true rfl) dX2_isAggregate_6 ⟨by decide, by decide⟩ ?_
  intro H locs hP hD hS
  by_cases z5 : vp_nar .boolean r3 = r3
  rotate_left
  · rw [if_neg z5] at h; cases h
  rw [if_pos z5] at h
  cases h
  exact hRt _ _ z5 dX2_isAggregate_9 _ _ hP hD hS
def f_X2_isAggregate (q : QS) (x1 : Int32) : Option (Int32) := f_X2_isAggregate_0 q x1
set_option maxRecDepth 100000 in
theorem c_X2_isAggregate {E : En} {l : Launch} (q : QS) (x1 : Int32) {o : Int32} (h : f_X2_isAggregate q x1 = some o) : Ct (wX E) E l yX2_isAggregate (wy yX2_isAggregate cX2_isAggregate 2 (some .boolean)) rm_X2_isAggregate q q [.ref (eA E 29), .int x1] (some (.int o)) :=
  ct_Z (o := (o, q)) (by decide +kernel) (fun p e s m below meth c A Q F hA hRt H locs hP hD hS => en_W [.ref (eA E 29), .int x1] (Nat.le_of_ble_eq_true rfl) (fun ls hl => g_X2_isAggregate_0 F hA hRt x1 h ls (lv_sub hl [0, 1] rfl) H locs hP hD hS))
def rm_X2_isOfType : Room := { frames := 0, cells := 0, slots := 0, locals := 0 }
def f_X2_isOfType_0 (q : QS) (x1 : Int32) (x2 : Int32) : Option (Int32) :=
  (rd (qI q 31) 200 x1).bind fun y1 =>
  if y1 = x2 then
    some (1 : Int32)
  else
    (rd (qI q 31) 200 x1).bind fun y4 =>
    if y4 = 0 then
      some (1 : Int32)
    else
      some (0 : Int32)
set_option maxHeartbeats 4000000 in
set_option maxRecDepth 100000 in
theorem g_X2_isOfType_0 {E : En} {p : Program} {l : Launch} {e : Env} {s : State} {m : MethodId} {args : Array Value} {below : List Frame} {meth : Method} {c : Code} {A : Nat → Prop} {Q : State → Prop} (F : Fx E p s m args meth c (yX2_isOfType).cls cX2_isOfType 3 (some .boolean)) (hA : ∀ z : Nat, s.heap.size ≤ z → A z) {q : QS} {o : Int32} (hRt : RtZ (wX E) E p l e rm_X2_isOfType s m args below meth c A Q cX2_isOfType (o, q)) (x1 : Int32) (x2 : Int32) (h : f_X2_isOfType_0 q x1 x2 = some o) (ls : Array Slot) (hl : lv_has ls 3 [(0, .ref (eA E 29)), (1, .int x1), (2, .int x2)]) : Wq (wX E) E p l e rm_X2_isOfType s m args below meth c A 0 0 Q q (F0 m 0 ls []) := by
  intro H locs hP hD hS
  have hx := F.1
  have hb := F.2.1
  unfold f_X2_isOfType_0 at h
  refine lv_aload_n hx hb dX2_isOfType_0 rfl (lv_at hl 0 rfl) ?_
  refine r_get F hP i_X2 29 (xe_29 E q) rfl 2 (by decide) rfl lf_X2_15 rfl dX2_isOfType_1 ?_
  refine lv_iload_n hx hb dX2_isOfType_4 rfl (lv_at hl 1 rfl) ?_
  obtain ⟨y1, e2, h⟩ := Option.bind_eq_some_iff.mp h
  refine r_iald F hP 31 (xe_31 E q) e2 dX2_isOfType_5 ?_
  refine lv_iload_n hx hb dX2_isOfType_6 rfl (lv_at hl 2 rfl) ?_
  refine lv_icmp_eq (tgt := 19) hx hb dX2_isOfType_7 (by decide) (fun c3 => ?_) (fun c3 => ?_)
  · rw [if_pos c3] at h
    refine lv_iconst (v := 1) hx hb dX2_isOfType_19 (by decide) ?_
    refine lv_goto (tgt := 24) hx hb dX2_isOfType_20 (by decide) ?_
    cases h
    exact hRt _ _ zz_1 dX2_isOfType_24 _ _ hP hD hS
  · rw [if_neg c3] at h
    refine lv_aload_n hx hb dX2_isOfType_10 rfl (lv_at hl 0 rfl) ?_
    refine r_get F hP i_X2 29 (xe_29 E q) rfl 2 (by decide) rfl lf_X2_15 rfl dX2_isOfType_11 ?_
    refine lv_iload_n hx hb dX2_isOfType_14 rfl (lv_at hl 1 rfl) ?_
    obtain ⟨y4, e5, h⟩ := Option.bind_eq_some_iff.mp h
    refine r_iald F hP 31 (xe_31 E q) e5 dX2_isOfType_15 ?_
    refine lv_if_ne (tgt := 23) hx hb dX2_isOfType_16 (by decide) (fun c6 => ?_) (fun c6 => ?_)
    · rw [if_neg c6] at h
      refine lv_iconst (v := 0) hx hb dX2_isOfType_23 (by decide) ?_
      cases h
      exact hRt _ _ zz_0 dX2_isOfType_24 _ _ hP hD hS
    · rw [if_pos c6] at h
      refine lv_iconst (v := 1) hx hb dX2_isOfType_19 (by decide) ?_
      refine lv_goto (tgt := 24) hx hb dX2_isOfType_20 (by decide) ?_
      cases h
      exact hRt _ _ zz_1 dX2_isOfType_24 _ _ hP hD hS
def f_X2_isOfType (q : QS) (x1 : Int32) (x2 : Int32) : Option (Int32) := f_X2_isOfType_0 q x1 x2
set_option maxRecDepth 100000 in
theorem c_X2_isOfType {E : En} {l : Launch} (q : QS) (x1 : Int32) (x2 : Int32) {o : Int32} (h : f_X2_isOfType q x1 x2 = some o) : Ct (wX E) E l yX2_isOfType (wy yX2_isOfType cX2_isOfType 3 (some .boolean)) rm_X2_isOfType q q [.ref (eA E 29), .int x1, .int x2] (some (.int o)) :=
  ct_Z (o := (o, q)) (by decide +kernel) (fun p e s m below meth c A Q F hA hRt H locs hP hD hS => en_W [.ref (eA E 29), .int x1, .int x2] (Nat.le_of_ble_eq_true rfl) (fun ls hl => g_X2_isOfType_0 F hA hRt x1 x2 h ls (lv_sub hl [0, 1, 2] rfl) H locs hP hD hS))
def rm_X2_canBeCondition : Room := { frames := 1, cells := 0, slots := 0, locals := 22 }
def f_X2_canBeCondition_0 (q : QS) (x1 : Int32) : Option (Int32) :=
  (f_X2_has q x1).bind fun r1 =>
  if r1 = 0 then
    some (0 : Int32)
  else
    (f_X2_isOfType q x1 (3 : Int32)).bind fun r4 =>
    if r4 = 0 then
      some (0 : Int32)
    else
      (rd (qI q 36) 200 x1).bind fun y7 =>
      if y7 = 0 then
        some (1 : Int32)
      else
        some (0 : Int32)
set_option maxHeartbeats 4000000 in
set_option maxRecDepth 100000 in
theorem g_X2_canBeCondition_0 {E : En} {p : Program} {l : Launch} {e : Env} {s : State} {m : MethodId} {args : Array Value} {below : List Frame} {meth : Method} {c : Code} {A : Nat → Prop} {Q : State → Prop} (F : Fx E p s m args meth c (yX2_canBeCondition).cls cX2_canBeCondition 2 (some .boolean)) (hA : ∀ z : Nat, s.heap.size ≤ z → A z) {q : QS} {o : Int32} (hRt : RtZ (wX E) E p l e rm_X2_canBeCondition s m args below meth c A Q cX2_canBeCondition (o, q)) (x1 : Int32) (h : f_X2_canBeCondition_0 q x1 = some o) (ls : Array Slot) (hl : lv_has ls 2 [(0, .ref (eA E 29)), (1, .int x1)]) : Wq (wX E) E p l e rm_X2_canBeCondition s m args below meth c A 0 0 Q q (F0 m 0 ls []) := by
  intro H locs hP hD hS
  have hx := F.1
  have hb := F.2.1
  unfold f_X2_canBeCondition_0 at h
  refine lv_aload_n hx hb dX2_canBeCondition_0 rfl (lv_at hl 0 rfl) ?_
  refine lv_iload_n hx hb dX2_canBeCondition_1 rfl (lv_at hl 1 rfl) ?_
  obtain ⟨r1, e2, h⟩ := Option.bind_eq_some_iff.mp h
  refine q_callV (As := [.int x1]) (rest := []) F hA hP hD hS (c_X2_has (E := E) (l := l) q x1 e2) k_X2_has in_X2_has se_X2_has lm_X2_54 29 (xe_29 E q) rfl ⟨rfl, rfl⟩ ⟨by decide, by decide⟩ rfl hl.1 rfl (Nat.le_of_ble_eq_true rfl) dX2_canBeCondition_2 ⟨by decide, by decide⟩ ?_
  intro H locs hP hD hS
  refine lv_if_eq (tgt := 30) hx hb dX2_canBeCondition_5 (by decide) (fun c3 => ?_) (fun c3 => ?_)
  · rw [if_pos c3] at h
    refine lv_iconst (v := 0) hx hb dX2_canBeCondition_30 (by decide) ?_
    cases h
    exact hRt _ _ zz_0 dX2_canBeCondition_31 _ _ hP hD hS
  · rw [if_neg c3] at h
    refine lv_aload_n hx hb dX2_canBeCondition_8 rfl (lv_at hl 0 rfl) ?_
    refine lv_iload_n hx hb dX2_canBeCondition_9 rfl (lv_at hl 1 rfl) ?_
    refine lv_iconst (v := 3) hx hb dX2_canBeCondition_10 (by decide) ?_
    obtain ⟨r4, e5, h⟩ := Option.bind_eq_some_iff.mp h
    refine q_callV (As := [.int x1, .int (3 : Int32)]) (rest := []) F hA hP hD hS (c_X2_isOfType (E := E) (l := l) q x1 (3 : Int32) e5) k_X2_isOfType in_X2_isOfType se_X2_isOfType lm_X2_57 29 (xe_29 E q) rfl ⟨rfl, rfl⟩ ⟨by decide, by decide⟩ rfl hl.1 rfl (Nat.le_of_ble_eq_true rfl) dX2_canBeCondition_11 ⟨by decide, by decide⟩ ?_
    intro H locs hP hD hS
    refine lv_if_eq (tgt := 30) hx hb dX2_canBeCondition_14 (by decide) (fun c6 => ?_) (fun c6 => ?_)
    · rw [if_pos c6] at h
      refine lv_iconst (v := 0) hx hb dX2_canBeCondition_30 (by decide) ?_
      cases h
      exact hRt _ _ zz_0 dX2_canBeCondition_31 _ _ hP hD hS
    · rw [if_neg c6] at h
      refine lv_aload_n hx hb dX2_canBeCondition_17 rfl (lv_at hl 0 rfl) ?_
      refine r_get F hP i_X2 29 (xe_29 E q) rfl 7 (by decide) rfl lf_X2_30 rfl dX2_canBeCondition_18 ?_
      refine lv_iload_n hx hb dX2_canBeCondition_21 rfl (lv_at hl 1 rfl) ?_
      obtain ⟨y7, e8, h⟩ := Option.bind_eq_some_iff.mp h
      refine r_zald F hP 36 (xe_36 E q) e8 dX2_canBeCondition_22 ?_
      refine lv_if_ne (tgt := 30) hx hb dX2_canBeCondition_23 (by decide) (fun c9 => ?_) (fun c9 => ?_)
      · rw [if_neg c9] at h
        refine lv_iconst (v := 0) hx hb dX2_canBeCondition_30 (by decide) ?_
        cases h
        exact hRt _ _ zz_0 dX2_canBeCondition_31 _ _ hP hD hS
      · rw [if_pos c9] at h
        refine lv_iconst (v := 1) hx hb dX2_canBeCondition_26 (by decide) ?_
        refine lv_goto (tgt := 31) hx hb dX2_canBeCondition_27 (by decide) ?_
        cases h
        exact hRt _ _ zz_1 dX2_canBeCondition_31 _ _ hP hD hS
def f_X2_canBeCondition (q : QS) (x1 : Int32) : Option (Int32) := f_X2_canBeCondition_0 q x1
set_option maxRecDepth 100000 in
theorem c_X2_canBeCondition {E : En} {l : Launch} (q : QS) (x1 : Int32) {o : Int32} (h : f_X2_canBeCondition q x1 = some o) : Ct (wX E) E l yX2_canBeCondition (wy yX2_canBeCondition cX2_canBeCondition 2 (some .boolean)) rm_X2_canBeCondition q q [.ref (eA E 29), .int x1] (some (.int o)) :=
  ct_Z (o := (o, q)) (by decide +kernel) (fun p e s m below meth c A Q F hA hRt H locs hP hD hS => en_W [.ref (eA E 29), .int x1] (Nat.le_of_ble_eq_true rfl) (fun ls hl => g_X2_canBeCondition_0 F hA hRt x1 h ls (lv_sub hl [0, 1] rfl) H locs hP hD hS))
def rm_X2_append : Room := { frames := 0, cells := 0, slots := 0, locals := 0 }
def f_X2_append_0 (q : QS) (x1 : Int32) (x2 : Int32) (x3 : Int32) (x4 : Int32) : Option (Int32 × QS) :=
  (wI q 30 200 (qF q 2) x1).bind fun q1 =>
  (wI q1 31 200 (qF q 2) x2).bind fun q3 =>
  (wI q3 32 200 (qF q 2) x3).bind fun q5 =>
  (wI q5 33 200 (qF q 2) x4).bind fun q7 =>
  (wI q7 36 200 (qF q 2) (vp_nar .boolean (0 : Int32))).bind fun q9 =>
  (wI q9 37 200 (qF q 2) (vp_nar .boolean (0 : Int32))).bind fun q11 =>
  some ((qF q 2), (uF q11 2 ((qF q11 2) + (1 : Int32))))
set_option maxHeartbeats 4000000 in
set_option maxRecDepth 100000 in
theorem g_X2_append_0 {E : En} {p : Program} {l : Launch} {e : Env} {s : State} {m : MethodId} {args : Array Value} {below : List Frame} {meth : Method} {c : Code} {A : Nat → Prop} {Q : State → Prop} (F : Fx E p s m args meth c (yX2_append).cls cX2_append 6 (some .int)) (hA : ∀ z : Nat, s.heap.size ≤ z → A z) {o : Int32 × QS} (hRt : RtI (wX E) E p l e rm_X2_append s m args below meth c A Q cX2_append o) (q : QS) (x1 : Int32) (x2 : Int32) (x3 : Int32) (x4 : Int32) (h : f_X2_append_0 q x1 x2 x3 x4 = some o) (ls : Array Slot) (hl : lv_has ls 6 [(0, .ref (eA E 29)), (1, .int x1), (2, .int x2), (3, .int x3), (4, .int x4)]) : Wq (wX E) E p l e rm_X2_append s m args below meth c A 0 0 Q q (F0 m 0 ls []) := by
  intro H locs hP hD hS
  have hx := F.1
  have hb := F.2.1
  unfold f_X2_append_0 at h
  refine lv_aload_n hx hb dX2_append_0 rfl (lv_at hl 0 rfl) ?_
  refine r_get F hP i_X2 29 (xe_29 E q) rfl 0 (by decide) rfl lf_X2_46 rfl dX2_append_1 ?_
  refine lv_istore (lv' := [(5, .int (qF q 2)), (0, .ref (eA E 29)), (1, .int x1), (2, .int x2), (3, .int x3), (4, .int x4)]) hx hb dX2_append_4 hl (by decide) rfl (fun ls hl => ?_)
  refine lv_aload_n hx hb dX2_append_6 rfl (lv_at hl 1 rfl) ?_
  refine r_get F hP i_X2 29 (xe_29 E q) rfl 1 (by decide) rfl lf_X2_9 rfl dX2_append_7 ?_
  refine lv_iload hx hb dX2_append_10 (lv_at hl 0 rfl) ?_
  refine lv_iload_n hx hb dX2_append_12 rfl (lv_at hl 2 rfl) ?_
  obtain ⟨q1, e2, h⟩ := Option.bind_eq_some_iff.mp h
  refine r_iast F hP hD hS 30 (xe_30 E q) (xs_30 E q) e2 dX2_append_13 ?_
  intro H locs hP hD hS
  refine lv_aload_n hx hb dX2_append_14 rfl (lv_at hl 1 rfl) ?_
  refine r_get F hP i_X2 29 (xe_29 E q1) rfl 2 (by decide) rfl lf_X2_15 rfl dX2_append_15 ?_
  refine lv_iload hx hb dX2_append_18 (lv_at hl 0 rfl) ?_
  refine lv_iload_n hx hb dX2_append_20 rfl (lv_at hl 3 rfl) ?_
  obtain ⟨q3, e4, h⟩ := Option.bind_eq_some_iff.mp h
  refine r_iast F hP hD hS 31 (xe_31 E q1) (xs_31 E q1) e4 dX2_append_21 ?_
  intro H locs hP hD hS
  refine lv_aload_n hx hb dX2_append_22 rfl (lv_at hl 1 rfl) ?_
  refine r_get F hP i_X2 29 (xe_29 E q3) rfl 3 (by decide) rfl lf_X2_18 rfl dX2_append_23 ?_
  refine lv_iload hx hb dX2_append_26 (lv_at hl 0 rfl) ?_
  refine lv_iload_n hx hb dX2_append_28 rfl (lv_at hl 4 rfl) ?_
  obtain ⟨q5, e6, h⟩ := Option.bind_eq_some_iff.mp h
  refine r_iast F hP hD hS 32 (xe_32 E q3) (xs_32 E q3) e6 dX2_append_29 ?_
  intro H locs hP hD hS
  refine lv_aload_n hx hb dX2_append_30 rfl (lv_at hl 1 rfl) ?_
  refine r_get F hP i_X2 29 (xe_29 E q5) rfl 4 (by decide) rfl lf_X2_21 rfl dX2_append_31 ?_
  refine lv_iload hx hb dX2_append_34 (lv_at hl 0 rfl) ?_
  refine lv_iload hx hb dX2_append_36 (lv_at hl 5 rfl) ?_
  obtain ⟨q7, e8, h⟩ := Option.bind_eq_some_iff.mp h
  refine r_iast F hP hD hS 33 (xe_33 E q5) (xs_33 E q5) e8 dX2_append_38 ?_
  intro H locs hP hD hS
  refine lv_aload_n hx hb dX2_append_39 rfl (lv_at hl 1 rfl) ?_
  refine r_get F hP i_X2 29 (xe_29 E q7) rfl 7 (by decide) rfl lf_X2_30 rfl dX2_append_40 ?_
  refine lv_iload hx hb dX2_append_43 (lv_at hl 0 rfl) ?_
  refine lv_iconst (v := 0) hx hb dX2_append_45 (by decide) ?_
  obtain ⟨q9, e10, h⟩ := Option.bind_eq_some_iff.mp h
  refine r_zast F hP hD hS 36 (xe_36 E q7) (xs_36 E q7) e10 dX2_append_46 ?_
  intro H locs hP hD hS
  refine lv_aload_n hx hb dX2_append_47 rfl (lv_at hl 1 rfl) ?_
  refine r_get F hP i_X2 29 (xe_29 E q9) rfl 8 (by decide) rfl lf_X2_34 rfl dX2_append_48 ?_
  refine lv_iload hx hb dX2_append_51 (lv_at hl 0 rfl) ?_
  refine lv_iconst (v := 0) hx hb dX2_append_53 (by decide) ?_
  obtain ⟨q11, e12, h⟩ := Option.bind_eq_some_iff.mp h
  refine r_zast F hP hD hS 37 (xe_37 E q9) (xs_37 E q9) e12 dX2_append_54 ?_
  intro H locs hP hD hS
  refine lv_aload_n hx hb dX2_append_55 rfl (lv_at hl 1 rfl) ?_
  refine lv_dup hx hb dX2_append_56 rfl ?_
  refine r_get F hP i_X2 29 (xe_29 E q11) rfl 0 (by decide) rfl lf_X2_46 rfl dX2_append_57 ?_
  refine lv_iconst (v := 1) hx hb dX2_append_60 (by decide) ?_
  refine lv_iadd hx hb dX2_append_61 ?_
  refine r_put (ty := .int) (q1 := (uF q11 2 ((qF q11 2) + (1 : Int32)))) F hP hD hS i_X2 tyX2_ok nmX2 29 (xe_29 E q11) rfl 0 (by decide) rfl lf_X2_46 rfl (by decide +kernel) rfl rfl (Nat.le_of_ble_eq_true rfl) (xf_29_2 E q11 ((qF q11 2) + (1 : Int32))) dX2_append_62 ?_
  intro H locs hP hD hS
  refine lv_iload hx hb dX2_append_65 (lv_at hl 0 rfl) ?_
  cases h
  exact hRt _ _ dX2_append_67 _ _ hP hD hS
def f_X2_append (q : QS) (x1 : Int32) (x2 : Int32) (x3 : Int32) (x4 : Int32) : Option (Int32 × QS) := f_X2_append_0 q x1 x2 x3 x4
set_option maxRecDepth 100000 in
theorem c_X2_append {E : En} {l : Launch} (q : QS) (x1 : Int32) (x2 : Int32) (x3 : Int32) (x4 : Int32) {o : Int32 × QS} (h : f_X2_append q x1 x2 x3 x4 = some o) : Ct (wX E) E l yX2_append (wy yX2_append cX2_append 6 (some .int)) rm_X2_append q o.2 [.ref (eA E 29), .int x1, .int x2, .int x3, .int x4] (some (.int o.1)) :=
  ct_I (o := o) (by decide +kernel) rfl (fun p e s m below meth c A Q F hA hRt H locs hP hD hS => en_W [.ref (eA E 29), .int x1, .int x2, .int x3, .int x4] (Nat.le_of_ble_eq_true rfl) (fun ls hl => g_X2_append_0 F hA hRt q x1 x2 x3 x4 h ls (lv_sub hl [0, 1, 2, 3, 4] rfl) H locs hP hD hS))
def rm_X2_addColumn : Room := { frames := 1, cells := 0, slots := 0, locals := 25 }
def f_X2_addColumn_0 (q : QS) (x1 : Int32) (x2 : Int32) (x3 : Int32) : Option (Int32 × QS) :=
  (f_X2_append q (4 : Int32) x3 (-1 : Int32) (-1 : Int32)).bind fun r1 =>
  (wI r1.2 34 200 r1.1 x1).bind fun q3 =>
  (wI q3 35 200 r1.1 x2).bind fun q5 =>
  some (r1.1, q5)
set_option maxHeartbeats 4000000 in
set_option maxRecDepth 100000 in
theorem g_X2_addColumn_0 {E : En} {p : Program} {l : Launch} {e : Env} {s : State} {m : MethodId} {args : Array Value} {below : List Frame} {meth : Method} {c : Code} {A : Nat → Prop} {Q : State → Prop} (F : Fx E p s m args meth c (yX2_addColumn).cls cX2_addColumn 5 (some .int)) (hA : ∀ z : Nat, s.heap.size ≤ z → A z) {o : Int32 × QS} (hRt : RtI (wX E) E p l e rm_X2_addColumn s m args below meth c A Q cX2_addColumn o) (q : QS) (x1 : Int32) (x2 : Int32) (x3 : Int32) (h : f_X2_addColumn_0 q x1 x2 x3 = some o) (ls : Array Slot) (hl : lv_has ls 5 [(0, .ref (eA E 29)), (1, .int x1), (2, .int x2), (3, .int x3)]) : Wq (wX E) E p l e rm_X2_addColumn s m args below meth c A 0 0 Q q (F0 m 0 ls []) := by
  intro H locs hP hD hS
  have hx := F.1
  have hb := F.2.1
  unfold f_X2_addColumn_0 at h
  refine lv_aload_n hx hb dX2_addColumn_0 rfl (lv_at hl 0 rfl) ?_
  refine lv_iconst (v := 4) hx hb dX2_addColumn_1 (by decide) ?_
  refine lv_iload_n hx hb dX2_addColumn_2 rfl (lv_at hl 3 rfl) ?_
  refine lv_iconst (v := (-1)) hx hb dX2_addColumn_3 (by decide) ?_
  refine lv_iconst (v := (-1)) hx hb dX2_addColumn_4 (by decide) ?_
  obtain ⟨r1, e2, h⟩ := Option.bind_eq_some_iff.mp h
  refine q_callV (As := [.int (4 : Int32), .int x3, .int (-1 : Int32), .int (-1 : Int32)]) (rest := []) F hA hP hD hS (c_X2_append (E := E) (l := l) q (4 : Int32) x3 (-1 : Int32) (-1 : Int32) e2) k_X2_append in_X2_append se_X2_append lm_X2_61 29 (xe_29 E q) rfl ⟨rfl, rfl⟩ ⟨by decide, by decide⟩ rfl hl.1 rfl (Nat.le_of_ble_eq_true rfl) dX2_addColumn_5 ⟨by decide, by decide⟩ ?_
  intro H locs hP hD hS
  refine lv_istore (lv' := [(4, .int r1.1), (0, .ref (eA E 29)), (1, .int x1), (2, .int x2), (3, .int x3)]) hx hb dX2_addColumn_8 hl (by decide) rfl (fun ls hl => ?_)
  refine lv_aload_n hx hb dX2_addColumn_10 rfl (lv_at hl 1 rfl) ?_
  refine r_get F hP i_X2 29 (xe_29 E r1.2) rfl 5 (by decide) rfl lf_X2_24 rfl dX2_addColumn_11 ?_
  refine lv_iload hx hb dX2_addColumn_14 (lv_at hl 0 rfl) ?_
  refine lv_iload_n hx hb dX2_addColumn_16 rfl (lv_at hl 2 rfl) ?_
  obtain ⟨q3, e4, h⟩ := Option.bind_eq_some_iff.mp h
  refine r_iast F hP hD hS 34 (xe_34 E r1.2) (xs_34 E r1.2) e4 dX2_addColumn_17 ?_
  intro H locs hP hD hS
  refine lv_aload_n hx hb dX2_addColumn_18 rfl (lv_at hl 1 rfl) ?_
  refine r_get F hP i_X2 29 (xe_29 E q3) rfl 6 (by decide) rfl lf_X2_27 rfl dX2_addColumn_19 ?_
  refine lv_iload hx hb dX2_addColumn_22 (lv_at hl 0 rfl) ?_
  refine lv_iload_n hx hb dX2_addColumn_24 rfl (lv_at hl 3 rfl) ?_
  obtain ⟨q5, e6, h⟩ := Option.bind_eq_some_iff.mp h
  refine r_iast F hP hD hS 35 (xe_35 E q3) (xs_35 E q3) e6 dX2_addColumn_25 ?_
  intro H locs hP hD hS
  refine lv_iload hx hb dX2_addColumn_26 (lv_at hl 0 rfl) ?_
  cases h
  exact hRt _ _ dX2_addColumn_28 _ _ hP hD hS
def f_X2_addColumn (q : QS) (x1 : Int32) (x2 : Int32) (x3 : Int32) : Option (Int32 × QS) := f_X2_addColumn_0 q x1 x2 x3
set_option maxRecDepth 100000 in
theorem c_X2_addColumn {E : En} {l : Launch} (q : QS) (x1 : Int32) (x2 : Int32) (x3 : Int32) {o : Int32 × QS} (h : f_X2_addColumn q x1 x2 x3 = some o) : Ct (wX E) E l yX2_addColumn (wy yX2_addColumn cX2_addColumn 5 (some .int)) rm_X2_addColumn q o.2 [.ref (eA E 29), .int x1, .int x2, .int x3] (some (.int o.1)) :=
  ct_I (o := o) (by decide +kernel) rfl (fun p e s m below meth c A Q F hA hRt H locs hP hD hS => en_W [.ref (eA E 29), .int x1, .int x2, .int x3] (Nat.le_of_ble_eq_true rfl) (fun ls hl => g_X2_addColumn_0 F hA hRt q x1 x2 x3 h ls (lv_sub hl [0, 1, 2, 3] rfl) H locs hP hD hS))
def rm_X2_addConstant : Room := { frames := 2, cells := 0, slots := 0, locals := 46 }
def f_X2_addConstant_0 (q : QS) (x2 : Int32) : Option (Int32 × QS) :=
  (rd (qI q 1) 8 x2).bind fun y1 =>
  (rd (qI q 1) 8 x2).bind fun y3 =>
  (f_X2_append q y1 y3 (-1 : Int32) (-1 : Int32)).bind fun r5 =>
  (f_X8_copy 2 0 r5.2 r5.1 x2).bind fun r7 =>
  some (r5.1, r7)
set_option maxHeartbeats 4000000 in
set_option maxRecDepth 100000 in
theorem g_X2_addConstant_0 {E : En} {p : Program} {l : Launch} {e : Env} {s : State} {m : MethodId} {args : Array Value} {below : List Frame} {meth : Method} {c : Code} {A : Nat → Prop} {Q : State → Prop} (F : Fx E p s m args meth c (yX2_addConstant).cls cX2_addConstant 4 (some .int)) (hA : ∀ z : Nat, s.heap.size ≤ z → A z) {o : Int32 × QS} (hRt : RtI (wX E) E p l e rm_X2_addConstant s m args below meth c A Q cX2_addConstant o) (q : QS) (x2 : Int32) (h : f_X2_addConstant_0 q x2 = some o) (ls : Array Slot) (hl : lv_has ls 4 [(0, .ref (eA E 29)), (1, .ref (eA E 0)), (2, .int x2)]) : Wq (wX E) E p l e rm_X2_addConstant s m args below meth c A 0 0 Q q (F0 m 0 ls []) := by
  intro H locs hP hD hS
  have hx := F.1
  have hb := F.2.1
  unfold f_X2_addConstant_0 at h
  refine lv_aload_n hx hb dX2_addConstant_0 rfl (lv_at hl 0 rfl) ?_
  refine lv_aload_n hx hb dX2_addConstant_1 rfl (lv_at hl 1 rfl) ?_
  refine r_get F hP i_X8 0 (xe_0 E q) rfl 0 (by decide) rfl lf_X2_65 rfl dX2_addConstant_2 ?_
  refine lv_iload_n hx hb dX2_addConstant_5 rfl (lv_at hl 2 rfl) ?_
  obtain ⟨y1, e2, h⟩ := Option.bind_eq_some_iff.mp h
  refine r_iald F hP 1 (xe_1 E q) e2 dX2_addConstant_6 ?_
  refine lv_aload_n hx hb dX2_addConstant_7 rfl (lv_at hl 1 rfl) ?_
  refine r_get F hP i_X8 0 (xe_0 E q) rfl 0 (by decide) rfl lf_X2_65 rfl dX2_addConstant_8 ?_
  refine lv_iload_n hx hb dX2_addConstant_11 rfl (lv_at hl 2 rfl) ?_
  obtain ⟨y3, e4, h⟩ := Option.bind_eq_some_iff.mp h
  refine r_iald F hP 1 (xe_1 E q) e4 dX2_addConstant_12 ?_
  refine lv_iconst (v := (-1)) hx hb dX2_addConstant_13 (by decide) ?_
  refine lv_iconst (v := (-1)) hx hb dX2_addConstant_14 (by decide) ?_
  obtain ⟨r5, e6, h⟩ := Option.bind_eq_some_iff.mp h
  refine q_callV (As := [.int y1, .int y3, .int (-1 : Int32), .int (-1 : Int32)]) (rest := []) F hA hP hD hS (c_X2_append (E := E) (l := l) q y1 y3 (-1 : Int32) (-1 : Int32) e6) k_X2_append in_X2_append se_X2_append lm_X2_61 29 (xe_29 E q) rfl ⟨rfl, rfl⟩ ⟨by decide, by decide⟩ rfl hl.1 rfl (Nat.le_of_ble_eq_true rfl) dX2_addConstant_15 ⟨by decide, by decide⟩ ?_
  intro H locs hP hD hS
  refine lv_istore_n (lv' := [(3, .int r5.1), (0, .ref (eA E 29)), (1, .ref (eA E 0)), (2, .int x2)]) hx hb dX2_addConstant_18 rfl hl (by decide) rfl (fun ls hl => ?_)
  refine lv_aload_n hx hb dX2_addConstant_19 rfl (lv_at hl 1 rfl) ?_
  refine r_get F hP i_X2 29 (xe_29 E r5.2) rfl 9 (by decide) rfl lf_X2_42 rfl dX2_addConstant_20 ?_
  refine lv_iload_n hx hb dX2_addConstant_23 rfl (lv_at hl 0 rfl) ?_
  refine lv_aload_n hx hb dX2_addConstant_24 rfl (lv_at hl 2 rfl) ?_
  refine lv_iload_n hx hb dX2_addConstant_25 rfl (lv_at hl 3 rfl) ?_
  obtain ⟨r7, e8, h⟩ := Option.bind_eq_some_iff.mp h
  refine q_callV (As := [.int r5.1, .ref (eA E 0), .int x2]) (rest := []) F hA hP hD hS (c_X8_copy (E := E) (l := l) (v := 2) (by decide) (u := 0) (by decide) r5.2 r5.1 x2 e8) k_X8_copy in_X8_copy se_X8_copy lm_X2_66 6 (xe_6 E r5.2) rfl ⟨rfl, rfl⟩ ⟨by decide, by decide⟩ rfl hl.1 rfl (Nat.le_of_ble_eq_true rfl) dX2_addConstant_26 ⟨by decide, by decide⟩ ?_
  intro H locs hP hD hS
  refine lv_iload_n hx hb dX2_addConstant_29 rfl (lv_at hl 0 rfl) ?_
  cases h
  exact hRt _ _ dX2_addConstant_30 _ _ hP hD hS
def f_X2_addConstant (q : QS) (x2 : Int32) : Option (Int32 × QS) := f_X2_addConstant_0 q x2
set_option maxRecDepth 100000 in
theorem c_X2_addConstant {E : En} {l : Launch} (q : QS) (x2 : Int32) {o : Int32 × QS} (h : f_X2_addConstant q x2 = some o) : Ct (wX E) E l yX2_addConstant (wy yX2_addConstant cX2_addConstant 4 (some .int)) rm_X2_addConstant q o.2 [.ref (eA E 29), .ref (eA E 0), .int x2] (some (.int o.1)) :=
  ct_I (o := o) (by decide +kernel) rfl (fun p e s m below meth c A Q F hA hRt H locs hP hD hS => en_W [.ref (eA E 29), .ref (eA E 0), .int x2] (Nat.le_of_ble_eq_true rfl) (fun ls hl => g_X2_addConstant_0 F hA hRt q x2 h ls (lv_sub hl [0, 1, 2] rfl) H locs hP hD hS))
def rm_X2_partsOf : Room := { frames := 0, cells := 0, slots := 0, locals := 0 }
def f_X2_partsOf_0 (x0 : Int32) : Option (Int32) :=
  if x0 = (5 : Int32) then
    some (0 : Int32)
  else
    if x0 ≤ (10 : Int32) then
      some (1 : Int32)
    else
      if x0 < (23 : Int32) then
        some (2 : Int32)
      else
        if (25 : Int32) < x0 then
          some (2 : Int32)
        else
          some (1 : Int32)
set_option maxHeartbeats 4000000 in
set_option maxRecDepth 100000 in
theorem g_X2_partsOf_0 {E : En} {p : Program} {l : Launch} {e : Env} {s : State} {m : MethodId} {args : Array Value} {below : List Frame} {meth : Method} {c : Code} {A : Nat → Prop} {Q : State → Prop} (F : Fx E p s m args meth c (yX2_partsOf).cls cX2_partsOf 2 (some .int)) (hA : ∀ z : Nat, s.heap.size ≤ z → A z) {q : QS} {o : Int32} (hRt : RtI (wX E) E p l e rm_X2_partsOf s m args below meth c A Q cX2_partsOf (o, q)) (x0 : Int32) (h : f_X2_partsOf_0 x0 = some o) (ls : Array Slot) (hl : lv_has ls 2 [(0, .int x0)]) : Wq (wX E) E p l e rm_X2_partsOf s m args below meth c A 0 0 Q q (F0 m 0 ls []) := by
  intro H locs hP hD hS
  have hx := F.1
  have hb := F.2.1
  unfold f_X2_partsOf_0 at h
  refine lv_iload_n hx hb dX2_partsOf_0 rfl (lv_at hl 0 rfl) ?_
  refine lv_iconst (v := 5) hx hb dX2_partsOf_1 (by decide) ?_
  refine lv_icmp_ne (tgt := 7) hx hb dX2_partsOf_2 (by decide) (fun c1 => ?_) (fun c1 => ?_)
  · rw [if_neg c1] at h
    refine lv_iload_n hx hb dX2_partsOf_7 rfl (lv_at hl 0 rfl) ?_
    refine lv_bipush (v := 10) hx hb dX2_partsOf_8 (by decide) ?_
    refine lv_icmp_le (tgt := 25) hx hb dX2_partsOf_10 (by decide) (fun c2 => ?_) (fun c2 => ?_)
    · rw [if_pos c2] at h
      refine lv_iconst (v := 1) hx hb dX2_partsOf_25 (by decide) ?_
      refine lv_goto (tgt := 30) hx hb dX2_partsOf_26 (by decide) ?_
      refine lv_istore_n (lv' := [(1, .int (1 : Int32)), (0, .int x0)]) hx hb dX2_partsOf_30 rfl hl (by decide) rfl (fun ls hl => ?_)
      refine lv_iload_n hx hb dX2_partsOf_31 rfl (lv_at hl 0 rfl) ?_
      refine lv_if_eq (tgt := 39) hx hb dX2_partsOf_32 (by decide) (fun c3 => ?_) (fun c3 => ?_)
      · exact absurd c3 (by decide)
      refine lv_iconst (v := 1) hx hb dX2_partsOf_35 (by decide) ?_
      refine lv_goto (tgt := 40) hx hb dX2_partsOf_36 (by decide) ?_
      cases h
      exact hRt _ _ dX2_partsOf_40 _ _ hP hD hS
    · rw [if_neg c2] at h
      refine lv_iload_n hx hb dX2_partsOf_13 rfl (lv_at hl 0 rfl) ?_
      refine lv_bipush (v := 23) hx hb dX2_partsOf_14 (by decide) ?_
      refine lv_icmp_lt (tgt := 29) hx hb dX2_partsOf_16 (by decide) (fun c4 => ?_) (fun c4 => ?_)
      · rw [if_pos c4] at h
        refine lv_iconst (v := 0) hx hb dX2_partsOf_29 (by decide) ?_
        refine lv_istore_n (lv' := [(1, .int (0 : Int32)), (0, .int x0)]) hx hb dX2_partsOf_30 rfl hl (by decide) rfl (fun ls hl => ?_)
        refine lv_iload_n hx hb dX2_partsOf_31 rfl (lv_at hl 0 rfl) ?_
        refine lv_if_eq (tgt := 39) hx hb dX2_partsOf_32 (by decide) (fun c5 => ?_) (fun c5 => ?_)
        rotate_left
        · exact absurd c5 (by decide)
        refine lv_iconst (v := 2) hx hb dX2_partsOf_39 (by decide) ?_
        cases h
        exact hRt _ _ dX2_partsOf_40 _ _ hP hD hS
      · rw [if_neg c4] at h
        refine lv_iload_n hx hb dX2_partsOf_19 rfl (lv_at hl 0 rfl) ?_
        refine lv_bipush (v := 25) hx hb dX2_partsOf_20 (by decide) ?_
        refine lv_icmp_gt (tgt := 29) hx hb dX2_partsOf_22 (by decide) (fun c6 => ?_) (fun c6 => ?_)
        · rw [if_pos c6] at h
          refine lv_iconst (v := 0) hx hb dX2_partsOf_29 (by decide) ?_
          refine lv_istore_n (lv' := [(1, .int (0 : Int32)), (0, .int x0)]) hx hb dX2_partsOf_30 rfl hl (by decide) rfl (fun ls hl => ?_)
          refine lv_iload_n hx hb dX2_partsOf_31 rfl (lv_at hl 0 rfl) ?_
          refine lv_if_eq (tgt := 39) hx hb dX2_partsOf_32 (by decide) (fun c7 => ?_) (fun c7 => ?_)
          rotate_left
          · exact absurd c7 (by decide)
          refine lv_iconst (v := 2) hx hb dX2_partsOf_39 (by decide) ?_
          cases h
          exact hRt _ _ dX2_partsOf_40 _ _ hP hD hS
        · rw [if_neg c6] at h
          refine lv_iconst (v := 1) hx hb dX2_partsOf_25 (by decide) ?_
          refine lv_goto (tgt := 30) hx hb dX2_partsOf_26 (by decide) ?_
          refine lv_istore_n (lv' := [(1, .int (1 : Int32)), (0, .int x0)]) hx hb dX2_partsOf_30 rfl hl (by decide) rfl (fun ls hl => ?_)
          refine lv_iload_n hx hb dX2_partsOf_31 rfl (lv_at hl 0 rfl) ?_
          refine lv_if_eq (tgt := 39) hx hb dX2_partsOf_32 (by decide) (fun c8 => ?_) (fun c8 => ?_)
          · exact absurd c8 (by decide)
          refine lv_iconst (v := 1) hx hb dX2_partsOf_35 (by decide) ?_
          refine lv_goto (tgt := 40) hx hb dX2_partsOf_36 (by decide) ?_
          cases h
          exact hRt _ _ dX2_partsOf_40 _ _ hP hD hS
  · rw [if_pos c1] at h
    refine lv_iconst (v := 0) hx hb dX2_partsOf_5 (by decide) ?_
    cases h
    exact hRt _ _ dX2_partsOf_6 _ _ hP hD hS
def f_X2_partsOf (x0 : Int32) : Option (Int32) := f_X2_partsOf_0 x0
set_option maxRecDepth 100000 in
theorem c_X2_partsOf {E : En} {l : Launch} (q : QS) (x0 : Int32) {o : Int32} (h : f_X2_partsOf x0 = some o) : Ct (wX E) E l yX2_partsOf (wy yX2_partsOf cX2_partsOf 2 (some .int)) rm_X2_partsOf q q [.int x0] (some (.int o)) :=
  ct_I (o := (o, q)) (by decide +kernel) rfl (fun p e s m below meth c A Q F hA hRt H locs hP hD hS => en_W [.int x0] (Nat.le_of_ble_eq_true rfl) (fun ls hl => g_X2_partsOf_0 F hA hRt x0 h ls (lv_sub hl [0] rfl) H locs hP hD hS))
def rm_X2_isFree : Room := { frames := 1, cells := 0, slots := 0, locals := 21 }
def f_X2_isFree_0 (q : QS) (x1 : Int32) : Option (Int32) :=
  (f_X2_has q x1).bind fun r1 =>
  if r1 = 0 then
    some (0 : Int32)
  else
    (rd (qI q 37) 200 x1).bind fun y4 =>
    if y4 = 0 then
      some (1 : Int32)
    else
      some (0 : Int32)
set_option maxHeartbeats 4000000 in
set_option maxRecDepth 100000 in
theorem g_X2_isFree_0 {E : En} {p : Program} {l : Launch} {e : Env} {s : State} {m : MethodId} {args : Array Value} {below : List Frame} {meth : Method} {c : Code} {A : Nat → Prop} {Q : State → Prop} (F : Fx E p s m args meth c (yX2_isFree).cls cX2_isFree 2 (some .boolean)) (hA : ∀ z : Nat, s.heap.size ≤ z → A z) {q : QS} {o : Int32} (hRt : RtZ (wX E) E p l e rm_X2_isFree s m args below meth c A Q cX2_isFree (o, q)) (x1 : Int32) (h : f_X2_isFree_0 q x1 = some o) (ls : Array Slot) (hl : lv_has ls 2 [(0, .ref (eA E 29)), (1, .int x1)]) : Wq (wX E) E p l e rm_X2_isFree s m args below meth c A 0 0 Q q (F0 m 0 ls []) := by
  intro H locs hP hD hS
  have hx := F.1
  have hb := F.2.1
  unfold f_X2_isFree_0 at h
  refine lv_aload_n hx hb dX2_isFree_0 rfl (lv_at hl 0 rfl) ?_
  refine lv_iload_n hx hb dX2_isFree_1 rfl (lv_at hl 1 rfl) ?_
  obtain ⟨r1, e2, h⟩ := Option.bind_eq_some_iff.mp h
  refine q_callV (As := [.int x1]) (rest := []) F hA hP hD hS (c_X2_has (E := E) (l := l) q x1 e2) k_X2_has in_X2_has se_X2_has lm_X2_54 29 (xe_29 E q) rfl ⟨rfl, rfl⟩ ⟨by decide, by decide⟩ rfl hl.1 rfl (Nat.le_of_ble_eq_true rfl) dX2_isFree_2 ⟨by decide, by decide⟩ ?_
  intro H locs hP hD hS
  refine lv_if_eq (tgt := 21) hx hb dX2_isFree_5 (by decide) (fun c3 => ?_) (fun c3 => ?_)
  · rw [if_pos c3] at h
    refine lv_iconst (v := 0) hx hb dX2_isFree_21 (by decide) ?_
    cases h
    exact hRt _ _ zz_0 dX2_isFree_22 _ _ hP hD hS
  · rw [if_neg c3] at h
    refine lv_aload_n hx hb dX2_isFree_8 rfl (lv_at hl 0 rfl) ?_
    refine r_get F hP i_X2 29 (xe_29 E q) rfl 8 (by decide) rfl lf_X2_34 rfl dX2_isFree_9 ?_
    refine lv_iload_n hx hb dX2_isFree_12 rfl (lv_at hl 1 rfl) ?_
    obtain ⟨y4, e5, h⟩ := Option.bind_eq_some_iff.mp h
    refine r_zald F hP 37 (xe_37 E q) e5 dX2_isFree_13 ?_
    refine lv_if_ne (tgt := 21) hx hb dX2_isFree_14 (by decide) (fun c6 => ?_) (fun c6 => ?_)
    · rw [if_neg c6] at h
      refine lv_iconst (v := 0) hx hb dX2_isFree_21 (by decide) ?_
      cases h
      exact hRt _ _ zz_0 dX2_isFree_22 _ _ hP hD hS
    · rw [if_pos c6] at h
      refine lv_iconst (v := 1) hx hb dX2_isFree_17 (by decide) ?_
      refine lv_goto (tgt := 22) hx hb dX2_isFree_18 (by decide) ?_
      cases h
      exact hRt _ _ zz_1 dX2_isFree_22 _ _ hP hD hS
def f_X2_isFree (q : QS) (x1 : Int32) : Option (Int32) := f_X2_isFree_0 q x1
set_option maxRecDepth 100000 in
theorem c_X2_isFree {E : En} {l : Launch} (q : QS) (x1 : Int32) {o : Int32} (h : f_X2_isFree q x1 = some o) : Ct (wX E) E l yX2_isFree (wy yX2_isFree cX2_isFree 2 (some .boolean)) rm_X2_isFree q q [.ref (eA E 29), .int x1] (some (.int o)) :=
  ct_Z (o := (o, q)) (by decide +kernel) (fun p e s m below meth c A Q F hA hRt H locs hP hD hS => en_W [.ref (eA E 29), .int x1] (Nat.le_of_ble_eq_true rfl) (fun ls hl => g_X2_isFree_0 F hA hRt x1 h ls (lv_sub hl [0, 1] rfl) H locs hP hD hS))
def rm_X2_typesFit : Room := { frames := 1, cells := 0, slots := 0, locals := 22 }
def f_X2_typesFit_0 (q : QS) (x1 : Int32) (x2 : Int32) (x3 : Int32) : Option (Int32) :=
  if x1 = 5 then
    some (1 : Int32)
  else
  if x1 = 6 then
    some (1 : Int32)
  else
  if x1 = 7 then
    (f_X2_isOfType q x2 (1 : Int32)).bind fun r4 =>
    if vp_nar .boolean r4 = r4 then some r4 else none
  else
  if x1 = 8 then
    (rd (qI q 31) 200 x2).bind fun y8 =>
    if y8 = (3 : Int32) then
      some (0 : Int32)
    else
      some (1 : Int32)
  else
  if x1 = 9 then
    (rd (qI q 31) 200 x2).bind fun y12 =>
    if y12 = (3 : Int32) then
      some (0 : Int32)
    else
      some (1 : Int32)
  else
  if x1 = 10 then
    (f_X2_isOfType q x2 (1 : Int32)).bind fun r16 =>
    if vp_nar .boolean r16 = r16 then some r16 else none
  else
  if x1 = 11 then
    (f_X2_isOfType q x2 (1 : Int32)).bind fun r20 =>
    if r20 = 0 then
      some (0 : Int32)
    else
      (f_X2_isOfType q x3 (1 : Int32)).bind fun r23 =>
      if r23 = 0 then
        some (0 : Int32)
      else
        some (1 : Int32)
  else
  if x1 = 12 then
    (f_X2_isOfType q x2 (1 : Int32)).bind fun r27 =>
    if r27 = 0 then
      some (0 : Int32)
    else
      (f_X2_isOfType q x3 (1 : Int32)).bind fun r30 =>
      if r30 = 0 then
        some (0 : Int32)
      else
        some (1 : Int32)
  else
  if x1 = 13 then
    (f_X2_isOfType q x2 (1 : Int32)).bind fun r34 =>
    if r34 = 0 then
      some (0 : Int32)
    else
      (f_X2_isOfType q x3 (1 : Int32)).bind fun r37 =>
      if r37 = 0 then
        some (0 : Int32)
      else
        some (1 : Int32)
  else
  if x1 = 14 then
    (f_X2_isOfType q x2 (1 : Int32)).bind fun r41 =>
    if r41 = 0 then
      some (0 : Int32)
    else
      (f_X2_isOfType q x3 (1 : Int32)).bind fun r44 =>
      if r44 = 0 then
        some (0 : Int32)
      else
        some (1 : Int32)
  else
  if x1 = 15 then
    (f_X2_isOfType q x2 (1 : Int32)).bind fun r48 =>
    if r48 = 0 then
      some (0 : Int32)
    else
      (f_X2_isOfType q x3 (1 : Int32)).bind fun r51 =>
      if r51 = 0 then
        some (0 : Int32)
      else
        some (1 : Int32)
  else
  if x1 = 16 then
    (f_X2_isOfType q x2 (2 : Int32)).bind fun r55 =>
    if r55 = 0 then
      some (0 : Int32)
    else
      (f_X2_isOfType q x3 (2 : Int32)).bind fun r58 =>
      if r58 = 0 then
        some (0 : Int32)
      else
        some (1 : Int32)
  else
  if x1 = 17 then
    (rd (qI q 31) 200 x2).bind fun y62 =>
    if y62 = 0 then
      some (1 : Int32)
    else
      (rd (qI q 31) 200 x2).bind fun y65 =>
      (f_X2_isOfType q x3 y65).bind fun r67 =>
      if r67 = 0 then
        some (0 : Int32)
      else
        some (1 : Int32)
  else
  if x1 = 18 then
    (rd (qI q 31) 200 x2).bind fun y71 =>
    if y71 = 0 then
      some (1 : Int32)
    else
      (rd (qI q 31) 200 x2).bind fun y74 =>
      (f_X2_isOfType q x3 y74).bind fun r76 =>
      if r76 = 0 then
        some (0 : Int32)
      else
        some (1 : Int32)
  else
  if x1 = 19 then
    (rd (qI q 31) 200 x2).bind fun y80 =>
    if y80 = 0 then
      some (1 : Int32)
    else
      (rd (qI q 31) 200 x2).bind fun y83 =>
      (f_X2_isOfType q x3 y83).bind fun r85 =>
      if r85 = 0 then
        some (0 : Int32)
      else
        some (1 : Int32)
  else
  if x1 = 20 then
    (rd (qI q 31) 200 x2).bind fun y89 =>
    if y89 = 0 then
      some (1 : Int32)
    else
      (rd (qI q 31) 200 x2).bind fun y92 =>
      (f_X2_isOfType q x3 y92).bind fun r94 =>
      if r94 = 0 then
        some (0 : Int32)
      else
        some (1 : Int32)
  else
  if x1 = 21 then
    (rd (qI q 31) 200 x2).bind fun y98 =>
    if y98 = 0 then
      some (1 : Int32)
    else
      (rd (qI q 31) 200 x2).bind fun y101 =>
      (f_X2_isOfType q x3 y101).bind fun r103 =>
      if r103 = 0 then
        some (0 : Int32)
      else
        some (1 : Int32)
  else
  if x1 = 22 then
    (rd (qI q 31) 200 x2).bind fun y107 =>
    if y107 = 0 then
      some (1 : Int32)
    else
      (rd (qI q 31) 200 x2).bind fun y110 =>
      (f_X2_isOfType q x3 y110).bind fun r112 =>
      if r112 = 0 then
        some (0 : Int32)
      else
        some (1 : Int32)
  else
  if x1 = 23 then
    some (1 : Int32)
  else
  if x1 = 24 then
    some (1 : Int32)
  else
  if x1 = 25 then
    (f_X2_isOfType q x2 (3 : Int32)).bind fun r118 =>
    if vp_nar .boolean r118 = r118 then some r118 else none
  else
  if x1 = 26 then
    (f_X2_isOfType q x2 (3 : Int32)).bind fun r122 =>
    if r122 = 0 then
      some (0 : Int32)
    else
      (f_X2_isOfType q x3 (3 : Int32)).bind fun r125 =>
      if r125 = 0 then
        some (0 : Int32)
      else
        some (1 : Int32)
  else
  if x1 = 27 then
    (f_X2_isOfType q x2 (3 : Int32)).bind fun r129 =>
    if r129 = 0 then
      some (0 : Int32)
    else
      (f_X2_isOfType q x3 (3 : Int32)).bind fun r132 =>
      if r132 = 0 then
        some (0 : Int32)
      else
        some (1 : Int32)
  else
    (rd (qI q 31) 200 x2).bind fun y135 =>
    if y135 = 0 then
      some (1 : Int32)
    else
      (rd (qI q 31) 200 x2).bind fun y138 =>
      (f_X2_isOfType q x3 y138).bind fun r140 =>
      if r140 = 0 then
        some (0 : Int32)
      else
        some (1 : Int32)
set_option maxHeartbeats 4000000 in
set_option maxRecDepth 100000 in
theorem g_X2_typesFit_0 {E : En} {p : Program} {l : Launch} {e : Env} {s : State} {m : MethodId} {args : Array Value} {below : List Frame} {meth : Method} {c : Code} {A : Nat → Prop} {Q : State → Prop} (F : Fx E p s m args meth c (yX2_typesFit).cls cX2_typesFit 4 (some .boolean)) (hA : ∀ z : Nat, s.heap.size ≤ z → A z) {q : QS} {o : Int32} (hRt : RtZ (wX E) E p l e rm_X2_typesFit s m args below meth c A Q cX2_typesFit (o, q)) (x1 : Int32) (x2 : Int32) (x3 : Int32) (h : f_X2_typesFit_0 q x1 x2 x3 = some o) (ls : Array Slot) (hl : lv_has ls 4 [(0, .ref (eA E 29)), (1, .int x1), (2, .int x2), (3, .int x3)]) : Wq (wX E) E p l e rm_X2_typesFit s m args below meth c A 0 0 Q q (F0 m 0 ls []) := by
  intro H locs hP hD hS
  have hx := F.1
  have hb := F.2.1
  unfold f_X2_typesFit_0 at h
  refine lv_iload_n hx hb dX2_typesFit_0 rfl (lv_at hl 1 rfl) ?_
  by_cases c1 : x1 = 5
  · rw [if_pos c1] at h
    refine lv_tableIn (tgt := 108) (off := 107) hx hb dX2_typesFit_1 (by rw [c1]; decide) (by rw [c1]; decide) (by rw [c1]; decide) (by decide) ?_
    refine lv_iconst (v := 1) hx hb dX2_typesFit_108 (by decide) ?_
    cases h
    exact hRt _ _ zz_1 dX2_typesFit_109 _ _ hP hD hS
  rw [if_neg c1] at h
  by_cases c2 : x1 = 6
  · rw [if_pos c2] at h
    refine lv_tableIn (tgt := 108) (off := 107) hx hb dX2_typesFit_1 (by rw [c2]; decide) (by rw [c2]; decide) (by rw [c2]; decide) (by decide) ?_
    refine lv_iconst (v := 1) hx hb dX2_typesFit_108 (by decide) ?_
    cases h
    exact hRt _ _ zz_1 dX2_typesFit_109 _ _ hP hD hS
  rw [if_neg c2] at h
  by_cases c3 : x1 = 7
  · rw [if_pos c3] at h
    refine lv_tableIn (tgt := 110) (off := 109) hx hb dX2_typesFit_1 (by rw [c3]; decide) (by rw [c3]; decide) (by rw [c3]; decide) (by decide) ?_
    refine lv_aload_n hx hb dX2_typesFit_110 rfl (lv_at hl 0 rfl) ?_
    refine lv_iload_n hx hb dX2_typesFit_111 rfl (lv_at hl 2 rfl) ?_
    refine lv_iconst (v := 1) hx hb dX2_typesFit_112 (by decide) ?_
    obtain ⟨r4, e5, h⟩ := Option.bind_eq_some_iff.mp h
    refine q_callV (As := [.int x2, .int (1 : Int32)]) (rest := []) F hA hP hD hS (c_X2_isOfType (E := E) (l := l) q x2 (1 : Int32) e5) k_X2_isOfType in_X2_isOfType se_X2_isOfType lm_X2_57 29 (xe_29 E q) rfl ⟨rfl, rfl⟩ ⟨by decide, by decide⟩ rfl hl.1 rfl (Nat.le_of_ble_eq_true rfl) dX2_typesFit_113 ⟨by decide, by decide⟩ ?_
    intro H locs hP hD hS
    by_cases z6 : vp_nar .boolean r4 = r4
    rotate_left
    · rw [if_neg z6] at h; cases h
    rw [if_pos z6] at h
    cases h
    exact hRt _ _ z6 dX2_typesFit_116 _ _ hP hD hS
  rw [if_neg c3] at h
  by_cases c7 : x1 = 8
  · rw [if_pos c7] at h
    refine lv_tableIn (tgt := 117) (off := 116) hx hb dX2_typesFit_1 (by rw [c7]; decide) (by rw [c7]; decide) (by rw [c7]; decide) (by decide) ?_
    refine lv_aload_n hx hb dX2_typesFit_117 rfl (lv_at hl 0 rfl) ?_
    refine r_get F hP i_X2 29 (xe_29 E q) rfl 2 (by decide) rfl lf_X2_15 rfl dX2_typesFit_118 ?_
    refine lv_iload_n hx hb dX2_typesFit_121 rfl (lv_at hl 2 rfl) ?_
    obtain ⟨y8, e9, h⟩ := Option.bind_eq_some_iff.mp h
    refine r_iald F hP 31 (xe_31 E q) e9 dX2_typesFit_122 ?_
    refine lv_iconst (v := 3) hx hb dX2_typesFit_123 (by decide) ?_
    refine lv_icmp_eq (tgt := 131) hx hb dX2_typesFit_124 (by decide) (fun c10 => ?_) (fun c10 => ?_)
    · rw [if_pos c10] at h
      refine lv_iconst (v := 0) hx hb dX2_typesFit_131 (by decide) ?_
      cases h
      exact hRt _ _ zz_0 dX2_typesFit_132 _ _ hP hD hS
    · rw [if_neg c10] at h
      refine lv_iconst (v := 1) hx hb dX2_typesFit_127 (by decide) ?_
      refine lv_goto (tgt := 132) hx hb dX2_typesFit_128 (by decide) ?_
      cases h
      exact hRt _ _ zz_1 dX2_typesFit_132 _ _ hP hD hS
  rw [if_neg c7] at h
  by_cases c11 : x1 = 9
  · rw [if_pos c11] at h
    refine lv_tableIn (tgt := 117) (off := 116) hx hb dX2_typesFit_1 (by rw [c11]; decide) (by rw [c11]; decide) (by rw [c11]; decide) (by decide) ?_
    refine lv_aload_n hx hb dX2_typesFit_117 rfl (lv_at hl 0 rfl) ?_
    refine r_get F hP i_X2 29 (xe_29 E q) rfl 2 (by decide) rfl lf_X2_15 rfl dX2_typesFit_118 ?_
    refine lv_iload_n hx hb dX2_typesFit_121 rfl (lv_at hl 2 rfl) ?_
    obtain ⟨y12, e13, h⟩ := Option.bind_eq_some_iff.mp h
    refine r_iald F hP 31 (xe_31 E q) e13 dX2_typesFit_122 ?_
    refine lv_iconst (v := 3) hx hb dX2_typesFit_123 (by decide) ?_
    refine lv_icmp_eq (tgt := 131) hx hb dX2_typesFit_124 (by decide) (fun c14 => ?_) (fun c14 => ?_)
    · rw [if_pos c14] at h
      refine lv_iconst (v := 0) hx hb dX2_typesFit_131 (by decide) ?_
      cases h
      exact hRt _ _ zz_0 dX2_typesFit_132 _ _ hP hD hS
    · rw [if_neg c14] at h
      refine lv_iconst (v := 1) hx hb dX2_typesFit_127 (by decide) ?_
      refine lv_goto (tgt := 132) hx hb dX2_typesFit_128 (by decide) ?_
      cases h
      exact hRt _ _ zz_1 dX2_typesFit_132 _ _ hP hD hS
  rw [if_neg c11] at h
  by_cases c15 : x1 = 10
  · rw [if_pos c15] at h
    refine lv_tableIn (tgt := 110) (off := 109) hx hb dX2_typesFit_1 (by rw [c15]; decide) (by rw [c15]; decide) (by rw [c15]; decide) (by decide) ?_
    refine lv_aload_n hx hb dX2_typesFit_110 rfl (lv_at hl 0 rfl) ?_
    refine lv_iload_n hx hb dX2_typesFit_111 rfl (lv_at hl 2 rfl) ?_
    refine lv_iconst (v := 1) hx hb dX2_typesFit_112 (by decide) ?_
    obtain ⟨r16, e17, h⟩ := Option.bind_eq_some_iff.mp h
    refine q_callV (As := [.int x2, .int (1 : Int32)]) (rest := []) F hA hP hD hS (c_X2_isOfType (E := E) (l := l) q x2 (1 : Int32) e17) k_X2_isOfType in_X2_isOfType se_X2_isOfType lm_X2_57 29 (xe_29 E q) rfl ⟨rfl, rfl⟩ ⟨by decide, by decide⟩ rfl hl.1 rfl (Nat.le_of_ble_eq_true rfl) dX2_typesFit_113 ⟨by decide, by decide⟩ ?_
    intro H locs hP hD hS
    by_cases z18 : vp_nar .boolean r16 = r16
    rotate_left
    · rw [if_neg z18] at h; cases h
    rw [if_pos z18] at h
    cases h
    exact hRt _ _ z18 dX2_typesFit_116 _ _ hP hD hS
  rw [if_neg c15] at h
  by_cases c19 : x1 = 11
  · rw [if_pos c19] at h
    refine lv_tableIn (tgt := 133) (off := 132) hx hb dX2_typesFit_1 (by rw [c19]; decide) (by rw [c19]; decide) (by rw [c19]; decide) (by decide) ?_
    refine lv_aload_n hx hb dX2_typesFit_133 rfl (lv_at hl 0 rfl) ?_
    refine lv_iload_n hx hb dX2_typesFit_134 rfl (lv_at hl 2 rfl) ?_
    refine lv_iconst (v := 1) hx hb dX2_typesFit_135 (by decide) ?_
    obtain ⟨r20, e21, h⟩ := Option.bind_eq_some_iff.mp h
    refine q_callV (As := [.int x2, .int (1 : Int32)]) (rest := []) F hA hP hD hS (c_X2_isOfType (E := E) (l := l) q x2 (1 : Int32) e21) k_X2_isOfType in_X2_isOfType se_X2_isOfType lm_X2_57 29 (xe_29 E q) rfl ⟨rfl, rfl⟩ ⟨by decide, by decide⟩ rfl hl.1 rfl (Nat.le_of_ble_eq_true rfl) dX2_typesFit_136 ⟨by decide, by decide⟩ ?_
    intro H locs hP hD hS
    refine lv_if_eq (tgt := 155) hx hb dX2_typesFit_139 (by decide) (fun c22 => ?_) (fun c22 => ?_)
    · rw [if_pos c22] at h
      refine lv_iconst (v := 0) hx hb dX2_typesFit_155 (by decide) ?_
      cases h
      exact hRt _ _ zz_0 dX2_typesFit_156 _ _ hP hD hS
    · rw [if_neg c22] at h
      refine lv_aload_n hx hb dX2_typesFit_142 rfl (lv_at hl 0 rfl) ?_
      refine lv_iload_n hx hb dX2_typesFit_143 rfl (lv_at hl 3 rfl) ?_
      refine lv_iconst (v := 1) hx hb dX2_typesFit_144 (by decide) ?_
      obtain ⟨r23, e24, h⟩ := Option.bind_eq_some_iff.mp h
      refine q_callV (As := [.int x3, .int (1 : Int32)]) (rest := []) F hA hP hD hS (c_X2_isOfType (E := E) (l := l) q x3 (1 : Int32) e24) k_X2_isOfType in_X2_isOfType se_X2_isOfType lm_X2_57 29 (xe_29 E q) rfl ⟨rfl, rfl⟩ ⟨by decide, by decide⟩ rfl hl.1 rfl (Nat.le_of_ble_eq_true rfl) dX2_typesFit_145 ⟨by decide, by decide⟩ ?_
      intro H locs hP hD hS
      refine lv_if_eq (tgt := 155) hx hb dX2_typesFit_148 (by decide) (fun c25 => ?_) (fun c25 => ?_)
      · rw [if_pos c25] at h
        refine lv_iconst (v := 0) hx hb dX2_typesFit_155 (by decide) ?_
        cases h
        exact hRt _ _ zz_0 dX2_typesFit_156 _ _ hP hD hS
      · rw [if_neg c25] at h
        refine lv_iconst (v := 1) hx hb dX2_typesFit_151 (by decide) ?_
        refine lv_goto (tgt := 156) hx hb dX2_typesFit_152 (by decide) ?_
        cases h
        exact hRt _ _ zz_1 dX2_typesFit_156 _ _ hP hD hS
  rw [if_neg c19] at h
  by_cases c26 : x1 = 12
  · rw [if_pos c26] at h
    refine lv_tableIn (tgt := 133) (off := 132) hx hb dX2_typesFit_1 (by rw [c26]; decide) (by rw [c26]; decide) (by rw [c26]; decide) (by decide) ?_
    refine lv_aload_n hx hb dX2_typesFit_133 rfl (lv_at hl 0 rfl) ?_
    refine lv_iload_n hx hb dX2_typesFit_134 rfl (lv_at hl 2 rfl) ?_
    refine lv_iconst (v := 1) hx hb dX2_typesFit_135 (by decide) ?_
    obtain ⟨r27, e28, h⟩ := Option.bind_eq_some_iff.mp h
    refine q_callV (As := [.int x2, .int (1 : Int32)]) (rest := []) F hA hP hD hS (c_X2_isOfType (E := E) (l := l) q x2 (1 : Int32) e28) k_X2_isOfType in_X2_isOfType se_X2_isOfType lm_X2_57 29 (xe_29 E q) rfl ⟨rfl, rfl⟩ ⟨by decide, by decide⟩ rfl hl.1 rfl (Nat.le_of_ble_eq_true rfl) dX2_typesFit_136 ⟨by decide, by decide⟩ ?_
    intro H locs hP hD hS
    refine lv_if_eq (tgt := 155) hx hb dX2_typesFit_139 (by decide) (fun c29 => ?_) (fun c29 => ?_)
    · rw [if_pos c29] at h
      refine lv_iconst (v := 0) hx hb dX2_typesFit_155 (by decide) ?_
      cases h
      exact hRt _ _ zz_0 dX2_typesFit_156 _ _ hP hD hS
    · rw [if_neg c29] at h
      refine lv_aload_n hx hb dX2_typesFit_142 rfl (lv_at hl 0 rfl) ?_
      refine lv_iload_n hx hb dX2_typesFit_143 rfl (lv_at hl 3 rfl) ?_
      refine lv_iconst (v := 1) hx hb dX2_typesFit_144 (by decide) ?_
      obtain ⟨r30, e31, h⟩ := Option.bind_eq_some_iff.mp h
      refine q_callV (As := [.int x3, .int (1 : Int32)]) (rest := []) F hA hP hD hS (c_X2_isOfType (E := E) (l := l) q x3 (1 : Int32) e31) k_X2_isOfType in_X2_isOfType se_X2_isOfType lm_X2_57 29 (xe_29 E q) rfl ⟨rfl, rfl⟩ ⟨by decide, by decide⟩ rfl hl.1 rfl (Nat.le_of_ble_eq_true rfl) dX2_typesFit_145 ⟨by decide, by decide⟩ ?_
      intro H locs hP hD hS
      refine lv_if_eq (tgt := 155) hx hb dX2_typesFit_148 (by decide) (fun c32 => ?_) (fun c32 => ?_)
      · rw [if_pos c32] at h
        refine lv_iconst (v := 0) hx hb dX2_typesFit_155 (by decide) ?_
        cases h
        exact hRt _ _ zz_0 dX2_typesFit_156 _ _ hP hD hS
      · rw [if_neg c32] at h
        refine lv_iconst (v := 1) hx hb dX2_typesFit_151 (by decide) ?_
        refine lv_goto (tgt := 156) hx hb dX2_typesFit_152 (by decide) ?_
        cases h
        exact hRt _ _ zz_1 dX2_typesFit_156 _ _ hP hD hS
  rw [if_neg c26] at h
  by_cases c33 : x1 = 13
  · rw [if_pos c33] at h
    refine lv_tableIn (tgt := 133) (off := 132) hx hb dX2_typesFit_1 (by rw [c33]; decide) (by rw [c33]; decide) (by rw [c33]; decide) (by decide) ?_
    refine lv_aload_n hx hb dX2_typesFit_133 rfl (lv_at hl 0 rfl) ?_
    refine lv_iload_n hx hb dX2_typesFit_134 rfl (lv_at hl 2 rfl) ?_
    refine lv_iconst (v := 1) hx hb dX2_typesFit_135 (by decide) ?_
    obtain ⟨r34, e35, h⟩ := Option.bind_eq_some_iff.mp h
    refine q_callV (As := [.int x2, .int (1 : Int32)]) (rest := []) F hA hP hD hS (c_X2_isOfType (E := E) (l := l) q x2 (1 : Int32) e35) k_X2_isOfType in_X2_isOfType se_X2_isOfType lm_X2_57 29 (xe_29 E q) rfl ⟨rfl, rfl⟩ ⟨by decide, by decide⟩ rfl hl.1 rfl (Nat.le_of_ble_eq_true rfl) dX2_typesFit_136 ⟨by decide, by decide⟩ ?_
    intro H locs hP hD hS
    refine lv_if_eq (tgt := 155) hx hb dX2_typesFit_139 (by decide) (fun c36 => ?_) (fun c36 => ?_)
    · rw [if_pos c36] at h
      refine lv_iconst (v := 0) hx hb dX2_typesFit_155 (by decide) ?_
      cases h
      exact hRt _ _ zz_0 dX2_typesFit_156 _ _ hP hD hS
    · rw [if_neg c36] at h
      refine lv_aload_n hx hb dX2_typesFit_142 rfl (lv_at hl 0 rfl) ?_
      refine lv_iload_n hx hb dX2_typesFit_143 rfl (lv_at hl 3 rfl) ?_
      refine lv_iconst (v := 1) hx hb dX2_typesFit_144 (by decide) ?_
      obtain ⟨r37, e38, h⟩ := Option.bind_eq_some_iff.mp h
      refine q_callV (As := [.int x3, .int (1 : Int32)]) (rest := []) F hA hP hD hS (c_X2_isOfType (E := E) (l := l) q x3 (1 : Int32) e38) k_X2_isOfType in_X2_isOfType se_X2_isOfType lm_X2_57 29 (xe_29 E q) rfl ⟨rfl, rfl⟩ ⟨by decide, by decide⟩ rfl hl.1 rfl (Nat.le_of_ble_eq_true rfl) dX2_typesFit_145 ⟨by decide, by decide⟩ ?_
      intro H locs hP hD hS
      refine lv_if_eq (tgt := 155) hx hb dX2_typesFit_148 (by decide) (fun c39 => ?_) (fun c39 => ?_)
      · rw [if_pos c39] at h
        refine lv_iconst (v := 0) hx hb dX2_typesFit_155 (by decide) ?_
        cases h
        exact hRt _ _ zz_0 dX2_typesFit_156 _ _ hP hD hS
      · rw [if_neg c39] at h
        refine lv_iconst (v := 1) hx hb dX2_typesFit_151 (by decide) ?_
        refine lv_goto (tgt := 156) hx hb dX2_typesFit_152 (by decide) ?_
        cases h
        exact hRt _ _ zz_1 dX2_typesFit_156 _ _ hP hD hS
  rw [if_neg c33] at h
  by_cases c40 : x1 = 14
  · rw [if_pos c40] at h
    refine lv_tableIn (tgt := 133) (off := 132) hx hb dX2_typesFit_1 (by rw [c40]; decide) (by rw [c40]; decide) (by rw [c40]; decide) (by decide) ?_
    refine lv_aload_n hx hb dX2_typesFit_133 rfl (lv_at hl 0 rfl) ?_
    refine lv_iload_n hx hb dX2_typesFit_134 rfl (lv_at hl 2 rfl) ?_
    refine lv_iconst (v := 1) hx hb dX2_typesFit_135 (by decide) ?_
    obtain ⟨r41, e42, h⟩ := Option.bind_eq_some_iff.mp h
    refine q_callV (As := [.int x2, .int (1 : Int32)]) (rest := []) F hA hP hD hS (c_X2_isOfType (E := E) (l := l) q x2 (1 : Int32) e42) k_X2_isOfType in_X2_isOfType se_X2_isOfType lm_X2_57 29 (xe_29 E q) rfl ⟨rfl, rfl⟩ ⟨by decide, by decide⟩ rfl hl.1 rfl (Nat.le_of_ble_eq_true rfl) dX2_typesFit_136 ⟨by decide, by decide⟩ ?_
    intro H locs hP hD hS
    refine lv_if_eq (tgt := 155) hx hb dX2_typesFit_139 (by decide) (fun c43 => ?_) (fun c43 => ?_)
    · rw [if_pos c43] at h
      refine lv_iconst (v := 0) hx hb dX2_typesFit_155 (by decide) ?_
      cases h
      exact hRt _ _ zz_0 dX2_typesFit_156 _ _ hP hD hS
    · rw [if_neg c43] at h
      refine lv_aload_n hx hb dX2_typesFit_142 rfl (lv_at hl 0 rfl) ?_
      refine lv_iload_n hx hb dX2_typesFit_143 rfl (lv_at hl 3 rfl) ?_
      refine lv_iconst (v := 1) hx hb dX2_typesFit_144 (by decide) ?_
      obtain ⟨r44, e45, h⟩ := Option.bind_eq_some_iff.mp h
      refine q_callV (As := [.int x3, .int (1 : Int32)]) (rest := []) F hA hP hD hS (c_X2_isOfType (E := E) (l := l) q x3 (1 : Int32) e45) k_X2_isOfType in_X2_isOfType se_X2_isOfType lm_X2_57 29 (xe_29 E q) rfl ⟨rfl, rfl⟩ ⟨by decide, by decide⟩ rfl hl.1 rfl (Nat.le_of_ble_eq_true rfl) dX2_typesFit_145 ⟨by decide, by decide⟩ ?_
      intro H locs hP hD hS
      refine lv_if_eq (tgt := 155) hx hb dX2_typesFit_148 (by decide) (fun c46 => ?_) (fun c46 => ?_)
      · rw [if_pos c46] at h
        refine lv_iconst (v := 0) hx hb dX2_typesFit_155 (by decide) ?_
        cases h
        exact hRt _ _ zz_0 dX2_typesFit_156 _ _ hP hD hS
      · rw [if_neg c46] at h
        refine lv_iconst (v := 1) hx hb dX2_typesFit_151 (by decide) ?_
        refine lv_goto (tgt := 156) hx hb dX2_typesFit_152 (by decide) ?_
        cases h
        exact hRt _ _ zz_1 dX2_typesFit_156 _ _ hP hD hS
  rw [if_neg c40] at h
  by_cases c47 : x1 = 15
  · rw [if_pos c47] at h
    refine lv_tableIn (tgt := 133) (off := 132) hx hb dX2_typesFit_1 (by rw [c47]; decide) (by rw [c47]; decide) (by rw [c47]; decide) (by decide) ?_
    refine lv_aload_n hx hb dX2_typesFit_133 rfl (lv_at hl 0 rfl) ?_
    refine lv_iload_n hx hb dX2_typesFit_134 rfl (lv_at hl 2 rfl) ?_
    refine lv_iconst (v := 1) hx hb dX2_typesFit_135 (by decide) ?_
    obtain ⟨r48, e49, h⟩ := Option.bind_eq_some_iff.mp h
    refine q_callV (As := [.int x2, .int (1 : Int32)]) (rest := []) F hA hP hD hS (c_X2_isOfType (E := E) (l := l) q x2 (1 : Int32) e49) k_X2_isOfType in_X2_isOfType se_X2_isOfType lm_X2_57 29 (xe_29 E q) rfl ⟨rfl, rfl⟩ ⟨by decide, by decide⟩ rfl hl.1 rfl (Nat.le_of_ble_eq_true rfl) dX2_typesFit_136 ⟨by decide, by decide⟩ ?_
    intro H locs hP hD hS
    refine lv_if_eq (tgt := 155) hx hb dX2_typesFit_139 (by decide) (fun c50 => ?_) (fun c50 => ?_)
    · rw [if_pos c50] at h
      refine lv_iconst (v := 0) hx hb dX2_typesFit_155 (by decide) ?_
      cases h
      exact hRt _ _ zz_0 dX2_typesFit_156 _ _ hP hD hS
    · rw [if_neg c50] at h
      refine lv_aload_n hx hb dX2_typesFit_142 rfl (lv_at hl 0 rfl) ?_
      refine lv_iload_n hx hb dX2_typesFit_143 rfl (lv_at hl 3 rfl) ?_
      refine lv_iconst (v := 1) hx hb dX2_typesFit_144 (by decide) ?_
      obtain ⟨r51, e52, h⟩ := Option.bind_eq_some_iff.mp h
      refine q_callV (As := [.int x3, .int (1 : Int32)]) (rest := []) F hA hP hD hS (c_X2_isOfType (E := E) (l := l) q x3 (1 : Int32) e52) k_X2_isOfType in_X2_isOfType se_X2_isOfType lm_X2_57 29 (xe_29 E q) rfl ⟨rfl, rfl⟩ ⟨by decide, by decide⟩ rfl hl.1 rfl (Nat.le_of_ble_eq_true rfl) dX2_typesFit_145 ⟨by decide, by decide⟩ ?_
      intro H locs hP hD hS
      refine lv_if_eq (tgt := 155) hx hb dX2_typesFit_148 (by decide) (fun c53 => ?_) (fun c53 => ?_)
      · rw [if_pos c53] at h
        refine lv_iconst (v := 0) hx hb dX2_typesFit_155 (by decide) ?_
        cases h
        exact hRt _ _ zz_0 dX2_typesFit_156 _ _ hP hD hS
      · rw [if_neg c53] at h
        refine lv_iconst (v := 1) hx hb dX2_typesFit_151 (by decide) ?_
        refine lv_goto (tgt := 156) hx hb dX2_typesFit_152 (by decide) ?_
        cases h
        exact hRt _ _ zz_1 dX2_typesFit_156 _ _ hP hD hS
  rw [if_neg c47] at h
  by_cases c54 : x1 = 16
  · rw [if_pos c54] at h
    refine lv_tableIn (tgt := 157) (off := 156) hx hb dX2_typesFit_1 (by rw [c54]; decide) (by rw [c54]; decide) (by rw [c54]; decide) (by decide) ?_
    refine lv_aload_n hx hb dX2_typesFit_157 rfl (lv_at hl 0 rfl) ?_
    refine lv_iload_n hx hb dX2_typesFit_158 rfl (lv_at hl 2 rfl) ?_
    refine lv_iconst (v := 2) hx hb dX2_typesFit_159 (by decide) ?_
    obtain ⟨r55, e56, h⟩ := Option.bind_eq_some_iff.mp h
    refine q_callV (As := [.int x2, .int (2 : Int32)]) (rest := []) F hA hP hD hS (c_X2_isOfType (E := E) (l := l) q x2 (2 : Int32) e56) k_X2_isOfType in_X2_isOfType se_X2_isOfType lm_X2_57 29 (xe_29 E q) rfl ⟨rfl, rfl⟩ ⟨by decide, by decide⟩ rfl hl.1 rfl (Nat.le_of_ble_eq_true rfl) dX2_typesFit_160 ⟨by decide, by decide⟩ ?_
    intro H locs hP hD hS
    refine lv_if_eq (tgt := 179) hx hb dX2_typesFit_163 (by decide) (fun c57 => ?_) (fun c57 => ?_)
    · rw [if_pos c57] at h
      refine lv_iconst (v := 0) hx hb dX2_typesFit_179 (by decide) ?_
      cases h
      exact hRt _ _ zz_0 dX2_typesFit_180 _ _ hP hD hS
    · rw [if_neg c57] at h
      refine lv_aload_n hx hb dX2_typesFit_166 rfl (lv_at hl 0 rfl) ?_
      refine lv_iload_n hx hb dX2_typesFit_167 rfl (lv_at hl 3 rfl) ?_
      refine lv_iconst (v := 2) hx hb dX2_typesFit_168 (by decide) ?_
      obtain ⟨r58, e59, h⟩ := Option.bind_eq_some_iff.mp h
      refine q_callV (As := [.int x3, .int (2 : Int32)]) (rest := []) F hA hP hD hS (c_X2_isOfType (E := E) (l := l) q x3 (2 : Int32) e59) k_X2_isOfType in_X2_isOfType se_X2_isOfType lm_X2_57 29 (xe_29 E q) rfl ⟨rfl, rfl⟩ ⟨by decide, by decide⟩ rfl hl.1 rfl (Nat.le_of_ble_eq_true rfl) dX2_typesFit_169 ⟨by decide, by decide⟩ ?_
      intro H locs hP hD hS
      refine lv_if_eq (tgt := 179) hx hb dX2_typesFit_172 (by decide) (fun c60 => ?_) (fun c60 => ?_)
      · rw [if_pos c60] at h
        refine lv_iconst (v := 0) hx hb dX2_typesFit_179 (by decide) ?_
        cases h
        exact hRt _ _ zz_0 dX2_typesFit_180 _ _ hP hD hS
      · rw [if_neg c60] at h
        refine lv_iconst (v := 1) hx hb dX2_typesFit_175 (by decide) ?_
        refine lv_goto (tgt := 180) hx hb dX2_typesFit_176 (by decide) ?_
        cases h
        exact hRt _ _ zz_1 dX2_typesFit_180 _ _ hP hD hS
  rw [if_neg c54] at h
  by_cases c61 : x1 = 17
  · rw [if_pos c61] at h
    refine lv_tableIn (tgt := 212) (off := 211) hx hb dX2_typesFit_1 (by rw [c61]; decide) (by rw [c61]; decide) (by rw [c61]; decide) (by decide) ?_
    refine lv_aload_n hx hb dX2_typesFit_212 rfl (lv_at hl 0 rfl) ?_
    refine r_get F hP i_X2 29 (xe_29 E q) rfl 2 (by decide) rfl lf_X2_15 rfl dX2_typesFit_213 ?_
    refine lv_iload_n hx hb dX2_typesFit_216 rfl (lv_at hl 2 rfl) ?_
    obtain ⟨y62, e63, h⟩ := Option.bind_eq_some_iff.mp h
    refine r_iald F hP 31 (xe_31 E q) e63 dX2_typesFit_217 ?_
    refine lv_if_eq (tgt := 235) hx hb dX2_typesFit_218 (by decide) (fun c64 => ?_) (fun c64 => ?_)
    · rw [if_pos c64] at h
      refine lv_iconst (v := 1) hx hb dX2_typesFit_235 (by decide) ?_
      refine lv_goto (tgt := 240) hx hb dX2_typesFit_236 (by decide) ?_
      cases h
      exact hRt _ _ zz_1 dX2_typesFit_240 _ _ hP hD hS
    · rw [if_neg c64] at h
      refine lv_aload_n hx hb dX2_typesFit_221 rfl (lv_at hl 0 rfl) ?_
      refine lv_iload_n hx hb dX2_typesFit_222 rfl (lv_at hl 3 rfl) ?_
      refine lv_aload_n hx hb dX2_typesFit_223 rfl (lv_at hl 0 rfl) ?_
      refine r_get F hP i_X2 29 (xe_29 E q) rfl 2 (by decide) rfl lf_X2_15 rfl dX2_typesFit_224 ?_
      refine lv_iload_n hx hb dX2_typesFit_227 rfl (lv_at hl 2 rfl) ?_
      obtain ⟨y65, e66, h⟩ := Option.bind_eq_some_iff.mp h
      refine r_iald F hP 31 (xe_31 E q) e66 dX2_typesFit_228 ?_
      obtain ⟨r67, e68, h⟩ := Option.bind_eq_some_iff.mp h
      refine q_callV (As := [.int x3, .int y65]) (rest := []) F hA hP hD hS (c_X2_isOfType (E := E) (l := l) q x3 y65 e68) k_X2_isOfType in_X2_isOfType se_X2_isOfType lm_X2_57 29 (xe_29 E q) rfl ⟨rfl, rfl⟩ ⟨by decide, by decide⟩ rfl hl.1 rfl (Nat.le_of_ble_eq_true rfl) dX2_typesFit_229 ⟨by decide, by decide⟩ ?_
      intro H locs hP hD hS
      refine lv_if_eq (tgt := 239) hx hb dX2_typesFit_232 (by decide) (fun c69 => ?_) (fun c69 => ?_)
      · rw [if_pos c69] at h
        refine lv_iconst (v := 0) hx hb dX2_typesFit_239 (by decide) ?_
        cases h
        exact hRt _ _ zz_0 dX2_typesFit_240 _ _ hP hD hS
      · rw [if_neg c69] at h
        refine lv_iconst (v := 1) hx hb dX2_typesFit_235 (by decide) ?_
        refine lv_goto (tgt := 240) hx hb dX2_typesFit_236 (by decide) ?_
        cases h
        exact hRt _ _ zz_1 dX2_typesFit_240 _ _ hP hD hS
  rw [if_neg c61] at h
  by_cases c70 : x1 = 18
  · rw [if_pos c70] at h
    refine lv_tableIn (tgt := 212) (off := 211) hx hb dX2_typesFit_1 (by rw [c70]; decide) (by rw [c70]; decide) (by rw [c70]; decide) (by decide) ?_
    refine lv_aload_n hx hb dX2_typesFit_212 rfl (lv_at hl 0 rfl) ?_
    refine r_get F hP i_X2 29 (xe_29 E q) rfl 2 (by decide) rfl lf_X2_15 rfl dX2_typesFit_213 ?_
    refine lv_iload_n hx hb dX2_typesFit_216 rfl (lv_at hl 2 rfl) ?_
    obtain ⟨y71, e72, h⟩ := Option.bind_eq_some_iff.mp h
    refine r_iald F hP 31 (xe_31 E q) e72 dX2_typesFit_217 ?_
    refine lv_if_eq (tgt := 235) hx hb dX2_typesFit_218 (by decide) (fun c73 => ?_) (fun c73 => ?_)
    · rw [if_pos c73] at h
      refine lv_iconst (v := 1) hx hb dX2_typesFit_235 (by decide) ?_
      refine lv_goto (tgt := 240) hx hb dX2_typesFit_236 (by decide) ?_
      cases h
      exact hRt _ _ zz_1 dX2_typesFit_240 _ _ hP hD hS
    · rw [if_neg c73] at h
      refine lv_aload_n hx hb dX2_typesFit_221 rfl (lv_at hl 0 rfl) ?_
      refine lv_iload_n hx hb dX2_typesFit_222 rfl (lv_at hl 3 rfl) ?_
      refine lv_aload_n hx hb dX2_typesFit_223 rfl (lv_at hl 0 rfl) ?_
      refine r_get F hP i_X2 29 (xe_29 E q) rfl 2 (by decide) rfl lf_X2_15 rfl dX2_typesFit_224 ?_
      refine lv_iload_n hx hb dX2_typesFit_227 rfl (lv_at hl 2 rfl) ?_
      obtain ⟨y74, e75, h⟩ := Option.bind_eq_some_iff.mp h
      refine r_iald F hP 31 (xe_31 E q) e75 dX2_typesFit_228 ?_
      obtain ⟨r76, e77, h⟩ := Option.bind_eq_some_iff.mp h
      refine q_callV (As := [.int x3, .int y74]) (rest := []) F hA hP hD hS (c_X2_isOfType (E := E) (l := l) q x3 y74 e77) k_X2_isOfType in_X2_isOfType se_X2_isOfType lm_X2_57 29 (xe_29 E q) rfl ⟨rfl, rfl⟩ ⟨by decide, by decide⟩ rfl hl.1 rfl (Nat.le_of_ble_eq_true rfl) dX2_typesFit_229 ⟨by decide, by decide⟩ ?_
      intro H locs hP hD hS
      refine lv_if_eq (tgt := 239) hx hb dX2_typesFit_232 (by decide) (fun c78 => ?_) (fun c78 => ?_)
      · rw [if_pos c78] at h
        refine lv_iconst (v := 0) hx hb dX2_typesFit_239 (by decide) ?_
        cases h
        exact hRt _ _ zz_0 dX2_typesFit_240 _ _ hP hD hS
      · rw [if_neg c78] at h
        refine lv_iconst (v := 1) hx hb dX2_typesFit_235 (by decide) ?_
        refine lv_goto (tgt := 240) hx hb dX2_typesFit_236 (by decide) ?_
        cases h
        exact hRt _ _ zz_1 dX2_typesFit_240 _ _ hP hD hS
  rw [if_neg c70] at h
  by_cases c79 : x1 = 19
  · rw [if_pos c79] at h
    refine lv_tableIn (tgt := 212) (off := 211) hx hb dX2_typesFit_1 (by rw [c79]; decide) (by rw [c79]; decide) (by rw [c79]; decide) (by decide) ?_
    refine lv_aload_n hx hb dX2_typesFit_212 rfl (lv_at hl 0 rfl) ?_
    refine r_get F hP i_X2 29 (xe_29 E q) rfl 2 (by decide) rfl lf_X2_15 rfl dX2_typesFit_213 ?_
    refine lv_iload_n hx hb dX2_typesFit_216 rfl (lv_at hl 2 rfl) ?_
    obtain ⟨y80, e81, h⟩ := Option.bind_eq_some_iff.mp h
    refine r_iald F hP 31 (xe_31 E q) e81 dX2_typesFit_217 ?_
    refine lv_if_eq (tgt := 235) hx hb dX2_typesFit_218 (by decide) (fun c82 => ?_) (fun c82 => ?_)
    · rw [if_pos c82] at h
      refine lv_iconst (v := 1) hx hb dX2_typesFit_235 (by decide) ?_
      refine lv_goto (tgt := 240) hx hb dX2_typesFit_236 (by decide) ?_
      cases h
      exact hRt _ _ zz_1 dX2_typesFit_240 _ _ hP hD hS
    · rw [if_neg c82] at h
      refine lv_aload_n hx hb dX2_typesFit_221 rfl (lv_at hl 0 rfl) ?_
      refine lv_iload_n hx hb dX2_typesFit_222 rfl (lv_at hl 3 rfl) ?_
      refine lv_aload_n hx hb dX2_typesFit_223 rfl (lv_at hl 0 rfl) ?_
      refine r_get F hP i_X2 29 (xe_29 E q) rfl 2 (by decide) rfl lf_X2_15 rfl dX2_typesFit_224 ?_
      refine lv_iload_n hx hb dX2_typesFit_227 rfl (lv_at hl 2 rfl) ?_
      obtain ⟨y83, e84, h⟩ := Option.bind_eq_some_iff.mp h
      refine r_iald F hP 31 (xe_31 E q) e84 dX2_typesFit_228 ?_
      obtain ⟨r85, e86, h⟩ := Option.bind_eq_some_iff.mp h
      refine q_callV (As := [.int x3, .int y83]) (rest := []) F hA hP hD hS (c_X2_isOfType (E := E) (l := l) q x3 y83 e86) k_X2_isOfType in_X2_isOfType se_X2_isOfType lm_X2_57 29 (xe_29 E q) rfl ⟨rfl, rfl⟩ ⟨by decide, by decide⟩ rfl hl.1 rfl (Nat.le_of_ble_eq_true rfl) dX2_typesFit_229 ⟨by decide, by decide⟩ ?_
      intro H locs hP hD hS
      refine lv_if_eq (tgt := 239) hx hb dX2_typesFit_232 (by decide) (fun c87 => ?_) (fun c87 => ?_)
      · rw [if_pos c87] at h
        refine lv_iconst (v := 0) hx hb dX2_typesFit_239 (by decide) ?_
        cases h
        exact hRt _ _ zz_0 dX2_typesFit_240 _ _ hP hD hS
      · rw [if_neg c87] at h
        refine lv_iconst (v := 1) hx hb dX2_typesFit_235 (by decide) ?_
        refine lv_goto (tgt := 240) hx hb dX2_typesFit_236 (by decide) ?_
        cases h
        exact hRt _ _ zz_1 dX2_typesFit_240 _ _ hP hD hS
  rw [if_neg c79] at h
  by_cases c88 : x1 = 20
  · rw [if_pos c88] at h
    refine lv_tableIn (tgt := 212) (off := 211) hx hb dX2_typesFit_1 (by rw [c88]; decide) (by rw [c88]; decide) (by rw [c88]; decide) (by decide) ?_
    refine lv_aload_n hx hb dX2_typesFit_212 rfl (lv_at hl 0 rfl) ?_
    refine r_get F hP i_X2 29 (xe_29 E q) rfl 2 (by decide) rfl lf_X2_15 rfl dX2_typesFit_213 ?_
    refine lv_iload_n hx hb dX2_typesFit_216 rfl (lv_at hl 2 rfl) ?_
    obtain ⟨y89, e90, h⟩ := Option.bind_eq_some_iff.mp h
    refine r_iald F hP 31 (xe_31 E q) e90 dX2_typesFit_217 ?_
    refine lv_if_eq (tgt := 235) hx hb dX2_typesFit_218 (by decide) (fun c91 => ?_) (fun c91 => ?_)
    · rw [if_pos c91] at h
      refine lv_iconst (v := 1) hx hb dX2_typesFit_235 (by decide) ?_
      refine lv_goto (tgt := 240) hx hb dX2_typesFit_236 (by decide) ?_
      cases h
      exact hRt _ _ zz_1 dX2_typesFit_240 _ _ hP hD hS
    · rw [if_neg c91] at h
      refine lv_aload_n hx hb dX2_typesFit_221 rfl (lv_at hl 0 rfl) ?_
      refine lv_iload_n hx hb dX2_typesFit_222 rfl (lv_at hl 3 rfl) ?_
      refine lv_aload_n hx hb dX2_typesFit_223 rfl (lv_at hl 0 rfl) ?_
      refine r_get F hP i_X2 29 (xe_29 E q) rfl 2 (by decide) rfl lf_X2_15 rfl dX2_typesFit_224 ?_
      refine lv_iload_n hx hb dX2_typesFit_227 rfl (lv_at hl 2 rfl) ?_
      obtain ⟨y92, e93, h⟩ := Option.bind_eq_some_iff.mp h
      refine r_iald F hP 31 (xe_31 E q) e93 dX2_typesFit_228 ?_
      obtain ⟨r94, e95, h⟩ := Option.bind_eq_some_iff.mp h
      refine q_callV (As := [.int x3, .int y92]) (rest := []) F hA hP hD hS (c_X2_isOfType (E := E) (l := l) q x3 y92 e95) k_X2_isOfType in_X2_isOfType se_X2_isOfType lm_X2_57 29 (xe_29 E q) rfl ⟨rfl, rfl⟩ ⟨by decide, by decide⟩ rfl hl.1 rfl (Nat.le_of_ble_eq_true rfl) dX2_typesFit_229 ⟨by decide, by decide⟩ ?_
      intro H locs hP hD hS
      refine lv_if_eq (tgt := 239) hx hb dX2_typesFit_232 (by decide) (fun c96 => ?_) (fun c96 => ?_)
      · rw [if_pos c96] at h
        refine lv_iconst (v := 0) hx hb dX2_typesFit_239 (by decide) ?_
        cases h
        exact hRt _ _ zz_0 dX2_typesFit_240 _ _ hP hD hS
      · rw [if_neg c96] at h
        refine lv_iconst (v := 1) hx hb dX2_typesFit_235 (by decide) ?_
        refine lv_goto (tgt := 240) hx hb dX2_typesFit_236 (by decide) ?_
        cases h
        exact hRt _ _ zz_1 dX2_typesFit_240 _ _ hP hD hS
  rw [if_neg c88] at h
  by_cases c97 : x1 = 21
  · rw [if_pos c97] at h
    refine lv_tableIn (tgt := 212) (off := 211) hx hb dX2_typesFit_1 (by rw [c97]; decide) (by rw [c97]; decide) (by rw [c97]; decide) (by decide) ?_
    refine lv_aload_n hx hb dX2_typesFit_212 rfl (lv_at hl 0 rfl) ?_
    refine r_get F hP i_X2 29 (xe_29 E q) rfl 2 (by decide) rfl lf_X2_15 rfl dX2_typesFit_213 ?_
    refine lv_iload_n hx hb dX2_typesFit_216 rfl (lv_at hl 2 rfl) ?_
    obtain ⟨y98, e99, h⟩ := Option.bind_eq_some_iff.mp h
    refine r_iald F hP 31 (xe_31 E q) e99 dX2_typesFit_217 ?_
    refine lv_if_eq (tgt := 235) hx hb dX2_typesFit_218 (by decide) (fun c100 => ?_) (fun c100 => ?_)
    · rw [if_pos c100] at h
      refine lv_iconst (v := 1) hx hb dX2_typesFit_235 (by decide) ?_
      refine lv_goto (tgt := 240) hx hb dX2_typesFit_236 (by decide) ?_
      cases h
      exact hRt _ _ zz_1 dX2_typesFit_240 _ _ hP hD hS
    · rw [if_neg c100] at h
      refine lv_aload_n hx hb dX2_typesFit_221 rfl (lv_at hl 0 rfl) ?_
      refine lv_iload_n hx hb dX2_typesFit_222 rfl (lv_at hl 3 rfl) ?_
      refine lv_aload_n hx hb dX2_typesFit_223 rfl (lv_at hl 0 rfl) ?_
      refine r_get F hP i_X2 29 (xe_29 E q) rfl 2 (by decide) rfl lf_X2_15 rfl dX2_typesFit_224 ?_
      refine lv_iload_n hx hb dX2_typesFit_227 rfl (lv_at hl 2 rfl) ?_
      obtain ⟨y101, e102, h⟩ := Option.bind_eq_some_iff.mp h
      refine r_iald F hP 31 (xe_31 E q) e102 dX2_typesFit_228 ?_
      obtain ⟨r103, e104, h⟩ := Option.bind_eq_some_iff.mp h
      refine q_callV (As := [.int x3, .int y101]) (rest := []) F hA hP hD hS (c_X2_isOfType (E := E) (l := l) q x3 y101 e104) k_X2_isOfType in_X2_isOfType se_X2_isOfType lm_X2_57 29 (xe_29 E q) rfl ⟨rfl, rfl⟩ ⟨by decide, by decide⟩ rfl hl.1 rfl (Nat.le_of_ble_eq_true rfl) dX2_typesFit_229 ⟨by decide, by decide⟩ ?_
      intro H locs hP hD hS
      refine lv_if_eq (tgt := 239) hx hb dX2_typesFit_232 (by decide) (fun c105 => ?_) (fun c105 => ?_)
      · rw [if_pos c105] at h
        refine lv_iconst (v := 0) hx hb dX2_typesFit_239 (by decide) ?_
        cases h
        exact hRt _ _ zz_0 dX2_typesFit_240 _ _ hP hD hS
      · rw [if_neg c105] at h
        refine lv_iconst (v := 1) hx hb dX2_typesFit_235 (by decide) ?_
        refine lv_goto (tgt := 240) hx hb dX2_typesFit_236 (by decide) ?_
        cases h
        exact hRt _ _ zz_1 dX2_typesFit_240 _ _ hP hD hS
  rw [if_neg c97] at h
  by_cases c106 : x1 = 22
  · rw [if_pos c106] at h
    refine lv_tableIn (tgt := 212) (off := 211) hx hb dX2_typesFit_1 (by rw [c106]; decide) (by rw [c106]; decide) (by rw [c106]; decide) (by decide) ?_
    refine lv_aload_n hx hb dX2_typesFit_212 rfl (lv_at hl 0 rfl) ?_
    refine r_get F hP i_X2 29 (xe_29 E q) rfl 2 (by decide) rfl lf_X2_15 rfl dX2_typesFit_213 ?_
    refine lv_iload_n hx hb dX2_typesFit_216 rfl (lv_at hl 2 rfl) ?_
    obtain ⟨y107, e108, h⟩ := Option.bind_eq_some_iff.mp h
    refine r_iald F hP 31 (xe_31 E q) e108 dX2_typesFit_217 ?_
    refine lv_if_eq (tgt := 235) hx hb dX2_typesFit_218 (by decide) (fun c109 => ?_) (fun c109 => ?_)
    · rw [if_pos c109] at h
      refine lv_iconst (v := 1) hx hb dX2_typesFit_235 (by decide) ?_
      refine lv_goto (tgt := 240) hx hb dX2_typesFit_236 (by decide) ?_
      cases h
      exact hRt _ _ zz_1 dX2_typesFit_240 _ _ hP hD hS
    · rw [if_neg c109] at h
      refine lv_aload_n hx hb dX2_typesFit_221 rfl (lv_at hl 0 rfl) ?_
      refine lv_iload_n hx hb dX2_typesFit_222 rfl (lv_at hl 3 rfl) ?_
      refine lv_aload_n hx hb dX2_typesFit_223 rfl (lv_at hl 0 rfl) ?_
      refine r_get F hP i_X2 29 (xe_29 E q) rfl 2 (by decide) rfl lf_X2_15 rfl dX2_typesFit_224 ?_
      refine lv_iload_n hx hb dX2_typesFit_227 rfl (lv_at hl 2 rfl) ?_
      obtain ⟨y110, e111, h⟩ := Option.bind_eq_some_iff.mp h
      refine r_iald F hP 31 (xe_31 E q) e111 dX2_typesFit_228 ?_
      obtain ⟨r112, e113, h⟩ := Option.bind_eq_some_iff.mp h
      refine q_callV (As := [.int x3, .int y110]) (rest := []) F hA hP hD hS (c_X2_isOfType (E := E) (l := l) q x3 y110 e113) k_X2_isOfType in_X2_isOfType se_X2_isOfType lm_X2_57 29 (xe_29 E q) rfl ⟨rfl, rfl⟩ ⟨by decide, by decide⟩ rfl hl.1 rfl (Nat.le_of_ble_eq_true rfl) dX2_typesFit_229 ⟨by decide, by decide⟩ ?_
      intro H locs hP hD hS
      refine lv_if_eq (tgt := 239) hx hb dX2_typesFit_232 (by decide) (fun c114 => ?_) (fun c114 => ?_)
      · rw [if_pos c114] at h
        refine lv_iconst (v := 0) hx hb dX2_typesFit_239 (by decide) ?_
        cases h
        exact hRt _ _ zz_0 dX2_typesFit_240 _ _ hP hD hS
      · rw [if_neg c114] at h
        refine lv_iconst (v := 1) hx hb dX2_typesFit_235 (by decide) ?_
        refine lv_goto (tgt := 240) hx hb dX2_typesFit_236 (by decide) ?_
        cases h
        exact hRt _ _ zz_1 dX2_typesFit_240 _ _ hP hD hS
  rw [if_neg c106] at h
  by_cases c115 : x1 = 23
  · rw [if_pos c115] at h
    refine lv_tableIn (tgt := 108) (off := 107) hx hb dX2_typesFit_1 (by rw [c115]; decide) (by rw [c115]; decide) (by rw [c115]; decide) (by decide) ?_
    refine lv_iconst (v := 1) hx hb dX2_typesFit_108 (by decide) ?_
    cases h
    exact hRt _ _ zz_1 dX2_typesFit_109 _ _ hP hD hS
  rw [if_neg c115] at h
  by_cases c116 : x1 = 24
  · rw [if_pos c116] at h
    refine lv_tableIn (tgt := 108) (off := 107) hx hb dX2_typesFit_1 (by rw [c116]; decide) (by rw [c116]; decide) (by rw [c116]; decide) (by decide) ?_
    refine lv_iconst (v := 1) hx hb dX2_typesFit_108 (by decide) ?_
    cases h
    exact hRt _ _ zz_1 dX2_typesFit_109 _ _ hP hD hS
  rw [if_neg c116] at h
  by_cases c117 : x1 = 25
  · rw [if_pos c117] at h
    refine lv_tableIn (tgt := 181) (off := 180) hx hb dX2_typesFit_1 (by rw [c117]; decide) (by rw [c117]; decide) (by rw [c117]; decide) (by decide) ?_
    refine lv_aload_n hx hb dX2_typesFit_181 rfl (lv_at hl 0 rfl) ?_
    refine lv_iload_n hx hb dX2_typesFit_182 rfl (lv_at hl 2 rfl) ?_
    refine lv_iconst (v := 3) hx hb dX2_typesFit_183 (by decide) ?_
    obtain ⟨r118, e119, h⟩ := Option.bind_eq_some_iff.mp h
    refine q_callV (As := [.int x2, .int (3 : Int32)]) (rest := []) F hA hP hD hS (c_X2_isOfType (E := E) (l := l) q x2 (3 : Int32) e119) k_X2_isOfType in_X2_isOfType se_X2_isOfType lm_X2_57 29 (xe_29 E q) rfl ⟨rfl, rfl⟩ ⟨by decide, by decide⟩ rfl hl.1 rfl (Nat.le_of_ble_eq_true rfl) dX2_typesFit_184 ⟨by decide, by decide⟩ ?_
    intro H locs hP hD hS
    by_cases z120 : vp_nar .boolean r118 = r118
    rotate_left
    · rw [if_neg z120] at h; cases h
    rw [if_pos z120] at h
    cases h
    exact hRt _ _ z120 dX2_typesFit_187 _ _ hP hD hS
  rw [if_neg c117] at h
  by_cases c121 : x1 = 26
  · rw [if_pos c121] at h
    refine lv_tableIn (tgt := 188) (off := 187) hx hb dX2_typesFit_1 (by rw [c121]; decide) (by rw [c121]; decide) (by rw [c121]; decide) (by decide) ?_
    refine lv_aload_n hx hb dX2_typesFit_188 rfl (lv_at hl 0 rfl) ?_
    refine lv_iload_n hx hb dX2_typesFit_189 rfl (lv_at hl 2 rfl) ?_
    refine lv_iconst (v := 3) hx hb dX2_typesFit_190 (by decide) ?_
    obtain ⟨r122, e123, h⟩ := Option.bind_eq_some_iff.mp h
    refine q_callV (As := [.int x2, .int (3 : Int32)]) (rest := []) F hA hP hD hS (c_X2_isOfType (E := E) (l := l) q x2 (3 : Int32) e123) k_X2_isOfType in_X2_isOfType se_X2_isOfType lm_X2_57 29 (xe_29 E q) rfl ⟨rfl, rfl⟩ ⟨by decide, by decide⟩ rfl hl.1 rfl (Nat.le_of_ble_eq_true rfl) dX2_typesFit_191 ⟨by decide, by decide⟩ ?_
    intro H locs hP hD hS
    refine lv_if_eq (tgt := 210) hx hb dX2_typesFit_194 (by decide) (fun c124 => ?_) (fun c124 => ?_)
    · rw [if_pos c124] at h
      refine lv_iconst (v := 0) hx hb dX2_typesFit_210 (by decide) ?_
      cases h
      exact hRt _ _ zz_0 dX2_typesFit_211 _ _ hP hD hS
    · rw [if_neg c124] at h
      refine lv_aload_n hx hb dX2_typesFit_197 rfl (lv_at hl 0 rfl) ?_
      refine lv_iload_n hx hb dX2_typesFit_198 rfl (lv_at hl 3 rfl) ?_
      refine lv_iconst (v := 3) hx hb dX2_typesFit_199 (by decide) ?_
      obtain ⟨r125, e126, h⟩ := Option.bind_eq_some_iff.mp h
      refine q_callV (As := [.int x3, .int (3 : Int32)]) (rest := []) F hA hP hD hS (c_X2_isOfType (E := E) (l := l) q x3 (3 : Int32) e126) k_X2_isOfType in_X2_isOfType se_X2_isOfType lm_X2_57 29 (xe_29 E q) rfl ⟨rfl, rfl⟩ ⟨by decide, by decide⟩ rfl hl.1 rfl (Nat.le_of_ble_eq_true rfl) dX2_typesFit_200 ⟨by decide, by decide⟩ ?_
      intro H locs hP hD hS
      refine lv_if_eq (tgt := 210) hx hb dX2_typesFit_203 (by decide) (fun c127 => ?_) (fun c127 => ?_)
      · rw [if_pos c127] at h
        refine lv_iconst (v := 0) hx hb dX2_typesFit_210 (by decide) ?_
        cases h
        exact hRt _ _ zz_0 dX2_typesFit_211 _ _ hP hD hS
      · rw [if_neg c127] at h
        refine lv_iconst (v := 1) hx hb dX2_typesFit_206 (by decide) ?_
        refine lv_goto (tgt := 211) hx hb dX2_typesFit_207 (by decide) ?_
        cases h
        exact hRt _ _ zz_1 dX2_typesFit_211 _ _ hP hD hS
  rw [if_neg c121] at h
  by_cases c128 : x1 = 27
  · rw [if_pos c128] at h
    refine lv_tableIn (tgt := 188) (off := 187) hx hb dX2_typesFit_1 (by rw [c128]; decide) (by rw [c128]; decide) (by rw [c128]; decide) (by decide) ?_
    refine lv_aload_n hx hb dX2_typesFit_188 rfl (lv_at hl 0 rfl) ?_
    refine lv_iload_n hx hb dX2_typesFit_189 rfl (lv_at hl 2 rfl) ?_
    refine lv_iconst (v := 3) hx hb dX2_typesFit_190 (by decide) ?_
    obtain ⟨r129, e130, h⟩ := Option.bind_eq_some_iff.mp h
    refine q_callV (As := [.int x2, .int (3 : Int32)]) (rest := []) F hA hP hD hS (c_X2_isOfType (E := E) (l := l) q x2 (3 : Int32) e130) k_X2_isOfType in_X2_isOfType se_X2_isOfType lm_X2_57 29 (xe_29 E q) rfl ⟨rfl, rfl⟩ ⟨by decide, by decide⟩ rfl hl.1 rfl (Nat.le_of_ble_eq_true rfl) dX2_typesFit_191 ⟨by decide, by decide⟩ ?_
    intro H locs hP hD hS
    refine lv_if_eq (tgt := 210) hx hb dX2_typesFit_194 (by decide) (fun c131 => ?_) (fun c131 => ?_)
    · rw [if_pos c131] at h
      refine lv_iconst (v := 0) hx hb dX2_typesFit_210 (by decide) ?_
      cases h
      exact hRt _ _ zz_0 dX2_typesFit_211 _ _ hP hD hS
    · rw [if_neg c131] at h
      refine lv_aload_n hx hb dX2_typesFit_197 rfl (lv_at hl 0 rfl) ?_
      refine lv_iload_n hx hb dX2_typesFit_198 rfl (lv_at hl 3 rfl) ?_
      refine lv_iconst (v := 3) hx hb dX2_typesFit_199 (by decide) ?_
      obtain ⟨r132, e133, h⟩ := Option.bind_eq_some_iff.mp h
      refine q_callV (As := [.int x3, .int (3 : Int32)]) (rest := []) F hA hP hD hS (c_X2_isOfType (E := E) (l := l) q x3 (3 : Int32) e133) k_X2_isOfType in_X2_isOfType se_X2_isOfType lm_X2_57 29 (xe_29 E q) rfl ⟨rfl, rfl⟩ ⟨by decide, by decide⟩ rfl hl.1 rfl (Nat.le_of_ble_eq_true rfl) dX2_typesFit_200 ⟨by decide, by decide⟩ ?_
      intro H locs hP hD hS
      refine lv_if_eq (tgt := 210) hx hb dX2_typesFit_203 (by decide) (fun c134 => ?_) (fun c134 => ?_)
      · rw [if_pos c134] at h
        refine lv_iconst (v := 0) hx hb dX2_typesFit_210 (by decide) ?_
        cases h
        exact hRt _ _ zz_0 dX2_typesFit_211 _ _ hP hD hS
      · rw [if_neg c134] at h
        refine lv_iconst (v := 1) hx hb dX2_typesFit_206 (by decide) ?_
        refine lv_goto (tgt := 211) hx hb dX2_typesFit_207 (by decide) ?_
        cases h
        exact hRt _ _ zz_1 dX2_typesFit_211 _ _ hP hD hS
  rw [if_neg c128] at h
  refine lv_tableOut (tgt := 212) hx hb dX2_typesFit_1 (by have := lv_neT (k := 5) (a := 5) c1 (by decide); have := lv_neT (k := 6) (a := 6) c2 (by decide); have := lv_neT (k := 7) (a := 7) c3 (by decide); have := lv_neT (k := 8) (a := 8) c7 (by decide); have := lv_neT (k := 9) (a := 9) c11 (by decide); have := lv_neT (k := 10) (a := 10) c15 (by decide); have := lv_neT (k := 11) (a := 11) c19 (by decide); have := lv_neT (k := 12) (a := 12) c26 (by decide); have := lv_neT (k := 13) (a := 13) c33 (by decide); have := lv_neT (k := 14) (a := 14) c40 (by decide); have := lv_neT (k := 15) (a := 15) c47 (by decide); have := lv_neT (k := 16) (a := 16) c54 (by decide); have := lv_neT (k := 17) (a := 17) c61 (by decide); have := lv_neT (k := 18) (a := 18) c70 (by decide); have := lv_neT (k := 19) (a := 19) c79 (by decide); have := lv_neT (k := 20) (a := 20) c88 (by decide); have := lv_neT (k := 21) (a := 21) c97 (by decide); have := lv_neT (k := 22) (a := 22) c106 (by decide); have := lv_neT (k := 23) (a := 23) c115 (by decide); have := lv_neT (k := 24) (a := 24) c116 (by decide); have := lv_neT (k := 25) (a := 25) c117 (by decide); have := lv_neT (k := 26) (a := 26) c121 (by decide); have := lv_neT (k := 27) (a := 27) c128 (by decide); omega) (by decide) ?_
  refine lv_aload_n hx hb dX2_typesFit_212 rfl (lv_at hl 0 rfl) ?_
  refine r_get F hP i_X2 29 (xe_29 E q) rfl 2 (by decide) rfl lf_X2_15 rfl dX2_typesFit_213 ?_
  refine lv_iload_n hx hb dX2_typesFit_216 rfl (lv_at hl 2 rfl) ?_
  obtain ⟨y135, e136, h⟩ := Option.bind_eq_some_iff.mp h
  refine r_iald F hP 31 (xe_31 E q) e136 dX2_typesFit_217 ?_
  refine lv_if_eq (tgt := 235) hx hb dX2_typesFit_218 (by decide) (fun c137 => ?_) (fun c137 => ?_)
  · rw [if_pos c137] at h
    refine lv_iconst (v := 1) hx hb dX2_typesFit_235 (by decide) ?_
    refine lv_goto (tgt := 240) hx hb dX2_typesFit_236 (by decide) ?_
    cases h
    exact hRt _ _ zz_1 dX2_typesFit_240 _ _ hP hD hS
  · rw [if_neg c137] at h
    refine lv_aload_n hx hb dX2_typesFit_221 rfl (lv_at hl 0 rfl) ?_
    refine lv_iload_n hx hb dX2_typesFit_222 rfl (lv_at hl 3 rfl) ?_
    refine lv_aload_n hx hb dX2_typesFit_223 rfl (lv_at hl 0 rfl) ?_
    refine r_get F hP i_X2 29 (xe_29 E q) rfl 2 (by decide) rfl lf_X2_15 rfl dX2_typesFit_224 ?_
    refine lv_iload_n hx hb dX2_typesFit_227 rfl (lv_at hl 2 rfl) ?_
    obtain ⟨y138, e139, h⟩ := Option.bind_eq_some_iff.mp h
    refine r_iald F hP 31 (xe_31 E q) e139 dX2_typesFit_228 ?_
    obtain ⟨r140, e141, h⟩ := Option.bind_eq_some_iff.mp h
    refine q_callV (As := [.int x3, .int y138]) (rest := []) F hA hP hD hS (c_X2_isOfType (E := E) (l := l) q x3 y138 e141) k_X2_isOfType in_X2_isOfType se_X2_isOfType lm_X2_57 29 (xe_29 E q) rfl ⟨rfl, rfl⟩ ⟨by decide, by decide⟩ rfl hl.1 rfl (Nat.le_of_ble_eq_true rfl) dX2_typesFit_229 ⟨by decide, by decide⟩ ?_
    intro H locs hP hD hS
    refine lv_if_eq (tgt := 239) hx hb dX2_typesFit_232 (by decide) (fun c142 => ?_) (fun c142 => ?_)
    · rw [if_pos c142] at h
      refine lv_iconst (v := 0) hx hb dX2_typesFit_239 (by decide) ?_
      cases h
      exact hRt _ _ zz_0 dX2_typesFit_240 _ _ hP hD hS
    · rw [if_neg c142] at h
      refine lv_iconst (v := 1) hx hb dX2_typesFit_235 (by decide) ?_
      refine lv_goto (tgt := 240) hx hb dX2_typesFit_236 (by decide) ?_
      cases h
      exact hRt _ _ zz_1 dX2_typesFit_240 _ _ hP hD hS
def f_X2_typesFit (q : QS) (x1 : Int32) (x2 : Int32) (x3 : Int32) : Option (Int32) := f_X2_typesFit_0 q x1 x2 x3
set_option maxRecDepth 100000 in
theorem c_X2_typesFit {E : En} {l : Launch} (q : QS) (x1 : Int32) (x2 : Int32) (x3 : Int32) {o : Int32} (h : f_X2_typesFit q x1 x2 x3 = some o) : Ct (wX E) E l yX2_typesFit (wy yX2_typesFit cX2_typesFit 4 (some .boolean)) rm_X2_typesFit q q [.ref (eA E 29), .int x1, .int x2, .int x3] (some (.int o)) :=
  ct_Z (o := (o, q)) (by decide +kernel) (fun p e s m below meth c A Q F hA hRt H locs hP hD hS => en_W [.ref (eA E 29), .int x1, .int x2, .int x3] (Nat.le_of_ble_eq_true rfl) (fun ls hl => g_X2_typesFit_0 F hA hRt x1 x2 x3 h ls (lv_sub hl [0, 1, 2, 3] rfl) H locs hP hD hS))
def rm_X2_hasAggregate : Room := { frames := 1, cells := 0, slots := 0, locals := 21 }
def f_X2_hasAggregate_0 (q : QS) (x1 : Int32) : Option (Int32) :=
  (f_X2_has q x1).bind fun r1 =>
  if r1 = 0 then
    some (0 : Int32)
  else
    (rd (qI q 36) 200 x1).bind fun y4 =>
    if y4 = 0 then
      some (0 : Int32)
    else
      some (1 : Int32)
set_option maxHeartbeats 4000000 in
set_option maxRecDepth 100000 in
theorem g_X2_hasAggregate_0 {E : En} {p : Program} {l : Launch} {e : Env} {s : State} {m : MethodId} {args : Array Value} {below : List Frame} {meth : Method} {c : Code} {A : Nat → Prop} {Q : State → Prop} (F : Fx E p s m args meth c (yX2_hasAggregate).cls cX2_hasAggregate 2 (some .boolean)) (hA : ∀ z : Nat, s.heap.size ≤ z → A z) {q : QS} {o : Int32} (hRt : RtZ (wX E) E p l e rm_X2_hasAggregate s m args below meth c A Q cX2_hasAggregate (o, q)) (x1 : Int32) (h : f_X2_hasAggregate_0 q x1 = some o) (ls : Array Slot) (hl : lv_has ls 2 [(0, .ref (eA E 29)), (1, .int x1)]) : Wq (wX E) E p l e rm_X2_hasAggregate s m args below meth c A 0 0 Q q (F0 m 0 ls []) := by
  intro H locs hP hD hS
  have hx := F.1
  have hb := F.2.1
  unfold f_X2_hasAggregate_0 at h
  refine lv_aload_n hx hb dX2_hasAggregate_0 rfl (lv_at hl 0 rfl) ?_
  refine lv_iload_n hx hb dX2_hasAggregate_1 rfl (lv_at hl 1 rfl) ?_
  obtain ⟨r1, e2, h⟩ := Option.bind_eq_some_iff.mp h
  refine q_callV (As := [.int x1]) (rest := []) F hA hP hD hS (c_X2_has (E := E) (l := l) q x1 e2) k_X2_has in_X2_has se_X2_has lm_X2_54 29 (xe_29 E q) rfl ⟨rfl, rfl⟩ ⟨by decide, by decide⟩ rfl hl.1 rfl (Nat.le_of_ble_eq_true rfl) dX2_hasAggregate_2 ⟨by decide, by decide⟩ ?_
  intro H locs hP hD hS
  refine lv_if_eq (tgt := 21) hx hb dX2_hasAggregate_5 (by decide) (fun c3 => ?_) (fun c3 => ?_)
  · rw [if_pos c3] at h
    refine lv_iconst (v := 0) hx hb dX2_hasAggregate_21 (by decide) ?_
    cases h
    exact hRt _ _ zz_0 dX2_hasAggregate_22 _ _ hP hD hS
  · rw [if_neg c3] at h
    refine lv_aload_n hx hb dX2_hasAggregate_8 rfl (lv_at hl 0 rfl) ?_
    refine r_get F hP i_X2 29 (xe_29 E q) rfl 7 (by decide) rfl lf_X2_30 rfl dX2_hasAggregate_9 ?_
    refine lv_iload_n hx hb dX2_hasAggregate_12 rfl (lv_at hl 1 rfl) ?_
    obtain ⟨y4, e5, h⟩ := Option.bind_eq_some_iff.mp h
    refine r_zald F hP 36 (xe_36 E q) e5 dX2_hasAggregate_13 ?_
    refine lv_if_eq (tgt := 21) hx hb dX2_hasAggregate_14 (by decide) (fun c6 => ?_) (fun c6 => ?_)
    · rw [if_pos c6] at h
      refine lv_iconst (v := 0) hx hb dX2_hasAggregate_21 (by decide) ?_
      cases h
      exact hRt _ _ zz_0 dX2_hasAggregate_22 _ _ hP hD hS
    · rw [if_neg c6] at h
      refine lv_iconst (v := 1) hx hb dX2_hasAggregate_17 (by decide) ?_
      refine lv_goto (tgt := 22) hx hb dX2_hasAggregate_18 (by decide) ?_
      cases h
      exact hRt _ _ zz_1 dX2_hasAggregate_22 _ _ hP hD hS
def f_X2_hasAggregate (q : QS) (x1 : Int32) : Option (Int32) := f_X2_hasAggregate_0 q x1
set_option maxRecDepth 100000 in
theorem c_X2_hasAggregate {E : En} {l : Launch} (q : QS) (x1 : Int32) {o : Int32} (h : f_X2_hasAggregate q x1 = some o) : Ct (wX E) E l yX2_hasAggregate (wy yX2_hasAggregate cX2_hasAggregate 2 (some .boolean)) rm_X2_hasAggregate q q [.ref (eA E 29), .int x1] (some (.int o)) :=
  ct_Z (o := (o, q)) (by decide +kernel) (fun p e s m below meth c A Q F hA hRt H locs hP hD hS => en_W [.ref (eA E 29), .int x1] (Nat.le_of_ble_eq_true rfl) (fun ls hl => g_X2_hasAggregate_0 F hA hRt x1 h ls (lv_sub hl [0, 1] rfl) H locs hP hD hS))
def rm_X2_typeOfComputed : Room := { frames := 0, cells := 0, slots := 0, locals := 0 }
def f_X2_typeOfComputed_0 (q : QS) (x1 : Int32) (x2 : Int32) : Option (Int32) :=
  if x1 = (8 : Int32) then
    (rd (qI q 31) 200 x2).bind fun y2 =>
    some y2
  else
    if x1 = (9 : Int32) then
      (rd (qI q 31) 200 x2).bind fun y7 =>
      some y7
    else
      if x1 = (16 : Int32) then
        some (2 : Int32)
      else
        if (16 : Int32) ≤ x1 then
          some (3 : Int32)
        else
          some (1 : Int32)
set_option maxHeartbeats 4000000 in
set_option maxRecDepth 100000 in
theorem g_X2_typeOfComputed_0 {E : En} {p : Program} {l : Launch} {e : Env} {s : State} {m : MethodId} {args : Array Value} {below : List Frame} {meth : Method} {c : Code} {A : Nat → Prop} {Q : State → Prop} (F : Fx E p s m args meth c (yX2_typeOfComputed).cls cX2_typeOfComputed 3 (some .int)) (hA : ∀ z : Nat, s.heap.size ≤ z → A z) {q : QS} {o : Int32} (hRt : RtI (wX E) E p l e rm_X2_typeOfComputed s m args below meth c A Q cX2_typeOfComputed (o, q)) (x1 : Int32) (x2 : Int32) (h : f_X2_typeOfComputed_0 q x1 x2 = some o) (ls : Array Slot) (hl : lv_has ls 3 [(0, .ref (eA E 29)), (1, .int x1), (2, .int x2)]) : Wq (wX E) E p l e rm_X2_typeOfComputed s m args below meth c A 0 0 Q q (F0 m 0 ls []) := by
  intro H locs hP hD hS
  have hx := F.1
  have hb := F.2.1
  unfold f_X2_typeOfComputed_0 at h
  refine lv_iload_n hx hb dX2_typeOfComputed_0 rfl (lv_at hl 1 rfl) ?_
  refine lv_bipush (v := 8) hx hb dX2_typeOfComputed_1 (by decide) ?_
  refine lv_icmp_eq (tgt := 12) hx hb dX2_typeOfComputed_3 (by decide) (fun c1 => ?_) (fun c1 => ?_)
  · rw [if_pos c1] at h
    refine lv_aload_n hx hb dX2_typeOfComputed_12 rfl (lv_at hl 0 rfl) ?_
    refine r_get F hP i_X2 29 (xe_29 E q) rfl 2 (by decide) rfl lf_X2_15 rfl dX2_typeOfComputed_13 ?_
    refine lv_iload_n hx hb dX2_typeOfComputed_16 rfl (lv_at hl 2 rfl) ?_
    obtain ⟨y2, e3, h⟩ := Option.bind_eq_some_iff.mp h
    refine r_iald F hP 31 (xe_31 E q) e3 dX2_typeOfComputed_17 ?_
    cases h
    exact hRt _ _ dX2_typeOfComputed_18 _ _ hP hD hS
  · rw [if_neg c1] at h
    refine lv_iload_n hx hb dX2_typeOfComputed_6 rfl (lv_at hl 1 rfl) ?_
    refine lv_bipush (v := 9) hx hb dX2_typeOfComputed_7 (by decide) ?_
    refine lv_icmp_ne (tgt := 19) hx hb dX2_typeOfComputed_9 (by decide) (fun c4 => ?_) (fun c4 => ?_)
    · rw [if_neg c4] at h
      refine lv_iload_n hx hb dX2_typeOfComputed_19 rfl (lv_at hl 1 rfl) ?_
      refine lv_bipush (v := 16) hx hb dX2_typeOfComputed_20 (by decide) ?_
      refine lv_icmp_ne (tgt := 27) hx hb dX2_typeOfComputed_22 (by decide) (fun c5 => ?_) (fun c5 => ?_)
      · rw [if_neg c5] at h
        refine lv_iload_n hx hb dX2_typeOfComputed_27 rfl (lv_at hl 1 rfl) ?_
        refine lv_bipush (v := 16) hx hb dX2_typeOfComputed_28 (by decide) ?_
        refine lv_icmp_ge (tgt := 37) hx hb dX2_typeOfComputed_30 (by decide) (fun c6 => ?_) (fun c6 => ?_)
        · rw [if_pos c6] at h
          refine lv_iconst (v := 3) hx hb dX2_typeOfComputed_37 (by decide) ?_
          cases h
          exact hRt _ _ dX2_typeOfComputed_38 _ _ hP hD hS
        · rw [if_neg c6] at h
          refine lv_iconst (v := 1) hx hb dX2_typeOfComputed_33 (by decide) ?_
          refine lv_goto (tgt := 38) hx hb dX2_typeOfComputed_34 (by decide) ?_
          cases h
          exact hRt _ _ dX2_typeOfComputed_38 _ _ hP hD hS
      · rw [if_pos c5] at h
        refine lv_iconst (v := 2) hx hb dX2_typeOfComputed_25 (by decide) ?_
        cases h
        exact hRt _ _ dX2_typeOfComputed_26 _ _ hP hD hS
    · rw [if_pos c4] at h
      refine lv_aload_n hx hb dX2_typeOfComputed_12 rfl (lv_at hl 0 rfl) ?_
      refine r_get F hP i_X2 29 (xe_29 E q) rfl 2 (by decide) rfl lf_X2_15 rfl dX2_typeOfComputed_13 ?_
      refine lv_iload_n hx hb dX2_typeOfComputed_16 rfl (lv_at hl 2 rfl) ?_
      obtain ⟨y7, e8, h⟩ := Option.bind_eq_some_iff.mp h
      refine r_iald F hP 31 (xe_31 E q) e8 dX2_typeOfComputed_17 ?_
      cases h
      exact hRt _ _ dX2_typeOfComputed_18 _ _ hP hD hS
def f_X2_typeOfComputed (q : QS) (x1 : Int32) (x2 : Int32) : Option (Int32) := f_X2_typeOfComputed_0 q x1 x2
set_option maxRecDepth 100000 in
theorem c_X2_typeOfComputed {E : En} {l : Launch} (q : QS) (x1 : Int32) (x2 : Int32) {o : Int32} (h : f_X2_typeOfComputed q x1 x2 = some o) : Ct (wX E) E l yX2_typeOfComputed (wy yX2_typeOfComputed cX2_typeOfComputed 3 (some .int)) rm_X2_typeOfComputed q q [.ref (eA E 29), .int x1, .int x2] (some (.int o)) :=
  ct_I (o := (o, q)) (by decide +kernel) rfl (fun p e s m below meth c A Q F hA hRt H locs hP hD hS => en_W [.ref (eA E 29), .int x1, .int x2] (Nat.le_of_ble_eq_true rfl) (fun ls hl => g_X2_typeOfComputed_0 F hA hRt x1 x2 h ls (lv_sub hl [0, 1, 2] rfl) H locs hP hD hS))
def rm_X2_take : Room := { frames := 1, cells := 0, slots := 0, locals := 21 }
def f_X2_take_0 (q : QS) (x1 : Int32) : Option (QS) :=
  (f_X2_has q x1).bind fun r1 =>
  if r1 = 0 then
    some q
  else
    (wI q 37 200 x1 (vp_nar .boolean (1 : Int32))).bind fun q4 =>
    some q4
set_option maxHeartbeats 4000000 in
set_option maxRecDepth 100000 in
theorem g_X2_take_0 {E : En} {p : Program} {l : Launch} {e : Env} {s : State} {m : MethodId} {args : Array Value} {below : List Frame} {meth : Method} {c : Code} {A : Nat → Prop} {Q : State → Prop} (F : Fx E p s m args meth c (yX2_take).cls cX2_take 2 none) (hA : ∀ z : Nat, s.heap.size ≤ z → A z) {o : QS} (hRt : RtV (wX E) E p l e rm_X2_take s m args below meth c A Q cX2_take o) (q : QS) (x1 : Int32) (h : f_X2_take_0 q x1 = some o) (ls : Array Slot) (hl : lv_has ls 2 [(0, .ref (eA E 29)), (1, .int x1)]) : Wq (wX E) E p l e rm_X2_take s m args below meth c A 0 0 Q q (F0 m 0 ls []) := by
  intro H locs hP hD hS
  have hx := F.1
  have hb := F.2.1
  unfold f_X2_take_0 at h
  refine lv_aload_n hx hb dX2_take_0 rfl (lv_at hl 0 rfl) ?_
  refine lv_iload_n hx hb dX2_take_1 rfl (lv_at hl 1 rfl) ?_
  obtain ⟨r1, e2, h⟩ := Option.bind_eq_some_iff.mp h
  refine q_callV (As := [.int x1]) (rest := []) F hA hP hD hS (c_X2_has (E := E) (l := l) q x1 e2) k_X2_has in_X2_has se_X2_has lm_X2_54 29 (xe_29 E q) rfl ⟨rfl, rfl⟩ ⟨by decide, by decide⟩ rfl hl.1 rfl (Nat.le_of_ble_eq_true rfl) dX2_take_2 ⟨by decide, by decide⟩ ?_
  intro H locs hP hD hS
  refine lv_if_eq (tgt := 15) hx hb dX2_take_5 (by decide) (fun c3 => ?_) (fun c3 => ?_)
  · rw [if_pos c3] at h
    cases h
    exact hRt _ _ dX2_take_15 _ _ hP hD hS
  · rw [if_neg c3] at h
    refine lv_aload_n hx hb dX2_take_8 rfl (lv_at hl 0 rfl) ?_
    refine r_get F hP i_X2 29 (xe_29 E q) rfl 8 (by decide) rfl lf_X2_34 rfl dX2_take_9 ?_
    refine lv_iload_n hx hb dX2_take_12 rfl (lv_at hl 1 rfl) ?_
    refine lv_iconst (v := 1) hx hb dX2_take_13 (by decide) ?_
    obtain ⟨q4, e5, h⟩ := Option.bind_eq_some_iff.mp h
    refine r_zast F hP hD hS 37 (xe_37 E q) (xs_37 E q) e5 dX2_take_14 ?_
    intro H locs hP hD hS
    cases h
    exact hRt _ _ dX2_take_15 _ _ hP hD hS
def f_X2_take (q : QS) (x1 : Int32) : Option (QS) := f_X2_take_0 q x1
set_option maxRecDepth 100000 in
theorem c_X2_take {E : En} {l : Launch} (q : QS) (x1 : Int32) {o : QS} (h : f_X2_take q x1 = some o) : Ct (wX E) E l yX2_take (wy yX2_take cX2_take 2 none) rm_X2_take q o [.ref (eA E 29), .int x1] none :=
  ct_V (o := o) (by decide +kernel) (fun p e s m below meth c A Q F hA hRt H locs hP hD hS => en_W [.ref (eA E 29), .int x1] (Nat.le_of_ble_eq_true rfl) (fun ls hl => g_X2_take_0 F hA hRt q x1 h ls (lv_sub hl [0, 1] rfl) H locs hP hD hS))
def rm_X2_addComputed : Room := { frames := 2, cells := 0, slots := 0, locals := 45 }
def f_X2_addComputed_70 (q : QS) (x1 : Int32) (x2 : Int32) (x3 : Int32) : Option (Int32 × QS) :=
  (f_X2_typeOfComputed q x1 x2).bind fun r11 =>
  (f_X2_append q x1 r11 x2 x3).bind fun r13 =>
  (f_X2_isAggregateKind x1).bind fun r15 =>
  if r15 = 0 then
    (f_X2_hasAggregate r13.2 x2).bind fun r24 =>
    if r24 = 0 then
      (f_X2_hasAggregate r13.2 x3).bind fun r33 =>
      if r33 = 0 then
        (wI r13.2 36 200 r13.1 (vp_nar .boolean (0 : Int32))).bind fun q36 =>
        (f_X2_take q36 x2).bind fun r38 =>
        (f_X2_take r38 x3).bind fun r40 =>
        some (r13.1, r40)
      else
        (wI r13.2 36 200 r13.1 (vp_nar .boolean (1 : Int32))).bind fun q42 =>
        (f_X2_take q42 x2).bind fun r44 =>
        (f_X2_take r44 x3).bind fun r46 =>
        some (r13.1, r46)
    else
      (wI r13.2 36 200 r13.1 (vp_nar .boolean (1 : Int32))).bind fun q27 =>
      (f_X2_take q27 x2).bind fun r29 =>
      (f_X2_take r29 x3).bind fun r31 =>
      some (r13.1, r31)
  else
    (wI r13.2 36 200 r13.1 (vp_nar .boolean (1 : Int32))).bind fun q18 =>
    (f_X2_take q18 x2).bind fun r20 =>
    (f_X2_take r20 x3).bind fun r22 =>
    some (r13.1, r22)
set_option maxHeartbeats 4000000 in
set_option maxRecDepth 100000 in
theorem g_X2_addComputed_70 {E : En} {p : Program} {l : Launch} {e : Env} {s : State} {m : MethodId} {args : Array Value} {below : List Frame} {meth : Method} {c : Code} {A : Nat → Prop} {Q : State → Prop} (F : Fx E p s m args meth c (yX2_addComputed).cls cX2_addComputed 6 (some .int)) (hA : ∀ z : Nat, s.heap.size ≤ z → A z) {o : Int32 × QS} (hRt : RtI (wX E) E p l e rm_X2_addComputed s m args below meth c A Q cX2_addComputed o) (q : QS) (x1 : Int32) (x2 : Int32) (x3 : Int32) (h : f_X2_addComputed_70 q x1 x2 x3 = some o) (ls : Array Slot) (hl : lv_has ls 6 [(0, .ref (eA E 29)), (1, .int x1), (2, .int x2), (3, .int x3)]) : Wq (wX E) E p l e rm_X2_addComputed s m args below meth c A 0 0 Q q (F0 m 70 ls []) := by
  intro H locs hP hD hS
  have hx := F.1
  have hb := F.2.1
  unfold f_X2_addComputed_70 at h
  refine lv_aload_n hx hb dX2_addComputed_70 rfl (lv_at hl 0 rfl) ?_
  refine lv_iload_n hx hb dX2_addComputed_71 rfl (lv_at hl 1 rfl) ?_
  refine lv_aload_n hx hb dX2_addComputed_72 rfl (lv_at hl 0 rfl) ?_
  refine lv_iload_n hx hb dX2_addComputed_73 rfl (lv_at hl 1 rfl) ?_
  refine lv_iload_n hx hb dX2_addComputed_74 rfl (lv_at hl 2 rfl) ?_
  obtain ⟨r11, e12, h⟩ := Option.bind_eq_some_iff.mp h
  refine q_callV (As := [.int x1, .int x2]) (rest := [.int x1, .ref (eA E 29)]) F hA hP hD hS (c_X2_typeOfComputed (E := E) (l := l) q x1 x2 e12) k_X2_typeOfComputed in_X2_typeOfComputed se_X2_typeOfComputed lm_X2_84 29 (xe_29 E q) rfl ⟨rfl, rfl⟩ ⟨by decide, by decide⟩ rfl hl.1 rfl (Nat.le_of_ble_eq_true rfl) dX2_addComputed_75 ⟨by decide, by decide⟩ ?_
  intro H locs hP hD hS
  refine lv_iload_n hx hb dX2_addComputed_78 rfl (lv_at hl 2 rfl) ?_
  refine lv_iload_n hx hb dX2_addComputed_79 rfl (lv_at hl 3 rfl) ?_
  obtain ⟨r13, e14, h⟩ := Option.bind_eq_some_iff.mp h
  refine q_callV (As := [.int x1, .int r11, .int x2, .int x3]) (rest := []) F hA hP hD hS (c_X2_append (E := E) (l := l) q x1 r11 x2 x3 e14) k_X2_append in_X2_append se_X2_append lm_X2_61 29 (xe_29 E q) rfl ⟨rfl, rfl⟩ ⟨by decide, by decide⟩ rfl hl.1 rfl (Nat.le_of_ble_eq_true rfl) dX2_addComputed_80 ⟨by decide, by decide⟩ ?_
  intro H locs hP hD hS
  refine lv_istore (lv' := [(5, .int r13.1), (0, .ref (eA E 29)), (1, .int x1), (2, .int x2), (3, .int x3)]) hx hb dX2_addComputed_83 hl (by decide) rfl (fun ls hl => ?_)
  refine lv_aload_n hx hb dX2_addComputed_85 rfl (lv_at hl 1 rfl) ?_
  refine r_get F hP i_X2 29 (xe_29 E r13.2) rfl 7 (by decide) rfl lf_X2_30 rfl dX2_addComputed_86 ?_
  refine lv_iload hx hb dX2_addComputed_89 (lv_at hl 0 rfl) ?_
  refine lv_iload_n hx hb dX2_addComputed_91 rfl (lv_at hl 2 rfl) ?_
  obtain ⟨r15, e16, h⟩ := Option.bind_eq_some_iff.mp h
  refine q_callS (As := [.int x1]) (rest := [.int r13.1, .ref (eA E 36)]) F hA hP hD hS (c_X2_isAggregateKind (E := E) (l := l) r13.2 x1 e16) k_X2_isAggregateKind st_X2_isAggregateKind lm_X2_50 ⟨rfl, rfl⟩ ⟨by decide, by decide⟩ rfl hl.1 rfl (Nat.le_of_ble_eq_true rfl) dX2_addComputed_92 ⟨by decide, by decide⟩ ?_
  intro H locs hP hD hS
  refine lv_if_ne (tgt := 114) hx hb dX2_addComputed_95 (by decide) (fun c17 => ?_) (fun c17 => ?_)
  · rw [if_neg c17] at h
    refine lv_iconst (v := 1) hx hb dX2_addComputed_114 (by decide) ?_
    refine lv_goto (tgt := 119) hx hb dX2_addComputed_115 (by decide) ?_
    obtain ⟨q18, e19, h⟩ := Option.bind_eq_some_iff.mp h
    refine r_zast F hP hD hS 36 (xe_36 E r13.2) (xs_36 E r13.2) e19 dX2_addComputed_119 ?_
    intro H locs hP hD hS
    refine lv_aload_n hx hb dX2_addComputed_120 rfl (lv_at hl 1 rfl) ?_
    refine lv_iload_n hx hb dX2_addComputed_121 rfl (lv_at hl 3 rfl) ?_
    obtain ⟨r20, e21, h⟩ := Option.bind_eq_some_iff.mp h
    refine q_callV (As := [.int x2]) (rest := []) F hA hP hD hS (c_X2_take (E := E) (l := l) q18 x2 e21) k_X2_take in_X2_take se_X2_take lm_X2_88 29 (xe_29 E q18) rfl ⟨rfl, rfl⟩ ⟨by decide, by decide⟩ rfl hl.1 rfl (Nat.le_of_ble_eq_true rfl) dX2_addComputed_122 ⟨by decide, by decide⟩ ?_
    intro H locs hP hD hS
    refine lv_aload_n hx hb dX2_addComputed_125 rfl (lv_at hl 1 rfl) ?_
    refine lv_iload_n hx hb dX2_addComputed_126 rfl (lv_at hl 4 rfl) ?_
    obtain ⟨r22, e23, h⟩ := Option.bind_eq_some_iff.mp h
    refine q_callV (As := [.int x3]) (rest := []) F hA hP hD hS (c_X2_take (E := E) (l := l) r20 x3 e23) k_X2_take in_X2_take se_X2_take lm_X2_88 29 (xe_29 E r20) rfl ⟨rfl, rfl⟩ ⟨by decide, by decide⟩ rfl hl.1 rfl (Nat.le_of_ble_eq_true rfl) dX2_addComputed_127 ⟨by decide, by decide⟩ ?_
    intro H locs hP hD hS
    refine lv_iload hx hb dX2_addComputed_130 (lv_at hl 0 rfl) ?_
    cases h
    exact hRt _ _ dX2_addComputed_132 _ _ hP hD hS
  · rw [if_pos c17] at h
    refine lv_aload_n hx hb dX2_addComputed_98 rfl (lv_at hl 1 rfl) ?_
    refine lv_iload_n hx hb dX2_addComputed_99 rfl (lv_at hl 3 rfl) ?_
    obtain ⟨r24, e25, h⟩ := Option.bind_eq_some_iff.mp h
    refine q_callV (As := [.int x2]) (rest := [.int r13.1, .ref (eA E 36)]) F hA hP hD hS (c_X2_hasAggregate (E := E) (l := l) r13.2 x2 e25) k_X2_hasAggregate in_X2_hasAggregate se_X2_hasAggregate lm_X2_81 29 (xe_29 E r13.2) rfl ⟨rfl, rfl⟩ ⟨by decide, by decide⟩ rfl hl.1 rfl (Nat.le_of_ble_eq_true rfl) dX2_addComputed_100 ⟨by decide, by decide⟩ ?_
    intro H locs hP hD hS
    refine lv_if_ne (tgt := 114) hx hb dX2_addComputed_103 (by decide) (fun c26 => ?_) (fun c26 => ?_)
    · rw [if_neg c26] at h
      refine lv_iconst (v := 1) hx hb dX2_addComputed_114 (by decide) ?_
      refine lv_goto (tgt := 119) hx hb dX2_addComputed_115 (by decide) ?_
      obtain ⟨q27, e28, h⟩ := Option.bind_eq_some_iff.mp h
      refine r_zast F hP hD hS 36 (xe_36 E r13.2) (xs_36 E r13.2) e28 dX2_addComputed_119 ?_
      intro H locs hP hD hS
      refine lv_aload_n hx hb dX2_addComputed_120 rfl (lv_at hl 1 rfl) ?_
      refine lv_iload_n hx hb dX2_addComputed_121 rfl (lv_at hl 3 rfl) ?_
      obtain ⟨r29, e30, h⟩ := Option.bind_eq_some_iff.mp h
      refine q_callV (As := [.int x2]) (rest := []) F hA hP hD hS (c_X2_take (E := E) (l := l) q27 x2 e30) k_X2_take in_X2_take se_X2_take lm_X2_88 29 (xe_29 E q27) rfl ⟨rfl, rfl⟩ ⟨by decide, by decide⟩ rfl hl.1 rfl (Nat.le_of_ble_eq_true rfl) dX2_addComputed_122 ⟨by decide, by decide⟩ ?_
      intro H locs hP hD hS
      refine lv_aload_n hx hb dX2_addComputed_125 rfl (lv_at hl 1 rfl) ?_
      refine lv_iload_n hx hb dX2_addComputed_126 rfl (lv_at hl 4 rfl) ?_
      obtain ⟨r31, e32, h⟩ := Option.bind_eq_some_iff.mp h
      refine q_callV (As := [.int x3]) (rest := []) F hA hP hD hS (c_X2_take (E := E) (l := l) r29 x3 e32) k_X2_take in_X2_take se_X2_take lm_X2_88 29 (xe_29 E r29) rfl ⟨rfl, rfl⟩ ⟨by decide, by decide⟩ rfl hl.1 rfl (Nat.le_of_ble_eq_true rfl) dX2_addComputed_127 ⟨by decide, by decide⟩ ?_
      intro H locs hP hD hS
      refine lv_iload hx hb dX2_addComputed_130 (lv_at hl 0 rfl) ?_
      cases h
      exact hRt _ _ dX2_addComputed_132 _ _ hP hD hS
    · rw [if_pos c26] at h
      refine lv_aload_n hx hb dX2_addComputed_106 rfl (lv_at hl 1 rfl) ?_
      refine lv_iload_n hx hb dX2_addComputed_107 rfl (lv_at hl 4 rfl) ?_
      obtain ⟨r33, e34, h⟩ := Option.bind_eq_some_iff.mp h
      refine q_callV (As := [.int x3]) (rest := [.int r13.1, .ref (eA E 36)]) F hA hP hD hS (c_X2_hasAggregate (E := E) (l := l) r13.2 x3 e34) k_X2_hasAggregate in_X2_hasAggregate se_X2_hasAggregate lm_X2_81 29 (xe_29 E r13.2) rfl ⟨rfl, rfl⟩ ⟨by decide, by decide⟩ rfl hl.1 rfl (Nat.le_of_ble_eq_true rfl) dX2_addComputed_108 ⟨by decide, by decide⟩ ?_
      intro H locs hP hD hS
      refine lv_if_eq (tgt := 118) hx hb dX2_addComputed_111 (by decide) (fun c35 => ?_) (fun c35 => ?_)
      · rw [if_pos c35] at h
        refine lv_iconst (v := 0) hx hb dX2_addComputed_118 (by decide) ?_
        obtain ⟨q36, e37, h⟩ := Option.bind_eq_some_iff.mp h
        refine r_zast F hP hD hS 36 (xe_36 E r13.2) (xs_36 E r13.2) e37 dX2_addComputed_119 ?_
        intro H locs hP hD hS
        refine lv_aload_n hx hb dX2_addComputed_120 rfl (lv_at hl 1 rfl) ?_
        refine lv_iload_n hx hb dX2_addComputed_121 rfl (lv_at hl 3 rfl) ?_
        obtain ⟨r38, e39, h⟩ := Option.bind_eq_some_iff.mp h
        refine q_callV (As := [.int x2]) (rest := []) F hA hP hD hS (c_X2_take (E := E) (l := l) q36 x2 e39) k_X2_take in_X2_take se_X2_take lm_X2_88 29 (xe_29 E q36) rfl ⟨rfl, rfl⟩ ⟨by decide, by decide⟩ rfl hl.1 rfl (Nat.le_of_ble_eq_true rfl) dX2_addComputed_122 ⟨by decide, by decide⟩ ?_
        intro H locs hP hD hS
        refine lv_aload_n hx hb dX2_addComputed_125 rfl (lv_at hl 1 rfl) ?_
        refine lv_iload_n hx hb dX2_addComputed_126 rfl (lv_at hl 4 rfl) ?_
        obtain ⟨r40, e41, h⟩ := Option.bind_eq_some_iff.mp h
        refine q_callV (As := [.int x3]) (rest := []) F hA hP hD hS (c_X2_take (E := E) (l := l) r38 x3 e41) k_X2_take in_X2_take se_X2_take lm_X2_88 29 (xe_29 E r38) rfl ⟨rfl, rfl⟩ ⟨by decide, by decide⟩ rfl hl.1 rfl (Nat.le_of_ble_eq_true rfl) dX2_addComputed_127 ⟨by decide, by decide⟩ ?_
        intro H locs hP hD hS
        refine lv_iload hx hb dX2_addComputed_130 (lv_at hl 0 rfl) ?_
        cases h
        exact hRt _ _ dX2_addComputed_132 _ _ hP hD hS
      · rw [if_neg c35] at h
        refine lv_iconst (v := 1) hx hb dX2_addComputed_114 (by decide) ?_
        refine lv_goto (tgt := 119) hx hb dX2_addComputed_115 (by decide) ?_
        obtain ⟨q42, e43, h⟩ := Option.bind_eq_some_iff.mp h
        refine r_zast F hP hD hS 36 (xe_36 E r13.2) (xs_36 E r13.2) e43 dX2_addComputed_119 ?_
        intro H locs hP hD hS
        refine lv_aload_n hx hb dX2_addComputed_120 rfl (lv_at hl 1 rfl) ?_
        refine lv_iload_n hx hb dX2_addComputed_121 rfl (lv_at hl 3 rfl) ?_
        obtain ⟨r44, e45, h⟩ := Option.bind_eq_some_iff.mp h
        refine q_callV (As := [.int x2]) (rest := []) F hA hP hD hS (c_X2_take (E := E) (l := l) q42 x2 e45) k_X2_take in_X2_take se_X2_take lm_X2_88 29 (xe_29 E q42) rfl ⟨rfl, rfl⟩ ⟨by decide, by decide⟩ rfl hl.1 rfl (Nat.le_of_ble_eq_true rfl) dX2_addComputed_122 ⟨by decide, by decide⟩ ?_
        intro H locs hP hD hS
        refine lv_aload_n hx hb dX2_addComputed_125 rfl (lv_at hl 1 rfl) ?_
        refine lv_iload_n hx hb dX2_addComputed_126 rfl (lv_at hl 4 rfl) ?_
        obtain ⟨r46, e47, h⟩ := Option.bind_eq_some_iff.mp h
        refine q_callV (As := [.int x3]) (rest := []) F hA hP hD hS (c_X2_take (E := E) (l := l) r44 x3 e47) k_X2_take in_X2_take se_X2_take lm_X2_88 29 (xe_29 E r44) rfl ⟨rfl, rfl⟩ ⟨by decide, by decide⟩ rfl hl.1 rfl (Nat.le_of_ble_eq_true rfl) dX2_addComputed_127 ⟨by decide, by decide⟩ ?_
        intro H locs hP hD hS
        refine lv_iload hx hb dX2_addComputed_130 (lv_at hl 0 rfl) ?_
        cases h
        exact hRt _ _ dX2_addComputed_132 _ _ hP hD hS
def f_X2_addComputed_43 (q : QS) (x1 : Int32) (x2 : Int32) (x3 : Int32) : Option (Int32 × QS) :=
  (f_X2_typesFit q x1 x2 x3).bind fun r5 =>
  if r5 = 0 then
    some ((-1 : Int32), q)
  else
    (f_X2_isAggregateKind x1).bind fun r8 =>
    if r8 = 0 then
      f_X2_addComputed_70 q x1 x2 x3
    else
      (f_X2_hasAggregate q x2).bind fun r48 =>
      if r48 = 0 then
        f_X2_addComputed_70 q x1 x2 x3
      else
        some ((-1 : Int32), q)
set_option maxHeartbeats 4000000 in
set_option maxRecDepth 100000 in
theorem g_X2_addComputed_43 {E : En} {p : Program} {l : Launch} {e : Env} {s : State} {m : MethodId} {args : Array Value} {below : List Frame} {meth : Method} {c : Code} {A : Nat → Prop} {Q : State → Prop} (F : Fx E p s m args meth c (yX2_addComputed).cls cX2_addComputed 6 (some .int)) (hA : ∀ z : Nat, s.heap.size ≤ z → A z) {o : Int32 × QS} (hRt : RtI (wX E) E p l e rm_X2_addComputed s m args below meth c A Q cX2_addComputed o) (q : QS) (x1 : Int32) (x2 : Int32) (x3 : Int32) (h : f_X2_addComputed_43 q x1 x2 x3 = some o) (ls : Array Slot) (hl : lv_has ls 6 [(0, .ref (eA E 29)), (1, .int x1), (2, .int x2), (3, .int x3)]) : Wq (wX E) E p l e rm_X2_addComputed s m args below meth c A 0 0 Q q (F0 m 43 ls []) := by
  intro H locs hP hD hS
  have hx := F.1
  have hb := F.2.1
  unfold f_X2_addComputed_43 at h
  refine lv_aload_n hx hb dX2_addComputed_43 rfl (lv_at hl 0 rfl) ?_
  refine lv_iload_n hx hb dX2_addComputed_44 rfl (lv_at hl 1 rfl) ?_
  refine lv_iload_n hx hb dX2_addComputed_45 rfl (lv_at hl 2 rfl) ?_
  refine lv_iload_n hx hb dX2_addComputed_46 rfl (lv_at hl 3 rfl) ?_
  obtain ⟨r5, e6, h⟩ := Option.bind_eq_some_iff.mp h
  refine q_callV (As := [.int x1, .int x2, .int x3]) (rest := []) F hA hP hD hS (c_X2_typesFit (E := E) (l := l) q x1 x2 x3 e6) k_X2_typesFit in_X2_typesFit se_X2_typesFit lm_X2_77 29 (xe_29 E q) rfl ⟨rfl, rfl⟩ ⟨by decide, by decide⟩ rfl hl.1 rfl (Nat.le_of_ble_eq_true rfl) dX2_addComputed_47 ⟨by decide, by decide⟩ ?_
  intro H locs hP hD hS
  refine lv_if_eq (tgt := 68) hx hb dX2_addComputed_50 (by decide) (fun c7 => ?_) (fun c7 => ?_)
  · rw [if_pos c7] at h
    refine lv_iconst (v := (-1)) hx hb dX2_addComputed_68 (by decide) ?_
    cases h
    exact hRt _ _ dX2_addComputed_69 _ _ hP hD hS
  · rw [if_neg c7] at h
    refine lv_iload_n hx hb dX2_addComputed_53 rfl (lv_at hl 1 rfl) ?_
    obtain ⟨r8, e9, h⟩ := Option.bind_eq_some_iff.mp h
    refine q_callS (As := [.int x1]) (rest := []) F hA hP hD hS (c_X2_isAggregateKind (E := E) (l := l) q x1 e9) k_X2_isAggregateKind st_X2_isAggregateKind lm_X2_50 ⟨rfl, rfl⟩ ⟨by decide, by decide⟩ rfl hl.1 rfl (Nat.le_of_ble_eq_true rfl) dX2_addComputed_54 ⟨by decide, by decide⟩ ?_
    intro H locs hP hD hS
    refine lv_if_eq (tgt := 70) hx hb dX2_addComputed_57 (by decide) (fun c10 => ?_) (fun c10 => ?_)
    · rw [if_pos c10] at h
      exact g_X2_addComputed_70 F hA hRt q x1 x2 x3 h _ (lv_sub hl [0, 1, 2, 3] rfl) _ _ hP hD hS
    · rw [if_neg c10] at h
      refine lv_aload_n hx hb dX2_addComputed_60 rfl (lv_at hl 0 rfl) ?_
      refine lv_iload_n hx hb dX2_addComputed_61 rfl (lv_at hl 2 rfl) ?_
      obtain ⟨r48, e49, h⟩ := Option.bind_eq_some_iff.mp h
      refine q_callV (As := [.int x2]) (rest := []) F hA hP hD hS (c_X2_hasAggregate (E := E) (l := l) q x2 e49) k_X2_hasAggregate in_X2_hasAggregate se_X2_hasAggregate lm_X2_81 29 (xe_29 E q) rfl ⟨rfl, rfl⟩ ⟨by decide, by decide⟩ rfl hl.1 rfl (Nat.le_of_ble_eq_true rfl) dX2_addComputed_62 ⟨by decide, by decide⟩ ?_
      intro H locs hP hD hS
      refine lv_if_eq (tgt := 70) hx hb dX2_addComputed_65 (by decide) (fun c50 => ?_) (fun c50 => ?_)
      · rw [if_pos c50] at h
        exact g_X2_addComputed_70 F hA hRt q x1 x2 x3 h _ (lv_sub hl [0, 1, 2, 3] rfl) _ _ hP hD hS
      · rw [if_neg c50] at h
        refine lv_iconst (v := (-1)) hx hb dX2_addComputed_68 (by decide) ?_
        cases h
        exact hRt _ _ dX2_addComputed_69 _ _ hP hD hS
def f_X2_addComputed_22 (q : QS) (x1 : Int32) (x2 : Int32) (x3 : Int32) (x4 : Int32) : Option (Int32 × QS) :=
  if x4 = (2 : Int32) then
    (f_X2_isFree q x3).bind fun r51 =>
    if r51 = 0 then
      some ((-1 : Int32), q)
    else
      if x2 = x3 then
        some ((-1 : Int32), q)
      else
        f_X2_addComputed_43 q x1 x2 x3
  else
    f_X2_addComputed_43 q x1 x2 x3
set_option maxHeartbeats 4000000 in
set_option maxRecDepth 100000 in
theorem g_X2_addComputed_22 {E : En} {p : Program} {l : Launch} {e : Env} {s : State} {m : MethodId} {args : Array Value} {below : List Frame} {meth : Method} {c : Code} {A : Nat → Prop} {Q : State → Prop} (F : Fx E p s m args meth c (yX2_addComputed).cls cX2_addComputed 6 (some .int)) (hA : ∀ z : Nat, s.heap.size ≤ z → A z) {o : Int32 × QS} (hRt : RtI (wX E) E p l e rm_X2_addComputed s m args below meth c A Q cX2_addComputed o) (q : QS) (x1 : Int32) (x2 : Int32) (x3 : Int32) (x4 : Int32) (h : f_X2_addComputed_22 q x1 x2 x3 x4 = some o) (ls : Array Slot) (hl : lv_has ls 6 [(0, .ref (eA E 29)), (1, .int x1), (2, .int x2), (3, .int x3), (4, .int x4)]) : Wq (wX E) E p l e rm_X2_addComputed s m args below meth c A 0 0 Q q (F0 m 22 ls []) := by
  intro H locs hP hD hS
  have hx := F.1
  have hb := F.2.1
  unfold f_X2_addComputed_22 at h
  refine lv_iload hx hb dX2_addComputed_22 (lv_at hl 4 rfl) ?_
  refine lv_iconst (v := 2) hx hb dX2_addComputed_24 (by decide) ?_
  refine lv_icmp_ne (tgt := 43) hx hb dX2_addComputed_25 (by decide) (fun c4 => ?_) (fun c4 => ?_)
  · rw [if_neg c4] at h
    exact g_X2_addComputed_43 F hA hRt q x1 x2 x3 h _ (lv_sub hl [0, 1, 2, 3] rfl) _ _ hP hD hS
  · rw [if_pos c4] at h
    refine lv_aload_n hx hb dX2_addComputed_28 rfl (lv_at hl 0 rfl) ?_
    refine lv_iload_n hx hb dX2_addComputed_29 rfl (lv_at hl 3 rfl) ?_
    obtain ⟨r51, e52, h⟩ := Option.bind_eq_some_iff.mp h
    refine q_callV (As := [.int x3]) (rest := []) F hA hP hD hS (c_X2_isFree (E := E) (l := l) q x3 e52) k_X2_isFree in_X2_isFree se_X2_isFree lm_X2_74 29 (xe_29 E q) rfl ⟨rfl, rfl⟩ ⟨by decide, by decide⟩ rfl hl.1 rfl (Nat.le_of_ble_eq_true rfl) dX2_addComputed_30 ⟨by decide, by decide⟩ ?_
    intro H locs hP hD hS
    refine lv_if_eq (tgt := 41) hx hb dX2_addComputed_33 (by decide) (fun c53 => ?_) (fun c53 => ?_)
    · rw [if_pos c53] at h
      refine lv_iconst (v := (-1)) hx hb dX2_addComputed_41 (by decide) ?_
      cases h
      exact hRt _ _ dX2_addComputed_42 _ _ hP hD hS
    · rw [if_neg c53] at h
      refine lv_iload_n hx hb dX2_addComputed_36 rfl (lv_at hl 2 rfl) ?_
      refine lv_iload_n hx hb dX2_addComputed_37 rfl (lv_at hl 3 rfl) ?_
      refine lv_icmp_ne (tgt := 43) hx hb dX2_addComputed_38 (by decide) (fun c54 => ?_) (fun c54 => ?_)
      · rw [if_neg c54] at h
        exact g_X2_addComputed_43 F hA hRt q x1 x2 x3 h _ (lv_sub hl [0, 1, 2, 3] rfl) _ _ hP hD hS
      · rw [if_pos c54] at h
        refine lv_iconst (v := (-1)) hx hb dX2_addComputed_41 (by decide) ?_
        cases h
        exact hRt _ _ dX2_addComputed_42 _ _ hP hD hS
def f_X2_addComputed_0 (q : QS) (x1 : Int32) (x2 : Int32) (x3 : Int32) : Option (Int32 × QS) :=
  (f_X2_partsOf x1).bind fun r1 =>
  if r1 < (1 : Int32) then
    f_X2_addComputed_22 q x1 x2 x3 r1
  else
    (f_X2_isFree q x2).bind fun r55 =>
    if r55 = 0 then
      some ((-1 : Int32), q)
    else
      f_X2_addComputed_22 q x1 x2 x3 r1
set_option maxHeartbeats 4000000 in
set_option maxRecDepth 100000 in
theorem g_X2_addComputed_0 {E : En} {p : Program} {l : Launch} {e : Env} {s : State} {m : MethodId} {args : Array Value} {below : List Frame} {meth : Method} {c : Code} {A : Nat → Prop} {Q : State → Prop} (F : Fx E p s m args meth c (yX2_addComputed).cls cX2_addComputed 6 (some .int)) (hA : ∀ z : Nat, s.heap.size ≤ z → A z) {o : Int32 × QS} (hRt : RtI (wX E) E p l e rm_X2_addComputed s m args below meth c A Q cX2_addComputed o) (q : QS) (x1 : Int32) (x2 : Int32) (x3 : Int32) (h : f_X2_addComputed_0 q x1 x2 x3 = some o) (ls : Array Slot) (hl : lv_has ls 6 [(0, .ref (eA E 29)), (1, .int x1), (2, .int x2), (3, .int x3)]) : Wq (wX E) E p l e rm_X2_addComputed s m args below meth c A 0 0 Q q (F0 m 0 ls []) := by
  intro H locs hP hD hS
  have hx := F.1
  have hb := F.2.1
  unfold f_X2_addComputed_0 at h
  refine lv_iload_n hx hb dX2_addComputed_0 rfl (lv_at hl 1 rfl) ?_
  obtain ⟨r1, e2, h⟩ := Option.bind_eq_some_iff.mp h
  refine q_callS (As := [.int x1]) (rest := []) F hA hP hD hS (c_X2_partsOf (E := E) (l := l) q x1 e2) k_X2_partsOf st_X2_partsOf lm_X2_70 ⟨rfl, rfl⟩ ⟨by decide, by decide⟩ rfl hl.1 rfl (Nat.le_of_ble_eq_true rfl) dX2_addComputed_1 ⟨by decide, by decide⟩ ?_
  intro H locs hP hD hS
  refine lv_istore (lv' := [(4, .int r1), (0, .ref (eA E 29)), (1, .int x1), (2, .int x2), (3, .int x3)]) hx hb dX2_addComputed_4 hl (by decide) rfl (fun ls hl => ?_)
  refine lv_iload hx hb dX2_addComputed_6 (lv_at hl 0 rfl) ?_
  refine lv_iconst (v := 1) hx hb dX2_addComputed_8 (by decide) ?_
  refine lv_icmp_lt (tgt := 22) hx hb dX2_addComputed_9 (by decide) (fun c3 => ?_) (fun c3 => ?_)
  · rw [if_pos c3] at h
    exact g_X2_addComputed_22 F hA hRt q x1 x2 x3 r1 h _ (lv_sub hl [1, 2, 3, 4, 0] rfl) _ _ hP hD hS
  · rw [if_neg c3] at h
    refine lv_aload_n hx hb dX2_addComputed_12 rfl (lv_at hl 1 rfl) ?_
    refine lv_iload_n hx hb dX2_addComputed_13 rfl (lv_at hl 3 rfl) ?_
    obtain ⟨r55, e56, h⟩ := Option.bind_eq_some_iff.mp h
    refine q_callV (As := [.int x2]) (rest := []) F hA hP hD hS (c_X2_isFree (E := E) (l := l) q x2 e56) k_X2_isFree in_X2_isFree se_X2_isFree lm_X2_74 29 (xe_29 E q) rfl ⟨rfl, rfl⟩ ⟨by decide, by decide⟩ rfl hl.1 rfl (Nat.le_of_ble_eq_true rfl) dX2_addComputed_14 ⟨by decide, by decide⟩ ?_
    intro H locs hP hD hS
    refine lv_if_ne (tgt := 22) hx hb dX2_addComputed_17 (by decide) (fun c57 => ?_) (fun c57 => ?_)
    · rw [if_neg c57] at h
      exact g_X2_addComputed_22 F hA hRt q x1 x2 x3 r1 h _ (lv_sub hl [1, 2, 3, 4, 0] rfl) _ _ hP hD hS
    · rw [if_pos c57] at h
      refine lv_iconst (v := (-1)) hx hb dX2_addComputed_20 (by decide) ?_
      cases h
      exact hRt _ _ dX2_addComputed_21 _ _ hP hD hS
def f_X2_addComputed (q : QS) (x1 : Int32) (x2 : Int32) (x3 : Int32) : Option (Int32 × QS) := f_X2_addComputed_0 q x1 x2 x3
set_option maxRecDepth 100000 in
theorem c_X2_addComputed {E : En} {l : Launch} (q : QS) (x1 : Int32) (x2 : Int32) (x3 : Int32) {o : Int32 × QS} (h : f_X2_addComputed q x1 x2 x3 = some o) : Ct (wX E) E l yX2_addComputed (wy yX2_addComputed cX2_addComputed 6 (some .int)) rm_X2_addComputed q o.2 [.ref (eA E 29), .int x1, .int x2, .int x3] (some (.int o.1)) :=
  ct_I (o := o) (by decide +kernel) rfl (fun p e s m below meth c A Q F hA hRt H locs hP hD hS => en_W [.ref (eA E 29), .int x1, .int x2, .int x3] (Nat.le_of_ble_eq_true rfl) (fun ls hl => g_X2_addComputed_0 F hA hRt q x1 x2 x3 h ls (lv_sub hl [0, 1, 2, 3] rfl) H locs hP hD hS))
def rm_X3_begin : Room := { frames := 0, cells := 0, slots := 0, locals := 0 }
def f_X3_begin_2_b (v : Nat) (B2 : QS → Int32 → Option (QS)) (q : QS) (x1 : Int32) : Option (QS) :=
  if (200 : Int32) ≤ x1 then
    some q
  else
    (wI q (16 + 3 * v) 200 x1 (vp_nar .boolean (0 : Int32))).bind fun q2 =>
    B2 q2 (x1 + (1 : Int32))
set_option maxHeartbeats 4000000 in
set_option maxRecDepth 100000 in
theorem g_X3_begin_2_b {E : En} {p : Program} {l : Launch} {e : Env} {s : State} {m : MethodId} {args : Array Value} {below : List Frame} {meth : Method} {c : Code} {A : Nat → Prop} {Q : State → Prop} (F : Fx E p s m args meth c (yX3_begin).cls cX3_begin 2 none) (hA : ∀ z : Nat, s.heap.size ≤ z → A z) {o : QS} (hRt : RtV (wX E) E p l e rm_X3_begin s m args below meth c A Q cX3_begin o) {v : Nat} (hv : v < 3) {B2 : QS → Int32 → Option (QS)} (hB2 : ∀ (q : QS) (x1 : Int32), B2 q x1 = some o → ∀ ls : Array Slot, lv_has ls 2 [(0, .ref (eA E (15 + 3 * v))), (1, .int x1)] → Wq (wX E) E p l e rm_X3_begin s m args below meth c A 0 0 Q q (F0 m 2 ls [])) (q : QS) (x1 : Int32) (h : f_X3_begin_2_b v B2 q x1 = some o) (ls : Array Slot) (hl : lv_has ls 2 [(0, .ref (eA E (15 + 3 * v))), (1, .int x1)]) : Wq (wX E) E p l e rm_X3_begin s m args below meth c A 0 0 Q q (F0 m 2 ls []) := by
  intro H locs hP hD hS
  have hx := F.1
  have hb := F.2.1
  unfold f_X3_begin_2_b at h
  refine lv_iload_n hx hb dX3_begin_2 rfl (lv_at hl 1 rfl) ?_
  refine lv_sipush (v := 200) hx hb dX3_begin_3 (by decide) ?_
  refine lv_icmp_ge (tgt := 22) hx hb dX3_begin_6 (by decide) (fun c1 => ?_) (fun c1 => ?_)
  · rw [if_pos c1] at h
    cases h
    exact hRt _ _ dX3_begin_22 _ _ hP hD hS
  · rw [if_neg c1] at h
    refine lv_aload_n hx hb dX3_begin_9 rfl (lv_at hl 0 rfl) ?_
    refine r_get F hP i_X3 (15 + 3 * v) (xpO hv E q) rfl 0 (by decide) rfl lf_X3_9 rfl dX3_begin_10 ?_
    refine lv_iload_n hx hb dX3_begin_13 rfl (lv_at hl 1 rfl) ?_
    refine lv_iconst (v := 0) hx hb dX3_begin_14 (by decide) ?_
    obtain ⟨q2, e3, h⟩ := Option.bind_eq_some_iff.mp h
    refine r_zast F hP hD hS (16 + 3 * v) (xpN hv E q) (xpNs hv E q) e3 dX3_begin_15 ?_
    intro H locs hP hD hS
    refine lv_iinc (v := (x1 + (1 : Int32))) (lv' := [(1, .int (x1 + (1 : Int32))), (0, .ref (eA E (15 + 3 * v)))]) hx hb dX3_begin_16 hl (k := 1) rfl rfl (by decide) rfl (fun ls hl => ?_)
    refine lv_goto (tgt := 2) hx hb dX3_begin_19 (by decide) ?_
    exact hB2 q2 (x1 + (1 : Int32)) h _ (lv_sub hl [1, 0] rfl) _ _ hP hD hS
def f_X3_begin_2 (v : Nat) : Nat → QS → Int32 → Option (QS)
  | 0 => fun _ _ => none
  | n + 1 => f_X3_begin_2_b v (f_X3_begin_2 v n)
theorem g_X3_begin_2 {E : En} {p : Program} {l : Launch} {e : Env} {s : State} {m : MethodId} {args : Array Value} {below : List Frame} {meth : Method} {c : Code} {A : Nat → Prop} {Q : State → Prop} (F : Fx E p s m args meth c (yX3_begin).cls cX3_begin 2 none) (hA : ∀ z : Nat, s.heap.size ≤ z → A z) {o : QS} (hRt : RtV (wX E) E p l e rm_X3_begin s m args below meth c A Q cX3_begin o) {v : Nat} (hv : v < 3) (n : Nat) : ∀ (q : QS) (x1 : Int32), f_X3_begin_2 v n q x1 = some o → ∀ ls : Array Slot, lv_has ls 2 [(0, .ref (eA E (15 + 3 * v))), (1, .int x1)] → Wq (wX E) E p l e rm_X3_begin s m args below meth c A 0 0 Q q (F0 m 2 ls []) := by
  induction n with
  | zero => intro q x1 h; cases h
  | succ n ih => intro q x1 h; exact g_X3_begin_2_b F hA hRt hv ih q x1 h
def f_X3_begin_0 (v : Nat) (q : QS) : Option (QS) :=
  f_X3_begin_2 v FU q (0 : Int32)
set_option maxHeartbeats 4000000 in
set_option maxRecDepth 100000 in
theorem g_X3_begin_0 {E : En} {p : Program} {l : Launch} {e : Env} {s : State} {m : MethodId} {args : Array Value} {below : List Frame} {meth : Method} {c : Code} {A : Nat → Prop} {Q : State → Prop} (F : Fx E p s m args meth c (yX3_begin).cls cX3_begin 2 none) (hA : ∀ z : Nat, s.heap.size ≤ z → A z) {o : QS} (hRt : RtV (wX E) E p l e rm_X3_begin s m args below meth c A Q cX3_begin o) {v : Nat} (hv : v < 3) (q : QS) (h : f_X3_begin_0 v q = some o) (ls : Array Slot) (hl : lv_has ls 2 [(0, .ref (eA E (15 + 3 * v)))]) : Wq (wX E) E p l e rm_X3_begin s m args below meth c A 0 0 Q q (F0 m 0 ls []) := by
  intro H locs hP hD hS
  have hx := F.1
  have hb := F.2.1
  unfold f_X3_begin_0 at h
  refine lv_iconst (v := 0) hx hb dX3_begin_0 (by decide) ?_
  refine lv_istore_n (lv' := [(1, .int (0 : Int32)), (0, .ref (eA E (15 + 3 * v)))]) hx hb dX3_begin_1 rfl hl (by decide) rfl (fun ls hl => ?_)
  exact g_X3_begin_2 F hA hRt hv FU q (0 : Int32) h _ (lv_sub hl [1, 0] rfl) _ _ hP hD hS
def f_X3_begin (v : Nat) (q : QS) : Option (QS) := f_X3_begin_0 v q
set_option maxRecDepth 100000 in
theorem c_X3_begin {E : En} {l : Launch} {v : Nat} (hv : v < 3) (q : QS) {o : QS} (h : f_X3_begin v q = some o) : Ct (wX E) E l yX3_begin (wy yX3_begin cX3_begin 2 none) rm_X3_begin q o [.ref (eA E (15 + 3 * v))] none :=
  ct_V (o := o) (by decide +kernel) (fun p e s m below meth c A Q F hA hRt H locs hP hD hS => en_W [.ref (eA E (15 + 3 * v))] (Nat.le_of_ble_eq_true rfl) (fun ls hl => g_X3_begin_0 F hA hRt hv q h ls (lv_sub hl [0] rfl) H locs hP hD hS))
def rm_X3_need : Room := { frames := 0, cells := 0, slots := 0, locals := 0 }
def f_X3_need_0 (v : Nat) (q : QS) (x1 : Int32) : Option (QS) :=
  if x1 < 0 then
    some q
  else
    if (200 : Int32) ≤ x1 then
      some q
    else
      (wI q (16 + 3 * v) 200 x1 (vp_nar .boolean (1 : Int32))).bind fun q3 =>
      some q3
set_option maxHeartbeats 4000000 in
set_option maxRecDepth 100000 in
theorem g_X3_need_0 {E : En} {p : Program} {l : Launch} {e : Env} {s : State} {m : MethodId} {args : Array Value} {below : List Frame} {meth : Method} {c : Code} {A : Nat → Prop} {Q : State → Prop} (F : Fx E p s m args meth c (yX3_need).cls cX3_need 2 none) (hA : ∀ z : Nat, s.heap.size ≤ z → A z) {o : QS} (hRt : RtV (wX E) E p l e rm_X3_need s m args below meth c A Q cX3_need o) {v : Nat} (hv : v < 3) (q : QS) (x1 : Int32) (h : f_X3_need_0 v q x1 = some o) (ls : Array Slot) (hl : lv_has ls 2 [(0, .ref (eA E (15 + 3 * v))), (1, .int x1)]) : Wq (wX E) E p l e rm_X3_need s m args below meth c A 0 0 Q q (F0 m 0 ls []) := by
  intro H locs hP hD hS
  have hx := F.1
  have hb := F.2.1
  unfold f_X3_need_0 at h
  refine lv_iload_n hx hb dX3_need_0 rfl (lv_at hl 1 rfl) ?_
  refine lv_if_lt (tgt := 18) hx hb dX3_need_1 (by decide) (fun c1 => ?_) (fun c1 => ?_)
  · rw [if_pos c1] at h
    cases h
    exact hRt _ _ dX3_need_18 _ _ hP hD hS
  · rw [if_neg c1] at h
    refine lv_iload_n hx hb dX3_need_4 rfl (lv_at hl 1 rfl) ?_
    refine lv_sipush (v := 200) hx hb dX3_need_5 (by decide) ?_
    refine lv_icmp_ge (tgt := 18) hx hb dX3_need_8 (by decide) (fun c2 => ?_) (fun c2 => ?_)
    · rw [if_pos c2] at h
      cases h
      exact hRt _ _ dX3_need_18 _ _ hP hD hS
    · rw [if_neg c2] at h
      refine lv_aload_n hx hb dX3_need_11 rfl (lv_at hl 0 rfl) ?_
      refine r_get F hP i_X3 (15 + 3 * v) (xpO hv E q) rfl 0 (by decide) rfl lf_X3_9 rfl dX3_need_12 ?_
      refine lv_iload_n hx hb dX3_need_15 rfl (lv_at hl 1 rfl) ?_
      refine lv_iconst (v := 1) hx hb dX3_need_16 (by decide) ?_
      obtain ⟨q3, e4, h⟩ := Option.bind_eq_some_iff.mp h
      refine r_zast F hP hD hS (16 + 3 * v) (xpN hv E q) (xpNs hv E q) e4 dX3_need_17 ?_
      intro H locs hP hD hS
      cases h
      exact hRt _ _ dX3_need_18 _ _ hP hD hS
def f_X3_need (v : Nat) (q : QS) (x1 : Int32) : Option (QS) := f_X3_need_0 v q x1
set_option maxRecDepth 100000 in
theorem c_X3_need {E : En} {l : Launch} {v : Nat} (hv : v < 3) (q : QS) (x1 : Int32) {o : QS} (h : f_X3_need v q x1 = some o) : Ct (wX E) E l yX3_need (wy yX3_need cX3_need 2 none) rm_X3_need q o [.ref (eA E (15 + 3 * v)), .int x1] none :=
  ct_V (o := o) (by decide +kernel) (fun p e s m below meth c A Q F hA hRt H locs hP hD hS => en_W [.ref (eA E (15 + 3 * v)), .int x1] (Nat.le_of_ble_eq_true rfl) (fun ls hl => g_X3_need_0 F hA hRt hv q x1 h ls (lv_sub hl [0, 1] rfl) H locs hP hD hS))
def rm_X3_complete : Room := { frames := 2, cells := 0, slots := 0, locals := 41 }
def f_X3_complete_48 (v : Nat) (B7 : QS → Int32 → Option (QS)) (q : QS) (x2 : Int32) : Option (QS) :=
  B7 q (x2 + (-1 : Int32))
set_option maxHeartbeats 4000000 in
set_option maxRecDepth 100000 in
theorem g_X3_complete_48 {E : En} {p : Program} {l : Launch} {e : Env} {s : State} {m : MethodId} {args : Array Value} {below : List Frame} {meth : Method} {c : Code} {A : Nat → Prop} {Q : State → Prop} (F : Fx E p s m args meth c (yX3_complete).cls cX3_complete 3 none) (hA : ∀ z : Nat, s.heap.size ≤ z → A z) {o : QS} (hRt : RtV (wX E) E p l e rm_X3_complete s m args below meth c A Q cX3_complete o) {v : Nat} (hv : v < 3) {B7 : QS → Int32 → Option (QS)} (hB7 : ∀ (q : QS) (x2 : Int32), B7 q x2 = some o → ∀ ls : Array Slot, lv_has ls 3 [(0, .ref (eA E (15 + 3 * v))), (1, .ref (eA E 29)), (2, .int x2)] → Wq (wX E) E p l e rm_X3_complete s m args below meth c A 0 0 Q q (F0 m 7 ls [])) (q : QS) (x2 : Int32) (h : f_X3_complete_48 v B7 q x2 = some o) (ls : Array Slot) (hl : lv_has ls 3 [(0, .ref (eA E (15 + 3 * v))), (1, .ref (eA E 29)), (2, .int x2)]) : Wq (wX E) E p l e rm_X3_complete s m args below meth c A 0 0 Q q (F0 m 48 ls []) := by
  intro H locs hP hD hS
  have hx := F.1
  have hb := F.2.1
  unfold f_X3_complete_48 at h
  refine lv_iinc (v := (x2 + (-1 : Int32))) (lv' := [(2, .int (x2 + (-1 : Int32))), (0, .ref (eA E (15 + 3 * v))), (1, .ref (eA E 29))]) hx hb dX3_complete_48 hl (k := 2) rfl rfl (by decide) rfl (fun ls hl => ?_)
  refine lv_goto (tgt := 7) hx hb dX3_complete_51 (by decide) ?_
  exact hB7 q (x2 + (-1 : Int32)) h _ (lv_sub hl [1, 2, 0] rfl) _ _ hP hD hS
def f_X3_complete_7_b (v : Nat) (K54 : QS → Option (QS)) (B7 : QS → Int32 → Option (QS)) (q : QS) (x2 : Int32) : Option (QS) :=
  if x2 < 0 then
    K54 q
  else
    (rd (qI q (16 + 3 * v)) 200 x2).bind fun y2 =>
    if y2 = 0 then
      f_X3_complete_48 v B7 q x2
    else
      (f_X2_isAggregate q x2).bind fun r5 =>
      if r5 = 0 then
        (rd (qI q 32) 200 x2).bind fun y8 =>
        (f_X3_need v q y8).bind fun r10 =>
        (rd (qI r10 33) 200 x2).bind fun y12 =>
        (f_X3_need v r10 y12).bind fun r14 =>
        f_X3_complete_48 v B7 r14 x2
      else
        f_X3_complete_48 v B7 q x2
set_option maxHeartbeats 4000000 in
set_option maxRecDepth 100000 in
theorem g_X3_complete_7_b {E : En} {p : Program} {l : Launch} {e : Env} {s : State} {m : MethodId} {args : Array Value} {below : List Frame} {meth : Method} {c : Code} {A : Nat → Prop} {Q : State → Prop} (F : Fx E p s m args meth c (yX3_complete).cls cX3_complete 3 none) (hA : ∀ z : Nat, s.heap.size ≤ z → A z) {o : QS} (hRt : RtV (wX E) E p l e rm_X3_complete s m args below meth c A Q cX3_complete o) {v : Nat} (hv : v < 3) {K54 : QS → Option (QS)} {B7 : QS → Int32 → Option (QS)} (hK54 : ∀ (q : QS), K54 q = some o → ∀ ls : Array Slot, lv_has ls 3 [(0, .ref (eA E (15 + 3 * v))), (1, .ref (eA E 29))] → Wq (wX E) E p l e rm_X3_complete s m args below meth c A 0 0 Q q (F0 m 54 ls [])) (hB7 : ∀ (q : QS) (x2 : Int32), B7 q x2 = some o → ∀ ls : Array Slot, lv_has ls 3 [(0, .ref (eA E (15 + 3 * v))), (1, .ref (eA E 29)), (2, .int x2)] → Wq (wX E) E p l e rm_X3_complete s m args below meth c A 0 0 Q q (F0 m 7 ls [])) (q : QS) (x2 : Int32) (h : f_X3_complete_7_b v K54 B7 q x2 = some o) (ls : Array Slot) (hl : lv_has ls 3 [(0, .ref (eA E (15 + 3 * v))), (1, .ref (eA E 29)), (2, .int x2)]) : Wq (wX E) E p l e rm_X3_complete s m args below meth c A 0 0 Q q (F0 m 7 ls []) := by
  intro H locs hP hD hS
  have hx := F.1
  have hb := F.2.1
  unfold f_X3_complete_7_b at h
  refine lv_iload_n hx hb dX3_complete_7 rfl (lv_at hl 2 rfl) ?_
  refine lv_if_lt (tgt := 54) hx hb dX3_complete_8 (by decide) (fun c1 => ?_) (fun c1 => ?_)
  · rw [if_pos c1] at h
    exact hK54 q h _ (lv_sub hl [0, 1] rfl) _ _ hP hD hS
  · rw [if_neg c1] at h
    refine lv_aload_n hx hb dX3_complete_11 rfl (lv_at hl 0 rfl) ?_
    refine r_get F hP i_X3 (15 + 3 * v) (xpO hv E q) rfl 0 (by decide) rfl lf_X3_9 rfl dX3_complete_12 ?_
    refine lv_iload_n hx hb dX3_complete_15 rfl (lv_at hl 2 rfl) ?_
    obtain ⟨y2, e3, h⟩ := Option.bind_eq_some_iff.mp h
    refine r_zald F hP (16 + 3 * v) (xpN hv E q) e3 dX3_complete_16 ?_
    refine lv_if_eq (tgt := 48) hx hb dX3_complete_17 (by decide) (fun c4 => ?_) (fun c4 => ?_)
    · rw [if_pos c4] at h
      exact g_X3_complete_48 F hA hRt hv hB7 q x2 h _ (lv_sub hl [0, 1, 2] rfl) _ _ hP hD hS
    · rw [if_neg c4] at h
      refine lv_aload_n hx hb dX3_complete_20 rfl (lv_at hl 1 rfl) ?_
      refine lv_iload_n hx hb dX3_complete_21 rfl (lv_at hl 2 rfl) ?_
      obtain ⟨r5, e6, h⟩ := Option.bind_eq_some_iff.mp h
      refine q_callV (As := [.int x2]) (rest := []) F hA hP hD hS (c_X2_isAggregate (E := E) (l := l) q x2 e6) k_X2_isAggregate in_X2_isAggregate se_X2_isAggregate lm_X3_25 29 (xe_29 E q) rfl ⟨rfl, rfl⟩ ⟨by decide, by decide⟩ rfl hl.1 rfl (Nat.le_of_ble_eq_true rfl) dX3_complete_22 ⟨by decide, by decide⟩ ?_
      intro H locs hP hD hS
      refine lv_if_ne (tgt := 48) hx hb dX3_complete_25 (by decide) (fun c7 => ?_) (fun c7 => ?_)
      · rw [if_neg c7] at h
        exact g_X3_complete_48 F hA hRt hv hB7 q x2 h _ (lv_sub hl [0, 1, 2] rfl) _ _ hP hD hS
      · rw [if_pos c7] at h
        refine lv_aload_n hx hb dX3_complete_28 rfl (lv_at hl 0 rfl) ?_
        refine lv_aload_n hx hb dX3_complete_29 rfl (lv_at hl 1 rfl) ?_
        refine r_get F hP i_X2 29 (xe_29 E q) rfl 3 (by decide) rfl lf_X3_29 rfl dX3_complete_30 ?_
        refine lv_iload_n hx hb dX3_complete_33 rfl (lv_at hl 2 rfl) ?_
        obtain ⟨y8, e9, h⟩ := Option.bind_eq_some_iff.mp h
        refine r_iald F hP 32 (xe_32 E q) e9 dX3_complete_34 ?_
        obtain ⟨r10, e11, h⟩ := Option.bind_eq_some_iff.mp h
        refine q_callV (As := [.int y8]) (rest := []) F hA hP hD hS (c_X3_need (E := E) (l := l) hv q y8 e11) k_X3_need in_X3_need se_X3_need lm_X3_32 (15 + 3 * v) (xpO hv E q) rfl ⟨rfl, rfl⟩ ⟨by decide, by decide⟩ rfl hl.1 rfl (Nat.le_of_ble_eq_true rfl) dX3_complete_35 ⟨by decide, by decide⟩ ?_
        intro H locs hP hD hS
        refine lv_aload_n hx hb dX3_complete_38 rfl (lv_at hl 0 rfl) ?_
        refine lv_aload_n hx hb dX3_complete_39 rfl (lv_at hl 1 rfl) ?_
        refine r_get F hP i_X2 29 (xe_29 E r10) rfl 4 (by decide) rfl lf_X3_36 rfl dX3_complete_40 ?_
        refine lv_iload_n hx hb dX3_complete_43 rfl (lv_at hl 2 rfl) ?_
        obtain ⟨y12, e13, h⟩ := Option.bind_eq_some_iff.mp h
        refine r_iald F hP 33 (xe_33 E r10) e13 dX3_complete_44 ?_
        obtain ⟨r14, e15, h⟩ := Option.bind_eq_some_iff.mp h
        refine q_callV (As := [.int y12]) (rest := []) F hA hP hD hS (c_X3_need (E := E) (l := l) hv r10 y12 e15) k_X3_need in_X3_need se_X3_need lm_X3_32 (15 + 3 * v) (xpO hv E r10) rfl ⟨rfl, rfl⟩ ⟨by decide, by decide⟩ rfl hl.1 rfl (Nat.le_of_ble_eq_true rfl) dX3_complete_45 ⟨by decide, by decide⟩ ?_
        intro H locs hP hD hS
        exact g_X3_complete_48 F hA hRt hv hB7 r14 x2 h _ (lv_sub hl [0, 1, 2] rfl) _ _ hP hD hS
def f_X3_complete_7 (v : Nat) (K54 : QS → Option (QS)) : Nat → QS → Int32 → Option (QS)
  | 0 => fun _ _ => none
  | n + 1 => f_X3_complete_7_b v K54 (f_X3_complete_7 v K54 n)
theorem g_X3_complete_7 {E : En} {p : Program} {l : Launch} {e : Env} {s : State} {m : MethodId} {args : Array Value} {below : List Frame} {meth : Method} {c : Code} {A : Nat → Prop} {Q : State → Prop} (F : Fx E p s m args meth c (yX3_complete).cls cX3_complete 3 none) (hA : ∀ z : Nat, s.heap.size ≤ z → A z) {o : QS} (hRt : RtV (wX E) E p l e rm_X3_complete s m args below meth c A Q cX3_complete o) {v : Nat} (hv : v < 3) {K54 : QS → Option (QS)} (hK54 : ∀ (q : QS), K54 q = some o → ∀ ls : Array Slot, lv_has ls 3 [(0, .ref (eA E (15 + 3 * v))), (1, .ref (eA E 29))] → Wq (wX E) E p l e rm_X3_complete s m args below meth c A 0 0 Q q (F0 m 54 ls [])) (n : Nat) : ∀ (q : QS) (x2 : Int32), f_X3_complete_7 v K54 n q x2 = some o → ∀ ls : Array Slot, lv_has ls 3 [(0, .ref (eA E (15 + 3 * v))), (1, .ref (eA E 29)), (2, .int x2)] → Wq (wX E) E p l e rm_X3_complete s m args below meth c A 0 0 Q q (F0 m 7 ls []) := by
  induction n with
  | zero => intro q x2 h; cases h
  | succ n ih => intro q x2 h; exact g_X3_complete_7_b F hA hRt hv hK54 ih q x2 h
def f_X3_complete_98 (v : Nat) (B61 : QS → Int32 → Option (QS)) (q : QS) (x2 : Int32) : Option (QS) :=
  B61 q (x2 + (1 : Int32))
set_option maxHeartbeats 4000000 in
set_option maxRecDepth 100000 in
theorem g_X3_complete_98 {E : En} {p : Program} {l : Launch} {e : Env} {s : State} {m : MethodId} {args : Array Value} {below : List Frame} {meth : Method} {c : Code} {A : Nat → Prop} {Q : State → Prop} (F : Fx E p s m args meth c (yX3_complete).cls cX3_complete 3 none) (hA : ∀ z : Nat, s.heap.size ≤ z → A z) {o : QS} (hRt : RtV (wX E) E p l e rm_X3_complete s m args below meth c A Q cX3_complete o) {v : Nat} (hv : v < 3) {B61 : QS → Int32 → Option (QS)} (hB61 : ∀ (q : QS) (x2 : Int32), B61 q x2 = some o → ∀ ls : Array Slot, lv_has ls 3 [(0, .ref (eA E (15 + 3 * v))), (1, .ref (eA E 29)), (2, .int x2)] → Wq (wX E) E p l e rm_X3_complete s m args below meth c A 0 0 Q q (F0 m 61 ls [])) (q : QS) (x2 : Int32) (h : f_X3_complete_98 v B61 q x2 = some o) (ls : Array Slot) (hl : lv_has ls 3 [(0, .ref (eA E (15 + 3 * v))), (1, .ref (eA E 29)), (2, .int x2)]) : Wq (wX E) E p l e rm_X3_complete s m args below meth c A 0 0 Q q (F0 m 98 ls []) := by
  intro H locs hP hD hS
  have hx := F.1
  have hb := F.2.1
  unfold f_X3_complete_98 at h
  refine lv_iinc (v := (x2 + (1 : Int32))) (lv' := [(2, .int (x2 + (1 : Int32))), (0, .ref (eA E (15 + 3 * v))), (1, .ref (eA E 29))]) hx hb dX3_complete_98 hl (k := 2) rfl rfl (by decide) rfl (fun ls hl => ?_)
  refine lv_goto (tgt := 61) hx hb dX3_complete_101 (by decide) ?_
  exact hB61 q (x2 + (1 : Int32)) h _ (lv_sub hl [1, 2, 0] rfl) _ _ hP hD hS
def f_X3_complete_61_b (v : Nat) (B61 : QS → Int32 → Option (QS)) (q : QS) (x2 : Int32) : Option (QS) :=
  if (qF q 2) ≤ x2 then
    some q
  else
    (rd (qI q (16 + 3 * v)) 200 x2).bind fun y17 =>
    if y17 = 0 then
      f_X3_complete_98 v B61 q x2
    else
      (wI q (17 + 3 * v) 200 (qF q (3 + v)) x2).bind fun q20 =>
      f_X3_complete_98 v B61 (uF q20 (3 + v) ((qF q20 (3 + v)) + (1 : Int32))) x2
set_option maxHeartbeats 4000000 in
set_option maxRecDepth 100000 in
theorem g_X3_complete_61_b {E : En} {p : Program} {l : Launch} {e : Env} {s : State} {m : MethodId} {args : Array Value} {below : List Frame} {meth : Method} {c : Code} {A : Nat → Prop} {Q : State → Prop} (F : Fx E p s m args meth c (yX3_complete).cls cX3_complete 3 none) (hA : ∀ z : Nat, s.heap.size ≤ z → A z) {o : QS} (hRt : RtV (wX E) E p l e rm_X3_complete s m args below meth c A Q cX3_complete o) {v : Nat} (hv : v < 3) {B61 : QS → Int32 → Option (QS)} (hB61 : ∀ (q : QS) (x2 : Int32), B61 q x2 = some o → ∀ ls : Array Slot, lv_has ls 3 [(0, .ref (eA E (15 + 3 * v))), (1, .ref (eA E 29)), (2, .int x2)] → Wq (wX E) E p l e rm_X3_complete s m args below meth c A 0 0 Q q (F0 m 61 ls [])) (q : QS) (x2 : Int32) (h : f_X3_complete_61_b v B61 q x2 = some o) (ls : Array Slot) (hl : lv_has ls 3 [(0, .ref (eA E (15 + 3 * v))), (1, .ref (eA E 29)), (2, .int x2)]) : Wq (wX E) E p l e rm_X3_complete s m args below meth c A 0 0 Q q (F0 m 61 ls []) := by
  intro H locs hP hD hS
  have hx := F.1
  have hb := F.2.1
  unfold f_X3_complete_61_b at h
  refine lv_iload_n hx hb dX3_complete_61 rfl (lv_at hl 2 rfl) ?_
  refine lv_aload_n hx hb dX3_complete_62 rfl (lv_at hl 1 rfl) ?_
  refine r_get F hP i_X2 29 (xe_29 E q) rfl 0 (by decide) rfl lf_X3_19 rfl dX3_complete_63 ?_
  refine lv_icmp_ge (tgt := 104) hx hb dX3_complete_66 (by decide) (fun c16 => ?_) (fun c16 => ?_)
  · rw [if_pos c16] at h
    cases h
    exact hRt _ _ dX3_complete_104 _ _ hP hD hS
  · rw [if_neg c16] at h
    refine lv_aload_n hx hb dX3_complete_69 rfl (lv_at hl 0 rfl) ?_
    refine r_get F hP i_X3 (15 + 3 * v) (xpO hv E q) rfl 0 (by decide) rfl lf_X3_9 rfl dX3_complete_70 ?_
    refine lv_iload_n hx hb dX3_complete_73 rfl (lv_at hl 2 rfl) ?_
    obtain ⟨y17, e18, h⟩ := Option.bind_eq_some_iff.mp h
    refine r_zald F hP (16 + 3 * v) (xpN hv E q) e18 dX3_complete_74 ?_
    refine lv_if_eq (tgt := 98) hx hb dX3_complete_75 (by decide) (fun c19 => ?_) (fun c19 => ?_)
    · rw [if_pos c19] at h
      exact g_X3_complete_98 F hA hRt hv hB61 q x2 h _ (lv_sub hl [0, 1, 2] rfl) _ _ hP hD hS
    · rw [if_neg c19] at h
      refine lv_aload_n hx hb dX3_complete_78 rfl (lv_at hl 0 rfl) ?_
      refine r_get F hP i_X3 (15 + 3 * v) (xpO hv E q) rfl 1 (by decide) rfl lf_X3_15 rfl dX3_complete_79 ?_
      refine lv_aload_n hx hb dX3_complete_82 rfl (lv_at hl 0 rfl) ?_
      refine r_get F hP i_X3 (15 + 3 * v) (xpO hv E q) rfl 2 (by decide) rfl lf_X3_39 rfl dX3_complete_83 ?_
      refine lv_iload_n hx hb dX3_complete_86 rfl (lv_at hl 2 rfl) ?_
      obtain ⟨q20, e21, h⟩ := Option.bind_eq_some_iff.mp h
      refine r_iast F hP hD hS (17 + 3 * v) (xpS hv E q) (xpSs hv E q) e21 dX3_complete_87 ?_
      intro H locs hP hD hS
      refine lv_aload_n hx hb dX3_complete_88 rfl (lv_at hl 0 rfl) ?_
      refine lv_dup hx hb dX3_complete_89 rfl ?_
      refine r_get F hP i_X3 (15 + 3 * v) (xpO hv E q20) rfl 2 (by decide) rfl lf_X3_39 rfl dX3_complete_90 ?_
      refine lv_iconst (v := 1) hx hb dX3_complete_93 (by decide) ?_
      refine lv_iadd hx hb dX3_complete_94 ?_
      refine r_put (ty := .int) (q1 := (uF q20 (3 + v) ((qF q20 (3 + v)) + (1 : Int32)))) F hP hD hS i_X3 tyX3_ok nmX3 (15 + 3 * v) (xpO hv E q20) rfl 2 (by decide) rfl lf_X3_39 rfl (by decide +kernel) rfl rfl (Nat.le_of_ble_eq_true rfl) (xpF hv E q20 ((qF q20 (3 + v)) + (1 : Int32))) dX3_complete_95 ?_
      intro H locs hP hD hS
      exact g_X3_complete_98 F hA hRt hv hB61 (uF q20 (3 + v) ((qF q20 (3 + v)) + (1 : Int32))) x2 h _ (lv_sub hl [0, 1, 2] rfl) _ _ hP hD hS
def f_X3_complete_61 (v : Nat) : Nat → QS → Int32 → Option (QS)
  | 0 => fun _ _ => none
  | n + 1 => f_X3_complete_61_b v (f_X3_complete_61 v n)
theorem g_X3_complete_61 {E : En} {p : Program} {l : Launch} {e : Env} {s : State} {m : MethodId} {args : Array Value} {below : List Frame} {meth : Method} {c : Code} {A : Nat → Prop} {Q : State → Prop} (F : Fx E p s m args meth c (yX3_complete).cls cX3_complete 3 none) (hA : ∀ z : Nat, s.heap.size ≤ z → A z) {o : QS} (hRt : RtV (wX E) E p l e rm_X3_complete s m args below meth c A Q cX3_complete o) {v : Nat} (hv : v < 3) (n : Nat) : ∀ (q : QS) (x2 : Int32), f_X3_complete_61 v n q x2 = some o → ∀ ls : Array Slot, lv_has ls 3 [(0, .ref (eA E (15 + 3 * v))), (1, .ref (eA E 29)), (2, .int x2)] → Wq (wX E) E p l e rm_X3_complete s m args below meth c A 0 0 Q q (F0 m 61 ls []) := by
  induction n with
  | zero => intro q x2 h; cases h
  | succ n ih => intro q x2 h; exact g_X3_complete_61_b F hA hRt hv ih q x2 h
def f_X3_complete_54 (v : Nat) (q : QS) : Option (QS) :=
  f_X3_complete_61 v FU (uF q (3 + v) (0 : Int32)) (0 : Int32)
set_option maxHeartbeats 4000000 in
set_option maxRecDepth 100000 in
theorem g_X3_complete_54 {E : En} {p : Program} {l : Launch} {e : Env} {s : State} {m : MethodId} {args : Array Value} {below : List Frame} {meth : Method} {c : Code} {A : Nat → Prop} {Q : State → Prop} (F : Fx E p s m args meth c (yX3_complete).cls cX3_complete 3 none) (hA : ∀ z : Nat, s.heap.size ≤ z → A z) {o : QS} (hRt : RtV (wX E) E p l e rm_X3_complete s m args below meth c A Q cX3_complete o) {v : Nat} (hv : v < 3) (q : QS) (h : f_X3_complete_54 v q = some o) (ls : Array Slot) (hl : lv_has ls 3 [(0, .ref (eA E (15 + 3 * v))), (1, .ref (eA E 29))]) : Wq (wX E) E p l e rm_X3_complete s m args below meth c A 0 0 Q q (F0 m 54 ls []) := by
  intro H locs hP hD hS
  have hx := F.1
  have hb := F.2.1
  unfold f_X3_complete_54 at h
  refine lv_aload_n hx hb dX3_complete_54 rfl (lv_at hl 0 rfl) ?_
  refine lv_iconst (v := 0) hx hb dX3_complete_55 (by decide) ?_
  refine r_put (ty := .int) (q1 := (uF q (3 + v) (0 : Int32))) F hP hD hS i_X3 tyX3_ok nmX3 (15 + 3 * v) (xpO hv E q) rfl 2 (by decide) rfl lf_X3_39 rfl (by decide +kernel) rfl rfl (Nat.le_of_ble_eq_true rfl) (xpF hv E q (0 : Int32)) dX3_complete_56 ?_
  intro H locs hP hD hS
  refine lv_iconst (v := 0) hx hb dX3_complete_59 (by decide) ?_
  refine lv_istore_n (lv' := [(2, .int (0 : Int32)), (0, .ref (eA E (15 + 3 * v))), (1, .ref (eA E 29))]) hx hb dX3_complete_60 rfl hl (by decide) rfl (fun ls hl => ?_)
  exact g_X3_complete_61 F hA hRt hv FU (uF q (3 + v) (0 : Int32)) (0 : Int32) h _ (lv_sub hl [1, 2, 0] rfl) _ _ hP hD hS
def f_X3_complete_0 (v : Nat) (q : QS) : Option (QS) :=
  f_X3_complete_7 v (f_X3_complete_54 v) FU q ((qF q 2) - (1 : Int32))
set_option maxHeartbeats 4000000 in
set_option maxRecDepth 100000 in
theorem g_X3_complete_0 {E : En} {p : Program} {l : Launch} {e : Env} {s : State} {m : MethodId} {args : Array Value} {below : List Frame} {meth : Method} {c : Code} {A : Nat → Prop} {Q : State → Prop} (F : Fx E p s m args meth c (yX3_complete).cls cX3_complete 3 none) (hA : ∀ z : Nat, s.heap.size ≤ z → A z) {o : QS} (hRt : RtV (wX E) E p l e rm_X3_complete s m args below meth c A Q cX3_complete o) {v : Nat} (hv : v < 3) (q : QS) (h : f_X3_complete_0 v q = some o) (ls : Array Slot) (hl : lv_has ls 3 [(0, .ref (eA E (15 + 3 * v))), (1, .ref (eA E 29))]) : Wq (wX E) E p l e rm_X3_complete s m args below meth c A 0 0 Q q (F0 m 0 ls []) := by
  intro H locs hP hD hS
  have hx := F.1
  have hb := F.2.1
  unfold f_X3_complete_0 at h
  refine lv_aload_n hx hb dX3_complete_0 rfl (lv_at hl 1 rfl) ?_
  refine r_get F hP i_X2 29 (xe_29 E q) rfl 0 (by decide) rfl lf_X3_19 rfl dX3_complete_1 ?_
  refine lv_iconst (v := 1) hx hb dX3_complete_4 (by decide) ?_
  refine lv_isub hx hb dX3_complete_5 ?_
  refine lv_istore_n (lv' := [(2, .int ((qF q 2) - (1 : Int32))), (0, .ref (eA E (15 + 3 * v))), (1, .ref (eA E 29))]) hx hb dX3_complete_6 rfl hl (by decide) rfl (fun ls hl => ?_)
  exact g_X3_complete_7 F hA hRt hv (g_X3_complete_54 F hA hRt hv) FU q ((qF q 2) - (1 : Int32)) h _ (lv_sub hl [1, 2, 0] rfl) _ _ hP hD hS
def f_X3_complete (v : Nat) (q : QS) : Option (QS) := f_X3_complete_0 v q
set_option maxRecDepth 100000 in
theorem c_X3_complete {E : En} {l : Launch} {v : Nat} (hv : v < 3) (q : QS) {o : QS} (h : f_X3_complete v q = some o) : Ct (wX E) E l yX3_complete (wy yX3_complete cX3_complete 3 none) rm_X3_complete q o [.ref (eA E (15 + 3 * v)), .ref (eA E 29)] none :=
  ct_V (o := o) (by decide +kernel) (fun p e s m below meth c A Q F hA hRt H locs hP hD hS => en_W [.ref (eA E (15 + 3 * v)), .ref (eA E 29)] (Nat.le_of_ble_eq_true rfl) (fun ls hl => g_X3_complete_0 F hA hRt hv q h ls (lv_sub hl [0, 1] rfl) H locs hP hD hS))
def rm_X4_forget : Room := { frames := 0, cells := 0, slots := 0, locals := 0 }
def f_X4_forget_0 (q : QS) : Option (QS) :=
  some (uF (uF (uF (uF (uF (uF q 6 (0 : Int32)) 7 (0 : Int32)) 8 (0 : Int32)) 9 (-1 : Int32)) 10 (-1 : Int32)) 11 (0 : Int32))
set_option maxHeartbeats 4000000 in
set_option maxRecDepth 100000 in
theorem g_X4_forget_0 {E : En} {p : Program} {l : Launch} {e : Env} {s : State} {m : MethodId} {args : Array Value} {below : List Frame} {meth : Method} {c : Code} {A : Nat → Prop} {Q : State → Prop} (F : Fx E p s m args meth c (yX4_forget).cls cX4_forget 1 none) (hA : ∀ z : Nat, s.heap.size ≤ z → A z) {o : QS} (hRt : RtV (wX E) E p l e rm_X4_forget s m args below meth c A Q cX4_forget o) (q : QS) (h : f_X4_forget_0 q = some o) (ls : Array Slot) (hl : lv_has ls 1 [(0, .ref (eA E 38))]) : Wq (wX E) E p l e rm_X4_forget s m args below meth c A 0 0 Q q (F0 m 0 ls []) := by
  intro H locs hP hD hS
  have hx := F.1
  have hb := F.2.1
  unfold f_X4_forget_0 at h
  refine lv_aload_n hx hb dX4_forget_0 rfl (lv_at hl 0 rfl) ?_
  refine lv_iconst (v := 0) hx hb dX4_forget_1 (by decide) ?_
  refine r_put (ty := .int) (q1 := (uF q 6 (0 : Int32))) F hP hD hS i_X4 tyX4_ok nmX4 38 (xe_38 E q) rfl 0 (by decide) rfl lf_X4_35 rfl (by decide +kernel) rfl rfl (Nat.le_of_ble_eq_true rfl) (xf_38_6 E q (0 : Int32)) dX4_forget_2 ?_
  intro H locs hP hD hS
  refine lv_aload_n hx hb dX4_forget_5 rfl (lv_at hl 0 rfl) ?_
  refine lv_iconst (v := 0) hx hb dX4_forget_6 (by decide) ?_
  refine r_put (ty := .int) (q1 := (uF (uF q 6 (0 : Int32)) 7 (0 : Int32))) F hP hD hS i_X4 tyX4_ok nmX4 38 (xe_38 E (uF q 6 (0 : Int32))) rfl 1 (by decide) rfl lf_X4_38 rfl (by decide +kernel) rfl rfl (Nat.le_of_ble_eq_true rfl) (xf_38_7 E (uF q 6 (0 : Int32)) (0 : Int32)) dX4_forget_7 ?_
  intro H locs hP hD hS
  refine lv_aload_n hx hb dX4_forget_10 rfl (lv_at hl 0 rfl) ?_
  refine lv_iconst (v := 0) hx hb dX4_forget_11 (by decide) ?_
  refine r_put (ty := .int) (q1 := (uF (uF (uF q 6 (0 : Int32)) 7 (0 : Int32)) 8 (0 : Int32))) F hP hD hS i_X4 tyX4_ok nmX4 38 (xe_38 E (uF (uF q 6 (0 : Int32)) 7 (0 : Int32))) rfl 2 (by decide) rfl lf_X4_41 rfl (by decide +kernel) rfl rfl (Nat.le_of_ble_eq_true rfl) (xf_38_8 E (uF (uF q 6 (0 : Int32)) 7 (0 : Int32)) (0 : Int32)) dX4_forget_12 ?_
  intro H locs hP hD hS
  refine lv_aload_n hx hb dX4_forget_15 rfl (lv_at hl 0 rfl) ?_
  refine lv_iconst (v := (-1)) hx hb dX4_forget_16 (by decide) ?_
  refine r_put (ty := .int) (q1 := (uF (uF (uF (uF q 6 (0 : Int32)) 7 (0 : Int32)) 8 (0 : Int32)) 9 (-1 : Int32))) F hP hD hS i_X4 tyX4_ok nmX4 38 (xe_38 E (uF (uF (uF q 6 (0 : Int32)) 7 (0 : Int32)) 8 (0 : Int32))) rfl 3 (by decide) rfl lf_X4_28 rfl (by decide +kernel) rfl rfl (Nat.le_of_ble_eq_true rfl) (xf_38_9 E (uF (uF (uF q 6 (0 : Int32)) 7 (0 : Int32)) 8 (0 : Int32)) (-1 : Int32)) dX4_forget_17 ?_
  intro H locs hP hD hS
  refine lv_aload_n hx hb dX4_forget_20 rfl (lv_at hl 0 rfl) ?_
  refine lv_iconst (v := (-1)) hx hb dX4_forget_21 (by decide) ?_
  refine r_put (ty := .int) (q1 := (uF (uF (uF (uF (uF q 6 (0 : Int32)) 7 (0 : Int32)) 8 (0 : Int32)) 9 (-1 : Int32)) 10 (-1 : Int32))) F hP hD hS i_X4 tyX4_ok nmX4 38 (xe_38 E (uF (uF (uF (uF q 6 (0 : Int32)) 7 (0 : Int32)) 8 (0 : Int32)) 9 (-1 : Int32))) rfl 4 (by decide) rfl lf_X4_32 rfl (by decide +kernel) rfl rfl (Nat.le_of_ble_eq_true rfl) (xf_38_10 E (uF (uF (uF (uF q 6 (0 : Int32)) 7 (0 : Int32)) 8 (0 : Int32)) 9 (-1 : Int32)) (-1 : Int32)) dX4_forget_22 ?_
  intro H locs hP hD hS
  refine lv_aload_n hx hb dX4_forget_25 rfl (lv_at hl 0 rfl) ?_
  refine lv_iconst (v := 0) hx hb dX4_forget_26 (by decide) ?_
  refine r_put (ty := .boolean) (q1 := (uF (uF (uF (uF (uF (uF q 6 (0 : Int32)) 7 (0 : Int32)) 8 (0 : Int32)) 9 (-1 : Int32)) 10 (-1 : Int32)) 11 (0 : Int32))) F hP hD hS i_X4 tyX4_ok nmX4 38 (xe_38 E (uF (uF (uF (uF (uF q 6 (0 : Int32)) 7 (0 : Int32)) 8 (0 : Int32)) 9 (-1 : Int32)) 10 (-1 : Int32))) rfl 5 (by decide) rfl lf_X4_44 rfl (by decide +kernel) rfl (by decide) (Nat.le_of_ble_eq_true rfl) (xf_38_11 E (uF (uF (uF (uF (uF q 6 (0 : Int32)) 7 (0 : Int32)) 8 (0 : Int32)) 9 (-1 : Int32)) 10 (-1 : Int32)) (0 : Int32)) dX4_forget_27 ?_
  intro H locs hP hD hS
  cases h
  exact hRt _ _ dX4_forget_30 _ _ hP hD hS
def f_X4_forget (q : QS) : Option (QS) := f_X4_forget_0 q
set_option maxRecDepth 100000 in
theorem c_X4_forget {E : En} {l : Launch} (q : QS) {o : QS} (h : f_X4_forget q = some o) : Ct (wX E) E l yX4_forget (wy yX4_forget cX4_forget 1 none) rm_X4_forget q o [.ref (eA E 38)] none :=
  ct_V (o := o) (by decide +kernel) (fun p e s m below meth c A Q F hA hRt H locs hP hD hS => en_W [.ref (eA E 38)] (Nat.le_of_ble_eq_true rfl) (fun ls hl => g_X4_forget_0 F hA hRt q h ls (lv_sub hl [0] rfl) H locs hP hD hS))
def rm_X4_addItem : Room := { frames := 0, cells := 0, slots := 0, locals := 0 }
def f_X4_addItem_0 (q : QS) (x1 : Int32) : Option (Int32 × QS) :=
  if (qF q 6) < (8 : Int32) then
    (wI q 39 8 (qF q 6) x1).bind fun q2 =>
    some ((qF q2 6), (uF q2 6 ((qF q2 6) + (1 : Int32))))
  else
    some ((-1 : Int32), q)
set_option maxHeartbeats 4000000 in
set_option maxRecDepth 100000 in
theorem g_X4_addItem_0 {E : En} {p : Program} {l : Launch} {e : Env} {s : State} {m : MethodId} {args : Array Value} {below : List Frame} {meth : Method} {c : Code} {A : Nat → Prop} {Q : State → Prop} (F : Fx E p s m args meth c (yX4_addItem).cls cX4_addItem 2 (some .int)) (hA : ∀ z : Nat, s.heap.size ≤ z → A z) {o : Int32 × QS} (hRt : RtI (wX E) E p l e rm_X4_addItem s m args below meth c A Q cX4_addItem o) (q : QS) (x1 : Int32) (h : f_X4_addItem_0 q x1 = some o) (ls : Array Slot) (hl : lv_has ls 2 [(0, .ref (eA E 38)), (1, .int x1)]) : Wq (wX E) E p l e rm_X4_addItem s m args below meth c A 0 0 Q q (F0 m 0 ls []) := by
  intro H locs hP hD hS
  have hx := F.1
  have hb := F.2.1
  unfold f_X4_addItem_0 at h
  refine lv_aload_n hx hb dX4_addItem_0 rfl (lv_at hl 0 rfl) ?_
  refine r_get F hP i_X4 38 (xe_38 E q) rfl 0 (by decide) rfl lf_X4_35 rfl dX4_addItem_1 ?_
  refine lv_bipush (v := 8) hx hb dX4_addItem_4 (by decide) ?_
  refine lv_icmp_lt (tgt := 11) hx hb dX4_addItem_6 (by decide) (fun c1 => ?_) (fun c1 => ?_)
  · rw [if_pos c1] at h
    refine lv_aload_n hx hb dX4_addItem_11 rfl (lv_at hl 0 rfl) ?_
    refine r_get F hP i_X4 38 (xe_38 E q) rfl 6 (by decide) rfl lf_X4_9 rfl dX4_addItem_12 ?_
    refine lv_aload_n hx hb dX4_addItem_15 rfl (lv_at hl 0 rfl) ?_
    refine r_get F hP i_X4 38 (xe_38 E q) rfl 0 (by decide) rfl lf_X4_35 rfl dX4_addItem_16 ?_
    refine lv_iload_n hx hb dX4_addItem_19 rfl (lv_at hl 1 rfl) ?_
    obtain ⟨q2, e3, h⟩ := Option.bind_eq_some_iff.mp h
    refine r_iast F hP hD hS 39 (xe_39 E q) (xs_39 E q) e3 dX4_addItem_20 ?_
    intro H locs hP hD hS
    refine lv_aload_n hx hb dX4_addItem_21 rfl (lv_at hl 0 rfl) ?_
    refine lv_dup hx hb dX4_addItem_22 rfl ?_
    refine r_get F hP i_X4 38 (xe_38 E q2) rfl 0 (by decide) rfl lf_X4_35 rfl dX4_addItem_23 ?_
    refine lv_dup_x1 hx hb dX4_addItem_26 rfl rfl ?_
    refine lv_iconst (v := 1) hx hb dX4_addItem_27 (by decide) ?_
    refine lv_iadd hx hb dX4_addItem_28 ?_
    refine r_put (ty := .int) (q1 := (uF q2 6 ((qF q2 6) + (1 : Int32)))) F hP hD hS i_X4 tyX4_ok nmX4 38 (xe_38 E q2) rfl 0 (by decide) rfl lf_X4_35 rfl (by decide +kernel) rfl rfl (Nat.le_of_ble_eq_true rfl) (xf_38_6 E q2 ((qF q2 6) + (1 : Int32))) dX4_addItem_29 ?_
    intro H locs hP hD hS
    cases h
    exact hRt _ _ dX4_addItem_32 _ _ hP hD hS
  · rw [if_neg c1] at h
    refine lv_iconst (v := (-1)) hx hb dX4_addItem_9 (by decide) ?_
    cases h
    exact hRt _ _ dX4_addItem_10 _ _ hP hD hS
def f_X4_addItem (q : QS) (x1 : Int32) : Option (Int32 × QS) := f_X4_addItem_0 q x1
set_option maxRecDepth 100000 in
theorem c_X4_addItem {E : En} {l : Launch} (q : QS) (x1 : Int32) {o : Int32 × QS} (h : f_X4_addItem q x1 = some o) : Ct (wX E) E l yX4_addItem (wy yX4_addItem cX4_addItem 2 (some .int)) rm_X4_addItem q o.2 [.ref (eA E 38), .int x1] (some (.int o.1)) :=
  ct_I (o := o) (by decide +kernel) rfl (fun p e s m below meth c A Q F hA hRt H locs hP hD hS => en_W [.ref (eA E 38), .int x1] (Nat.le_of_ble_eq_true rfl) (fun ls hl => g_X4_addItem_0 F hA hRt q x1 h ls (lv_sub hl [0, 1] rfl) H locs hP hD hS))
def rm_X4_addGroup : Room := { frames := 0, cells := 0, slots := 0, locals := 0 }
def f_X4_addGroup_0 (q : QS) (x1 : Int32) (x2 : Int32) : Option (Int32 × QS) :=
  if (qF q 7) < (4 : Int32) then
    (wI q 40 4 (qF q 7) x1).bind fun q2 =>
    (wI q2 41 4 (qF q2 7) x2).bind fun q4 =>
    some ((1 : Int32), (uF q4 7 ((qF q4 7) + (1 : Int32))))
  else
    some ((0 : Int32), q)
set_option maxHeartbeats 4000000 in
set_option maxRecDepth 100000 in
theorem g_X4_addGroup_0 {E : En} {p : Program} {l : Launch} {e : Env} {s : State} {m : MethodId} {args : Array Value} {below : List Frame} {meth : Method} {c : Code} {A : Nat → Prop} {Q : State → Prop} (F : Fx E p s m args meth c (yX4_addGroup).cls cX4_addGroup 3 (some .boolean)) (hA : ∀ z : Nat, s.heap.size ≤ z → A z) {o : Int32 × QS} (hRt : RtZ (wX E) E p l e rm_X4_addGroup s m args below meth c A Q cX4_addGroup o) (q : QS) (x1 : Int32) (x2 : Int32) (h : f_X4_addGroup_0 q x1 x2 = some o) (ls : Array Slot) (hl : lv_has ls 3 [(0, .ref (eA E 38)), (1, .int x1), (2, .int x2)]) : Wq (wX E) E p l e rm_X4_addGroup s m args below meth c A 0 0 Q q (F0 m 0 ls []) := by
  intro H locs hP hD hS
  have hx := F.1
  have hb := F.2.1
  unfold f_X4_addGroup_0 at h
  refine lv_aload_n hx hb dX4_addGroup_0 rfl (lv_at hl 0 rfl) ?_
  refine r_get F hP i_X4 38 (xe_38 E q) rfl 1 (by decide) rfl lf_X4_38 rfl dX4_addGroup_1 ?_
  refine lv_iconst (v := 4) hx hb dX4_addGroup_4 (by decide) ?_
  refine lv_icmp_lt (tgt := 10) hx hb dX4_addGroup_5 (by decide) (fun c1 => ?_) (fun c1 => ?_)
  · rw [if_pos c1] at h
    refine lv_aload_n hx hb dX4_addGroup_10 rfl (lv_at hl 0 rfl) ?_
    refine r_get F hP i_X4 38 (xe_38 E q) rfl 7 (by decide) rfl lf_X4_15 rfl dX4_addGroup_11 ?_
    refine lv_aload_n hx hb dX4_addGroup_14 rfl (lv_at hl 0 rfl) ?_
    refine r_get F hP i_X4 38 (xe_38 E q) rfl 1 (by decide) rfl lf_X4_38 rfl dX4_addGroup_15 ?_
    refine lv_iload_n hx hb dX4_addGroup_18 rfl (lv_at hl 1 rfl) ?_
    obtain ⟨q2, e3, h⟩ := Option.bind_eq_some_iff.mp h
    refine r_iast F hP hD hS 40 (xe_40 E q) (xs_40 E q) e3 dX4_addGroup_19 ?_
    intro H locs hP hD hS
    refine lv_aload_n hx hb dX4_addGroup_20 rfl (lv_at hl 0 rfl) ?_
    refine r_get F hP i_X4 38 (xe_38 E q2) rfl 8 (by decide) rfl lf_X4_18 rfl dX4_addGroup_21 ?_
    refine lv_aload_n hx hb dX4_addGroup_24 rfl (lv_at hl 0 rfl) ?_
    refine r_get F hP i_X4 38 (xe_38 E q2) rfl 1 (by decide) rfl lf_X4_38 rfl dX4_addGroup_25 ?_
    refine lv_iload_n hx hb dX4_addGroup_28 rfl (lv_at hl 2 rfl) ?_
    obtain ⟨q4, e5, h⟩ := Option.bind_eq_some_iff.mp h
    refine r_iast F hP hD hS 41 (xe_41 E q2) (xs_41 E q2) e5 dX4_addGroup_29 ?_
    intro H locs hP hD hS
    refine lv_aload_n hx hb dX4_addGroup_30 rfl (lv_at hl 0 rfl) ?_
    refine lv_dup hx hb dX4_addGroup_31 rfl ?_
    refine r_get F hP i_X4 38 (xe_38 E q4) rfl 1 (by decide) rfl lf_X4_38 rfl dX4_addGroup_32 ?_
    refine lv_iconst (v := 1) hx hb dX4_addGroup_35 (by decide) ?_
    refine lv_iadd hx hb dX4_addGroup_36 ?_
    refine r_put (ty := .int) (q1 := (uF q4 7 ((qF q4 7) + (1 : Int32)))) F hP hD hS i_X4 tyX4_ok nmX4 38 (xe_38 E q4) rfl 1 (by decide) rfl lf_X4_38 rfl (by decide +kernel) rfl rfl (Nat.le_of_ble_eq_true rfl) (xf_38_7 E q4 ((qF q4 7) + (1 : Int32))) dX4_addGroup_37 ?_
    intro H locs hP hD hS
    refine lv_iconst (v := 1) hx hb dX4_addGroup_40 (by decide) ?_
    cases h
    exact hRt _ _ zz_1 dX4_addGroup_41 _ _ hP hD hS
  · rw [if_neg c1] at h
    refine lv_iconst (v := 0) hx hb dX4_addGroup_8 (by decide) ?_
    cases h
    exact hRt _ _ zz_0 dX4_addGroup_9 _ _ hP hD hS
def f_X4_addGroup (q : QS) (x1 : Int32) (x2 : Int32) : Option (Int32 × QS) := f_X4_addGroup_0 q x1 x2
set_option maxRecDepth 100000 in
theorem c_X4_addGroup {E : En} {l : Launch} (q : QS) (x1 : Int32) (x2 : Int32) {o : Int32 × QS} (h : f_X4_addGroup q x1 x2 = some o) : Ct (wX E) E l yX4_addGroup (wy yX4_addGroup cX4_addGroup 3 (some .boolean)) rm_X4_addGroup q o.2 [.ref (eA E 38), .int x1, .int x2] (some (.int o.1)) :=
  ct_Z (o := o) (by decide +kernel) (fun p e s m below meth c A Q F hA hRt H locs hP hD hS => en_W [.ref (eA E 38), .int x1, .int x2] (Nat.le_of_ble_eq_true rfl) (fun ls hl => g_X4_addGroup_0 F hA hRt q x1 x2 h ls (lv_sub hl [0, 1, 2] rfl) H locs hP hD hS))
def rm_X4_addOrder : Room := { frames := 0, cells := 0, slots := 0, locals := 0 }
def f_X4_addOrder_0 (q : QS) (x1 : Int32) (x2 : Int32) : Option (Int32 × QS) :=
  if x1 < 0 then
    some ((0 : Int32), q)
  else
    if (qF q 6) ≤ x1 then
      some ((0 : Int32), q)
    else
      if (qF q 8) < (4 : Int32) then
        (wI q 42 4 (qF q 8) x1).bind fun q4 =>
        (wI q4 43 4 (qF q4 8) (vp_nar .boolean x2)).bind fun q6 =>
        some ((1 : Int32), (uF q6 8 ((qF q6 8) + (1 : Int32))))
      else
        some ((0 : Int32), q)
set_option maxHeartbeats 4000000 in
set_option maxRecDepth 100000 in
theorem g_X4_addOrder_0 {E : En} {p : Program} {l : Launch} {e : Env} {s : State} {m : MethodId} {args : Array Value} {below : List Frame} {meth : Method} {c : Code} {A : Nat → Prop} {Q : State → Prop} (F : Fx E p s m args meth c (yX4_addOrder).cls cX4_addOrder 3 (some .boolean)) (hA : ∀ z : Nat, s.heap.size ≤ z → A z) {o : Int32 × QS} (hRt : RtZ (wX E) E p l e rm_X4_addOrder s m args below meth c A Q cX4_addOrder o) (q : QS) (x1 : Int32) (x2 : Int32) (h : f_X4_addOrder_0 q x1 x2 = some o) (ls : Array Slot) (hl : lv_has ls 3 [(0, .ref (eA E 38)), (1, .int x1), (2, .int x2)]) : Wq (wX E) E p l e rm_X4_addOrder s m args below meth c A 0 0 Q q (F0 m 0 ls []) := by
  intro H locs hP hD hS
  have hx := F.1
  have hb := F.2.1
  unfold f_X4_addOrder_0 at h
  refine lv_iload_n hx hb dX4_addOrder_0 rfl (lv_at hl 1 rfl) ?_
  refine lv_if_lt (tgt := 20) hx hb dX4_addOrder_1 (by decide) (fun c1 => ?_) (fun c1 => ?_)
  · rw [if_pos c1] at h
    refine lv_iconst (v := 0) hx hb dX4_addOrder_20 (by decide) ?_
    cases h
    exact hRt _ _ zz_0 dX4_addOrder_21 _ _ hP hD hS
  · rw [if_neg c1] at h
    refine lv_iload_n hx hb dX4_addOrder_4 rfl (lv_at hl 1 rfl) ?_
    refine lv_aload_n hx hb dX4_addOrder_5 rfl (lv_at hl 0 rfl) ?_
    refine r_get F hP i_X4 38 (xe_38 E q) rfl 0 (by decide) rfl lf_X4_35 rfl dX4_addOrder_6 ?_
    refine lv_icmp_ge (tgt := 20) hx hb dX4_addOrder_9 (by decide) (fun c2 => ?_) (fun c2 => ?_)
    · rw [if_pos c2] at h
      refine lv_iconst (v := 0) hx hb dX4_addOrder_20 (by decide) ?_
      cases h
      exact hRt _ _ zz_0 dX4_addOrder_21 _ _ hP hD hS
    · rw [if_neg c2] at h
      refine lv_aload_n hx hb dX4_addOrder_12 rfl (lv_at hl 0 rfl) ?_
      refine r_get F hP i_X4 38 (xe_38 E q) rfl 2 (by decide) rfl lf_X4_41 rfl dX4_addOrder_13 ?_
      refine lv_iconst (v := 4) hx hb dX4_addOrder_16 (by decide) ?_
      refine lv_icmp_lt (tgt := 22) hx hb dX4_addOrder_17 (by decide) (fun c3 => ?_) (fun c3 => ?_)
      · rw [if_pos c3] at h
        refine lv_aload_n hx hb dX4_addOrder_22 rfl (lv_at hl 0 rfl) ?_
        refine r_get F hP i_X4 38 (xe_38 E q) rfl 9 (by decide) rfl lf_X4_21 rfl dX4_addOrder_23 ?_
        refine lv_aload_n hx hb dX4_addOrder_26 rfl (lv_at hl 0 rfl) ?_
        refine r_get F hP i_X4 38 (xe_38 E q) rfl 2 (by decide) rfl lf_X4_41 rfl dX4_addOrder_27 ?_
        refine lv_iload_n hx hb dX4_addOrder_30 rfl (lv_at hl 1 rfl) ?_
        obtain ⟨q4, e5, h⟩ := Option.bind_eq_some_iff.mp h
        refine r_iast F hP hD hS 42 (xe_42 E q) (xs_42 E q) e5 dX4_addOrder_31 ?_
        intro H locs hP hD hS
        refine lv_aload_n hx hb dX4_addOrder_32 rfl (lv_at hl 0 rfl) ?_
        refine r_get F hP i_X4 38 (xe_38 E q4) rfl 10 (by decide) rfl lf_X4_24 rfl dX4_addOrder_33 ?_
        refine lv_aload_n hx hb dX4_addOrder_36 rfl (lv_at hl 0 rfl) ?_
        refine r_get F hP i_X4 38 (xe_38 E q4) rfl 2 (by decide) rfl lf_X4_41 rfl dX4_addOrder_37 ?_
        refine lv_iload_n hx hb dX4_addOrder_40 rfl (lv_at hl 2 rfl) ?_
        obtain ⟨q6, e7, h⟩ := Option.bind_eq_some_iff.mp h
        refine r_zast F hP hD hS 43 (xe_43 E q4) (xs_43 E q4) e7 dX4_addOrder_41 ?_
        intro H locs hP hD hS
        refine lv_aload_n hx hb dX4_addOrder_42 rfl (lv_at hl 0 rfl) ?_
        refine lv_dup hx hb dX4_addOrder_43 rfl ?_
        refine r_get F hP i_X4 38 (xe_38 E q6) rfl 2 (by decide) rfl lf_X4_41 rfl dX4_addOrder_44 ?_
        refine lv_iconst (v := 1) hx hb dX4_addOrder_47 (by decide) ?_
        refine lv_iadd hx hb dX4_addOrder_48 ?_
        refine r_put (ty := .int) (q1 := (uF q6 8 ((qF q6 8) + (1 : Int32)))) F hP hD hS i_X4 tyX4_ok nmX4 38 (xe_38 E q6) rfl 2 (by decide) rfl lf_X4_41 rfl (by decide +kernel) rfl rfl (Nat.le_of_ble_eq_true rfl) (xf_38_8 E q6 ((qF q6 8) + (1 : Int32))) dX4_addOrder_49 ?_
        intro H locs hP hD hS
        refine lv_iconst (v := 1) hx hb dX4_addOrder_52 (by decide) ?_
        cases h
        exact hRt _ _ zz_1 dX4_addOrder_53 _ _ hP hD hS
      · rw [if_neg c3] at h
        refine lv_iconst (v := 0) hx hb dX4_addOrder_20 (by decide) ?_
        cases h
        exact hRt _ _ zz_0 dX4_addOrder_21 _ _ hP hD hS
def f_X4_addOrder (q : QS) (x1 : Int32) (x2 : Int32) : Option (Int32 × QS) := f_X4_addOrder_0 q x1 x2
set_option maxRecDepth 100000 in
theorem c_X4_addOrder {E : En} {l : Launch} (q : QS) (x1 : Int32) (x2 : Int32) {o : Int32 × QS} (h : f_X4_addOrder q x1 x2 = some o) : Ct (wX E) E l yX4_addOrder (wy yX4_addOrder cX4_addOrder 3 (some .boolean)) rm_X4_addOrder q o.2 [.ref (eA E 38), .int x1, .int x2] (some (.int o.1)) :=
  ct_Z (o := o) (by decide +kernel) (fun p e s m below meth c A Q F hA hRt H locs hP hD hS => en_W [.ref (eA E 38), .int x1, .int x2] (Nat.le_of_ble_eq_true rfl) (fun ls hl => g_X4_addOrder_0 F hA hRt q x1 x2 h ls (lv_sub hl [0, 1, 2] rfl) H locs hP hD hS))
def rm_X4_groupsBy : Room := { frames := 0, cells := 0, slots := 0, locals := 0 }
def f_X4_groupsBy_32 (q : QS) (B2 : Int32 → Int32 → Int32 → Option (Int32)) (x1 : Int32) (x2 : Int32) (x3 : Int32) : Option (Int32) :=
  B2 x1 x2 (x3 + (1 : Int32))
set_option maxHeartbeats 4000000 in
set_option maxRecDepth 100000 in
theorem g_X4_groupsBy_32 {E : En} {p : Program} {l : Launch} {e : Env} {s : State} {m : MethodId} {args : Array Value} {below : List Frame} {meth : Method} {c : Code} {A : Nat → Prop} {Q : State → Prop} (F : Fx E p s m args meth c (yX4_groupsBy).cls cX4_groupsBy 4 (some .boolean)) (hA : ∀ z : Nat, s.heap.size ≤ z → A z) {q : QS} {o : Int32} (hRt : RtZ (wX E) E p l e rm_X4_groupsBy s m args below meth c A Q cX4_groupsBy (o, q)) {B2 : Int32 → Int32 → Int32 → Option (Int32)} (hB2 : ∀ (x1 : Int32) (x2 : Int32) (x3 : Int32), B2 x1 x2 x3 = some o → ∀ ls : Array Slot, lv_has ls 4 [(0, .ref (eA E 38)), (1, .int x1), (2, .int x2), (3, .int x3)] → Wq (wX E) E p l e rm_X4_groupsBy s m args below meth c A 0 0 Q q (F0 m 2 ls [])) (x1 : Int32) (x2 : Int32) (x3 : Int32) (h : f_X4_groupsBy_32 q B2 x1 x2 x3 = some o) (ls : Array Slot) (hl : lv_has ls 4 [(0, .ref (eA E 38)), (1, .int x1), (2, .int x2), (3, .int x3)]) : Wq (wX E) E p l e rm_X4_groupsBy s m args below meth c A 0 0 Q q (F0 m 32 ls []) := by
  intro H locs hP hD hS
  have hx := F.1
  have hb := F.2.1
  unfold f_X4_groupsBy_32 at h
  refine lv_iinc (v := (x3 + (1 : Int32))) (lv' := [(3, .int (x3 + (1 : Int32))), (0, .ref (eA E 38)), (1, .int x1), (2, .int x2)]) hx hb dX4_groupsBy_32 hl (k := 3) rfl rfl (by decide) rfl (fun ls hl => ?_)
  refine lv_goto (tgt := 2) hx hb dX4_groupsBy_35 (by decide) ?_
  exact hB2 x1 x2 (x3 + (1 : Int32)) h _ (lv_sub hl [1, 2, 3, 0] rfl) _ _ hP hD hS
def f_X4_groupsBy_2_b (q : QS) (B2 : Int32 → Int32 → Int32 → Option (Int32)) (x1 : Int32) (x2 : Int32) (x3 : Int32) : Option (Int32) :=
  if (qF q 7) ≤ x3 then
    some (0 : Int32)
  else
    (rd (qI q 40) 4 x3).bind fun y2 =>
    if y2 = x1 then
      (rd (qI q 41) 4 x3).bind fun y5 =>
      if y5 = x2 then
        some (1 : Int32)
      else
        f_X4_groupsBy_32 q B2 x1 x2 x3
    else
      f_X4_groupsBy_32 q B2 x1 x2 x3
set_option maxHeartbeats 4000000 in
set_option maxRecDepth 100000 in
theorem g_X4_groupsBy_2_b {E : En} {p : Program} {l : Launch} {e : Env} {s : State} {m : MethodId} {args : Array Value} {below : List Frame} {meth : Method} {c : Code} {A : Nat → Prop} {Q : State → Prop} (F : Fx E p s m args meth c (yX4_groupsBy).cls cX4_groupsBy 4 (some .boolean)) (hA : ∀ z : Nat, s.heap.size ≤ z → A z) {q : QS} {o : Int32} (hRt : RtZ (wX E) E p l e rm_X4_groupsBy s m args below meth c A Q cX4_groupsBy (o, q)) {B2 : Int32 → Int32 → Int32 → Option (Int32)} (hB2 : ∀ (x1 : Int32) (x2 : Int32) (x3 : Int32), B2 x1 x2 x3 = some o → ∀ ls : Array Slot, lv_has ls 4 [(0, .ref (eA E 38)), (1, .int x1), (2, .int x2), (3, .int x3)] → Wq (wX E) E p l e rm_X4_groupsBy s m args below meth c A 0 0 Q q (F0 m 2 ls [])) (x1 : Int32) (x2 : Int32) (x3 : Int32) (h : f_X4_groupsBy_2_b q B2 x1 x2 x3 = some o) (ls : Array Slot) (hl : lv_has ls 4 [(0, .ref (eA E 38)), (1, .int x1), (2, .int x2), (3, .int x3)]) : Wq (wX E) E p l e rm_X4_groupsBy s m args below meth c A 0 0 Q q (F0 m 2 ls []) := by
  intro H locs hP hD hS
  have hx := F.1
  have hb := F.2.1
  unfold f_X4_groupsBy_2_b at h
  refine lv_iload_n hx hb dX4_groupsBy_2 rfl (lv_at hl 3 rfl) ?_
  refine lv_aload_n hx hb dX4_groupsBy_3 rfl (lv_at hl 0 rfl) ?_
  refine r_get F hP i_X4 38 (xe_38 E q) rfl 1 (by decide) rfl lf_X4_38 rfl dX4_groupsBy_4 ?_
  refine lv_icmp_ge (tgt := 38) hx hb dX4_groupsBy_7 (by decide) (fun c1 => ?_) (fun c1 => ?_)
  · rw [if_pos c1] at h
    refine lv_iconst (v := 0) hx hb dX4_groupsBy_38 (by decide) ?_
    cases h
    exact hRt _ _ zz_0 dX4_groupsBy_39 _ _ hP hD hS
  · rw [if_neg c1] at h
    refine lv_aload_n hx hb dX4_groupsBy_10 rfl (lv_at hl 0 rfl) ?_
    refine r_get F hP i_X4 38 (xe_38 E q) rfl 7 (by decide) rfl lf_X4_15 rfl dX4_groupsBy_11 ?_
    refine lv_iload_n hx hb dX4_groupsBy_14 rfl (lv_at hl 3 rfl) ?_
    obtain ⟨y2, e3, h⟩ := Option.bind_eq_some_iff.mp h
    refine r_iald F hP 40 (xe_40 E q) e3 dX4_groupsBy_15 ?_
    refine lv_iload_n hx hb dX4_groupsBy_16 rfl (lv_at hl 1 rfl) ?_
    refine lv_icmp_ne (tgt := 32) hx hb dX4_groupsBy_17 (by decide) (fun c4 => ?_) (fun c4 => ?_)
    · rw [if_neg c4] at h
      exact g_X4_groupsBy_32 F hA hRt hB2 x1 x2 x3 h _ (lv_sub hl [0, 1, 2, 3] rfl) _ _ hP hD hS
    · rw [if_pos c4] at h
      refine lv_aload_n hx hb dX4_groupsBy_20 rfl (lv_at hl 0 rfl) ?_
      refine r_get F hP i_X4 38 (xe_38 E q) rfl 8 (by decide) rfl lf_X4_18 rfl dX4_groupsBy_21 ?_
      refine lv_iload_n hx hb dX4_groupsBy_24 rfl (lv_at hl 3 rfl) ?_
      obtain ⟨y5, e6, h⟩ := Option.bind_eq_some_iff.mp h
      refine r_iald F hP 41 (xe_41 E q) e6 dX4_groupsBy_25 ?_
      refine lv_iload_n hx hb dX4_groupsBy_26 rfl (lv_at hl 2 rfl) ?_
      refine lv_icmp_ne (tgt := 32) hx hb dX4_groupsBy_27 (by decide) (fun c7 => ?_) (fun c7 => ?_)
      · rw [if_neg c7] at h
        exact g_X4_groupsBy_32 F hA hRt hB2 x1 x2 x3 h _ (lv_sub hl [0, 1, 2, 3] rfl) _ _ hP hD hS
      · rw [if_pos c7] at h
        refine lv_iconst (v := 1) hx hb dX4_groupsBy_30 (by decide) ?_
        cases h
        exact hRt _ _ zz_1 dX4_groupsBy_31 _ _ hP hD hS
def f_X4_groupsBy_2 (q : QS) : Nat → Int32 → Int32 → Int32 → Option (Int32)
  | 0 => fun _ _ _ => none
  | n + 1 => f_X4_groupsBy_2_b q (f_X4_groupsBy_2 q n)
theorem g_X4_groupsBy_2 {E : En} {p : Program} {l : Launch} {e : Env} {s : State} {m : MethodId} {args : Array Value} {below : List Frame} {meth : Method} {c : Code} {A : Nat → Prop} {Q : State → Prop} (F : Fx E p s m args meth c (yX4_groupsBy).cls cX4_groupsBy 4 (some .boolean)) (hA : ∀ z : Nat, s.heap.size ≤ z → A z) {q : QS} {o : Int32} (hRt : RtZ (wX E) E p l e rm_X4_groupsBy s m args below meth c A Q cX4_groupsBy (o, q)) (n : Nat) : ∀ (x1 : Int32) (x2 : Int32) (x3 : Int32), f_X4_groupsBy_2 q n x1 x2 x3 = some o → ∀ ls : Array Slot, lv_has ls 4 [(0, .ref (eA E 38)), (1, .int x1), (2, .int x2), (3, .int x3)] → Wq (wX E) E p l e rm_X4_groupsBy s m args below meth c A 0 0 Q q (F0 m 2 ls []) := by
  induction n with
  | zero => intro x1 x2 x3 h; cases h
  | succ n ih => intro x1 x2 x3 h; exact g_X4_groupsBy_2_b F hA hRt ih x1 x2 x3 h
def f_X4_groupsBy_0 (q : QS) (x1 : Int32) (x2 : Int32) : Option (Int32) :=
  f_X4_groupsBy_2 q FU x1 x2 (0 : Int32)
set_option maxHeartbeats 4000000 in
set_option maxRecDepth 100000 in
theorem g_X4_groupsBy_0 {E : En} {p : Program} {l : Launch} {e : Env} {s : State} {m : MethodId} {args : Array Value} {below : List Frame} {meth : Method} {c : Code} {A : Nat → Prop} {Q : State → Prop} (F : Fx E p s m args meth c (yX4_groupsBy).cls cX4_groupsBy 4 (some .boolean)) (hA : ∀ z : Nat, s.heap.size ≤ z → A z) {q : QS} {o : Int32} (hRt : RtZ (wX E) E p l e rm_X4_groupsBy s m args below meth c A Q cX4_groupsBy (o, q)) (x1 : Int32) (x2 : Int32) (h : f_X4_groupsBy_0 q x1 x2 = some o) (ls : Array Slot) (hl : lv_has ls 4 [(0, .ref (eA E 38)), (1, .int x1), (2, .int x2)]) : Wq (wX E) E p l e rm_X4_groupsBy s m args below meth c A 0 0 Q q (F0 m 0 ls []) := by
  intro H locs hP hD hS
  have hx := F.1
  have hb := F.2.1
  unfold f_X4_groupsBy_0 at h
  refine lv_iconst (v := 0) hx hb dX4_groupsBy_0 (by decide) ?_
  refine lv_istore_n (lv' := [(3, .int (0 : Int32)), (0, .ref (eA E 38)), (1, .int x1), (2, .int x2)]) hx hb dX4_groupsBy_1 rfl hl (by decide) rfl (fun ls hl => ?_)
  exact g_X4_groupsBy_2 F hA hRt FU x1 x2 (0 : Int32) h _ (lv_sub hl [1, 2, 3, 0] rfl) _ _ hP hD hS
def f_X4_groupsBy (q : QS) (x1 : Int32) (x2 : Int32) : Option (Int32) := f_X4_groupsBy_0 q x1 x2
set_option maxRecDepth 100000 in
theorem c_X4_groupsBy {E : En} {l : Launch} (q : QS) (x1 : Int32) (x2 : Int32) {o : Int32} (h : f_X4_groupsBy q x1 x2 = some o) : Ct (wX E) E l yX4_groupsBy (wy yX4_groupsBy cX4_groupsBy 4 (some .boolean)) rm_X4_groupsBy q q [.ref (eA E 38), .int x1, .int x2] (some (.int o)) :=
  ct_Z (o := (o, q)) (by decide +kernel) (fun p e s m below meth c A Q F hA hRt H locs hP hD hS => en_W [.ref (eA E 38), .int x1, .int x2] (Nat.le_of_ble_eq_true rfl) (fun ls hl => g_X4_groupsBy_0 F hA hRt x1 x2 h ls (lv_sub hl [0, 1, 2] rfl) H locs hP hD hS))
def rm_X4_cutToLimit : Room := { frames := 1, cells := 0, slots := 0, locals := 21 }
def f_X4_cutToLimit_0 (q : QS) (x1 : Int32) : Option (Int32) :=
  if (qF q 10) = (-1 : Int32) then
    some x1
  else
    (f_J9_min_7cf53 x1 (qF q 10)).bind fun r2 =>
    some r2
set_option maxHeartbeats 4000000 in
set_option maxRecDepth 100000 in
theorem g_X4_cutToLimit_0 {E : En} {p : Program} {l : Launch} {e : Env} {s : State} {m : MethodId} {args : Array Value} {below : List Frame} {meth : Method} {c : Code} {A : Nat → Prop} {Q : State → Prop} (F : Fx E p s m args meth c (yX4_cutToLimit).cls cX4_cutToLimit 2 (some .int)) (hA : ∀ z : Nat, s.heap.size ≤ z → A z) {q : QS} {o : Int32} (hRt : RtI (wX E) E p l e rm_X4_cutToLimit s m args below meth c A Q cX4_cutToLimit (o, q)) (x1 : Int32) (h : f_X4_cutToLimit_0 q x1 = some o) (ls : Array Slot) (hl : lv_has ls 2 [(0, .ref (eA E 38)), (1, .int x1)]) : Wq (wX E) E p l e rm_X4_cutToLimit s m args below meth c A 0 0 Q q (F0 m 0 ls []) := by
  intro H locs hP hD hS
  have hx := F.1
  have hb := F.2.1
  unfold f_X4_cutToLimit_0 at h
  refine lv_aload_n hx hb dX4_cutToLimit_0 rfl (lv_at hl 0 rfl) ?_
  refine r_get F hP i_X4 38 (xe_38 E q) rfl 4 (by decide) rfl lf_X4_32 rfl dX4_cutToLimit_1 ?_
  refine lv_iconst (v := (-1)) hx hb dX4_cutToLimit_4 (by decide) ?_
  refine lv_icmp_ne (tgt := 12) hx hb dX4_cutToLimit_5 (by decide) (fun c1 => ?_) (fun c1 => ?_)
  · rw [if_neg c1] at h
    refine lv_iload_n hx hb dX4_cutToLimit_12 rfl (lv_at hl 1 rfl) ?_
    refine lv_aload_n hx hb dX4_cutToLimit_13 rfl (lv_at hl 0 rfl) ?_
    refine r_get F hP i_X4 38 (xe_38 E q) rfl 4 (by decide) rfl lf_X4_32 rfl dX4_cutToLimit_14 ?_
    obtain ⟨r2, e3, h⟩ := Option.bind_eq_some_iff.mp h
    refine q_callS (As := [.int x1, .int (qF q 10)]) (rest := []) F hA hP hD hS (c_J9_min_7cf53 (E := E) (l := l) q x1 (qF q 10) e3) k_J9_min_7cf53 st_J9_min_7cf53 lm_X4_48 ⟨rfl, rfl⟩ ⟨by decide, by decide⟩ rfl hl.1 rfl (Nat.le_of_ble_eq_true rfl) dX4_cutToLimit_17 ⟨by decide, by decide⟩ ?_
    intro H locs hP hD hS
    cases h
    exact hRt _ _ dX4_cutToLimit_20 _ _ hP hD hS
  · rw [if_pos c1] at h
    refine lv_iload_n hx hb dX4_cutToLimit_8 rfl (lv_at hl 1 rfl) ?_
    refine lv_goto (tgt := 20) hx hb dX4_cutToLimit_9 (by decide) ?_
    cases h
    exact hRt _ _ dX4_cutToLimit_20 _ _ hP hD hS
def f_X4_cutToLimit (q : QS) (x1 : Int32) : Option (Int32) := f_X4_cutToLimit_0 q x1
set_option maxRecDepth 100000 in
theorem c_X4_cutToLimit {E : En} {l : Launch} (q : QS) (x1 : Int32) {o : Int32} (h : f_X4_cutToLimit q x1 = some o) : Ct (wX E) E l yX4_cutToLimit (wy yX4_cutToLimit cX4_cutToLimit 2 (some .int)) rm_X4_cutToLimit q q [.ref (eA E 38), .int x1] (some (.int o)) :=
  ct_I (o := (o, q)) (by decide +kernel) rfl (fun p e s m below meth c A Q F hA hRt H locs hP hD hS => en_W [.ref (eA E 38), .int x1] (Nat.le_of_ble_eq_true rfl) (fun ls hl => g_X4_cutToLimit_0 F hA hRt x1 h ls (lv_sub hl [0, 1] rfl) H locs hP hD hS))
def rm_X5_combine : Room := { frames := 0, cells := 0, slots := 0, locals := 0 }
def f_X5_combine_0 (x0 : Int32) (x1 : Int32) (x2 : Int32) : Option (Int32) :=
  some ((((x0 * (40 : Int32)) + x1) * (40 : Int32)) + x2)
set_option maxHeartbeats 4000000 in
set_option maxRecDepth 100000 in
theorem g_X5_combine_0 {E : En} {p : Program} {l : Launch} {e : Env} {s : State} {m : MethodId} {args : Array Value} {below : List Frame} {meth : Method} {c : Code} {A : Nat → Prop} {Q : State → Prop} (F : Fx E p s m args meth c (yX5_combine).cls cX5_combine 3 (some .int)) (hA : ∀ z : Nat, s.heap.size ≤ z → A z) {q : QS} {o : Int32} (hRt : RtI (wX E) E p l e rm_X5_combine s m args below meth c A Q cX5_combine (o, q)) (x0 : Int32) (x1 : Int32) (x2 : Int32) (h : f_X5_combine_0 x0 x1 x2 = some o) (ls : Array Slot) (hl : lv_has ls 3 [(0, .int x0), (1, .int x1), (2, .int x2)]) : Wq (wX E) E p l e rm_X5_combine s m args below meth c A 0 0 Q q (F0 m 0 ls []) := by
  intro H locs hP hD hS
  have hx := F.1
  have hb := F.2.1
  unfold f_X5_combine_0 at h
  refine lv_iload_n hx hb dX5_combine_0 rfl (lv_at hl 0 rfl) ?_
  refine lv_bipush (v := 40) hx hb dX5_combine_1 (by decide) ?_
  refine lv_imul hx hb dX5_combine_3 ?_
  refine lv_iload_n hx hb dX5_combine_4 rfl (lv_at hl 1 rfl) ?_
  refine lv_iadd hx hb dX5_combine_5 ?_
  refine lv_bipush (v := 40) hx hb dX5_combine_6 (by decide) ?_
  refine lv_imul hx hb dX5_combine_8 ?_
  refine lv_iload_n hx hb dX5_combine_9 rfl (lv_at hl 2 rfl) ?_
  refine lv_iadd hx hb dX5_combine_10 ?_
  cases h
  exact hRt _ _ dX5_combine_11 _ _ hP hD hS
def f_X5_combine (x0 : Int32) (x1 : Int32) (x2 : Int32) : Option (Int32) := f_X5_combine_0 x0 x1 x2
set_option maxRecDepth 100000 in
theorem c_X5_combine {E : En} {l : Launch} (q : QS) (x0 : Int32) (x1 : Int32) (x2 : Int32) {o : Int32} (h : f_X5_combine x0 x1 x2 = some o) : Ct (wX E) E l yX5_combine (wy yX5_combine cX5_combine 3 (some .int)) rm_X5_combine q q [.int x0, .int x1, .int x2] (some (.int o)) :=
  ct_I (o := (o, q)) (by decide +kernel) rfl (fun p e s m below meth c A Q F hA hRt H locs hP hD hS => en_W [.int x0, .int x1, .int x2] (Nat.le_of_ble_eq_true rfl) (fun ls hl => g_X5_combine_0 F hA hRt x0 x1 x2 h ls (lv_sub hl [0, 1, 2] rfl) H locs hP hD hS))
def rm_X5_rowIn : Room := { frames := 0, cells := 0, slots := 0, locals := 0 }
def f_X5_rowIn_0 (x0 : Int32) (x1 : Int32) : Option (Int32) :=
  if x1 = 0 then
    some (x0 / (1600 : Int32))
  else
    if x1 = (1 : Int32) then
      some ((x0 / (40 : Int32)) - (x0 / (40 : Int32)) / (40 : Int32) * (40 : Int32))
    else
      some (x0 - x0 / (40 : Int32) * (40 : Int32))
set_option maxHeartbeats 4000000 in
set_option maxRecDepth 100000 in
theorem g_X5_rowIn_0 {E : En} {p : Program} {l : Launch} {e : Env} {s : State} {m : MethodId} {args : Array Value} {below : List Frame} {meth : Method} {c : Code} {A : Nat → Prop} {Q : State → Prop} (F : Fx E p s m args meth c (yX5_rowIn).cls cX5_rowIn 2 (some .int)) (hA : ∀ z : Nat, s.heap.size ≤ z → A z) {q : QS} {o : Int32} (hRt : RtI (wX E) E p l e rm_X5_rowIn s m args below meth c A Q cX5_rowIn (o, q)) (x0 : Int32) (x1 : Int32) (h : f_X5_rowIn_0 x0 x1 = some o) (ls : Array Slot) (hl : lv_has ls 2 [(0, .int x0), (1, .int x1)]) : Wq (wX E) E p l e rm_X5_rowIn s m args below meth c A 0 0 Q q (F0 m 0 ls []) := by
  intro H locs hP hD hS
  have hx := F.1
  have hb := F.2.1
  unfold f_X5_rowIn_0 at h
  refine lv_iload_n hx hb dX5_rowIn_0 rfl (lv_at hl 1 rfl) ?_
  refine lv_if_ne (tgt := 10) hx hb dX5_rowIn_1 (by decide) (fun c1 => ?_) (fun c1 => ?_)
  · rw [if_neg c1] at h
    refine lv_iload_n hx hb dX5_rowIn_10 rfl (lv_at hl 1 rfl) ?_
    refine lv_iconst (v := 1) hx hb dX5_rowIn_11 (by decide) ?_
    refine lv_icmp_ne (tgt := 22) hx hb dX5_rowIn_12 (by decide) (fun c2 => ?_) (fun c2 => ?_)
    · rw [if_neg c2] at h
      refine lv_iload_n hx hb dX5_rowIn_22 rfl (lv_at hl 0 rfl) ?_
      refine lv_bipush (v := 40) hx hb dX5_rowIn_23 (by decide) ?_
      refine lv_irem hx hb dX5_rowIn_25 (by decide) ?_
      cases h
      exact hRt _ _ dX5_rowIn_26 _ _ hP hD hS
    · rw [if_pos c2] at h
      refine lv_iload_n hx hb dX5_rowIn_15 rfl (lv_at hl 0 rfl) ?_
      refine lv_bipush (v := 40) hx hb dX5_rowIn_16 (by decide) ?_
      refine lv_idiv hx hb dX5_rowIn_18 (by decide) ?_
      refine lv_goto (tgt := 23) hx hb dX5_rowIn_19 (by decide) ?_
      refine lv_bipush (v := 40) hx hb dX5_rowIn_23 (by decide) ?_
      refine lv_irem hx hb dX5_rowIn_25 (by decide) ?_
      cases h
      exact hRt _ _ dX5_rowIn_26 _ _ hP hD hS
  · rw [if_pos c1] at h
    refine lv_iload_n hx hb dX5_rowIn_4 rfl (lv_at hl 0 rfl) ?_
    refine lv_sipush (v := 1600) hx hb dX5_rowIn_5 (by decide) ?_
    refine lv_idiv hx hb dX5_rowIn_8 (by decide) ?_
    cases h
    exact hRt _ _ dX5_rowIn_9 _ _ hP hD hS
def f_X5_rowIn (x0 : Int32) (x1 : Int32) : Option (Int32) := f_X5_rowIn_0 x0 x1
set_option maxRecDepth 100000 in
theorem c_X5_rowIn {E : En} {l : Launch} (q : QS) (x0 : Int32) (x1 : Int32) {o : Int32} (h : f_X5_rowIn x0 x1 = some o) : Ct (wX E) E l yX5_rowIn (wy yX5_rowIn cX5_rowIn 2 (some .int)) rm_X5_rowIn q q [.int x0, .int x1] (some (.int o)) :=
  ct_I (o := (o, q)) (by decide +kernel) rfl (fun p e s m below meth c A Q F hA hRt H locs hP hD hS => en_W [.int x0, .int x1] (Nat.le_of_ble_eq_true rfl) (fun ls hl => g_X5_rowIn_0 F hA hRt x0 x1 h ls (lv_sub hl [0, 1] rfl) H locs hP hD hS))
def rm_X5_emptyBuckets : Room := { frames := 1, cells := 0, slots := 0, locals := 23 }
def f_X5_emptyBuckets_0 (q : QS) : Option (QS) :=
  (f_J7_fill_53178 56 (fun z => (qC z)) q (-1 : Int32)).bind fun r1 =>
  some r1
set_option maxHeartbeats 4000000 in
set_option maxRecDepth 100000 in
theorem g_X5_emptyBuckets_0 {E : En} {p : Program} {l : Launch} {e : Env} {s : State} {m : MethodId} {args : Array Value} {below : List Frame} {meth : Method} {c : Code} {A : Nat → Prop} {Q : State → Prop} (F : Fx E p s m args meth c (yX5_emptyBuckets).cls cX5_emptyBuckets 1 none) (hA : ∀ z : Nat, s.heap.size ≤ z → A z) {o : QS} (hRt : RtV (wX E) E p l e rm_X5_emptyBuckets s m args below meth c A Q cX5_emptyBuckets o) (q : QS) (h : f_X5_emptyBuckets_0 q = some o) (ls : Array Slot) (hl : lv_has ls 1 [(0, .ref (eA E 49))]) : Wq (wX E) E p l e rm_X5_emptyBuckets s m args below meth c A 0 0 Q q (F0 m 0 ls []) := by
  intro H locs hP hD hS
  have hx := F.1
  have hb := F.2.1
  unfold f_X5_emptyBuckets_0 at h
  refine lv_aload_n hx hb dX5_emptyBuckets_0 rfl (lv_at hl 0 rfl) ?_
  refine r_get F hP i_X5 49 (xe_49 E q) rfl 7 (by decide) rfl lf_X5_34 rfl dX5_emptyBuckets_1 ?_
  refine lv_iconst (v := (-1)) hx hb dX5_emptyBuckets_4 (by decide) ?_
  obtain ⟨r1, e2, h⟩ := Option.bind_eq_some_iff.mp h
  refine q_callS (As := [.ref (eA E 56), .int (-1 : Int32)]) (rest := []) F hA hP hD hS (c_J7_fill_53178 (E := E) (l := l) (k := 56) (nf := fun z => (qC z)) (fun z => (xe_56 E z)) (fun z => (xs_56 E z)) q (-1 : Int32) e2) k_J7_fill_53178 st_J7_fill_53178 lm_X5_49 ⟨rfl, rfl⟩ ⟨by decide, by decide⟩ rfl hl.1 rfl (Nat.le_of_ble_eq_true rfl) dX5_emptyBuckets_5 ⟨by decide, by decide⟩ ?_
  intro H locs hP hD hS
  cases h
  exact hRt _ _ dX5_emptyBuckets_8 _ _ hP hD hS
def f_X5_emptyBuckets (q : QS) : Option (QS) := f_X5_emptyBuckets_0 q
set_option maxRecDepth 100000 in
theorem c_X5_emptyBuckets {E : En} {l : Launch} (q : QS) {o : QS} (h : f_X5_emptyBuckets q = some o) : Ct (wX E) E l yX5_emptyBuckets (wy yX5_emptyBuckets cX5_emptyBuckets 1 none) rm_X5_emptyBuckets q o [.ref (eA E 49)] none :=
  ct_V (o := o) (by decide +kernel) (fun p e s m below meth c A Q F hA hRt H locs hP hD hS => en_W [.ref (eA E 49)] (Nat.le_of_ble_eq_true rfl) (fun ls hl => g_X5_emptyBuckets_0 F hA hRt q h ls (lv_sub hl [0] rfl) H locs hP hD hS))
def rm_X5_bucketOf : Room := { frames := 1, cells := 0, slots := 0, locals := 25 }
def f_X5_bucketOf_0 (q : QS) (x1 : Int64) : Option (Int32) :=
  (f_J9_floorMod_f86c9 x1 (((qF q 12)).toInt64)).bind fun r1 =>
  some ((r1).toInt32)
set_option maxHeartbeats 4000000 in
set_option maxRecDepth 100000 in
theorem g_X5_bucketOf_0 {E : En} {p : Program} {l : Launch} {e : Env} {s : State} {m : MethodId} {args : Array Value} {below : List Frame} {meth : Method} {c : Code} {A : Nat → Prop} {Q : State → Prop} (F : Fx E p s m args meth c (yX5_bucketOf).cls cX5_bucketOf 3 (some .int)) (hA : ∀ z : Nat, s.heap.size ≤ z → A z) {q : QS} {o : Int32} (hRt : RtI (wX E) E p l e rm_X5_bucketOf s m args below meth c A Q cX5_bucketOf (o, q)) (x1 : Int64) (h : f_X5_bucketOf_0 q x1 = some o) (ls : Array Slot) (hl : lv_has ls 3 [(0, .ref (eA E 49)), (1, .long x1)]) : Wq (wX E) E p l e rm_X5_bucketOf s m args below meth c A 0 0 Q q (F0 m 0 ls []) := by
  intro H locs hP hD hS
  have hx := F.1
  have hb := F.2.1
  unfold f_X5_bucketOf_0 at h
  refine lv_lload_n hx hb dX5_bucketOf_0 rfl (lv_at hl 1 rfl) ?_
  refine lv_aload_n hx hb dX5_bucketOf_1 rfl (lv_at hl 0 rfl) ?_
  refine r_get F hP i_X5 49 (xe_49 E q) rfl 0 (by decide) rfl lf_X5_9 rfl dX5_bucketOf_2 ?_
  refine lv_i2l (v := (((qF q 12)).toInt64)) hx hb dX5_bucketOf_5 rfl ?_
  obtain ⟨r1, e2, h⟩ := Option.bind_eq_some_iff.mp h
  refine q_callS (As := [.long x1, .long (((qF q 12)).toInt64)]) (rest := []) F hA hP hD hS (c_J9_floorMod_f86c9 (E := E) (l := l) q x1 (((qF q 12)).toInt64) e2) k_J9_floorMod_f86c9 st_J9_floorMod_f86c9 lm_X5_55 ⟨rfl, rfl⟩ ⟨by decide, by decide⟩ rfl hl.1 rfl (Nat.le_of_ble_eq_true rfl) dX5_bucketOf_6 ⟨by decide, by decide⟩ ?_
  intro H locs hP hD hS
  refine lv_l2i (v := ((r1).toInt32)) hx hb dX5_bucketOf_9 rfl ?_
  cases h
  exact hRt _ _ dX5_bucketOf_10 _ _ hP hD hS
def f_X5_bucketOf (q : QS) (x1 : Int64) : Option (Int32) := f_X5_bucketOf_0 q x1
set_option maxRecDepth 100000 in
theorem c_X5_bucketOf {E : En} {l : Launch} (q : QS) (x1 : Int64) {o : Int32} (h : f_X5_bucketOf q x1 = some o) : Ct (wX E) E l yX5_bucketOf (wy yX5_bucketOf cX5_bucketOf 3 (some .int)) rm_X5_bucketOf q q [.ref (eA E 49), .long x1] (some (.int o)) :=
  ct_I (o := (o, q)) (by decide +kernel) rfl (fun p e s m below meth c A Q F hA hRt H locs hP hD hS => en_W [.ref (eA E 49), .long x1] (Nat.le_of_ble_eq_true rfl) (fun ls hl => g_X5_bucketOf_0 F hA hRt x1 h ls (lv_sub hl [0, 1] rfl) H locs hP hD hS))
def rm_X5_putInBucket : Room := { frames := 0, cells := 0, slots := 0, locals := 0 }
def f_X5_putInBucket_0 (q : QS) (x1 : Int32) (x2 : Int32) : Option (QS) :=
  (rd (qI q 56) (qC q) x2).bind fun y1 =>
  (wI q 57 (qC q) x1 y1).bind fun q3 =>
  (wI q3 56 (qC q3) x2 x1).bind fun q5 =>
  some q5
set_option maxHeartbeats 4000000 in
set_option maxRecDepth 100000 in
theorem g_X5_putInBucket_0 {E : En} {p : Program} {l : Launch} {e : Env} {s : State} {m : MethodId} {args : Array Value} {below : List Frame} {meth : Method} {c : Code} {A : Nat → Prop} {Q : State → Prop} (F : Fx E p s m args meth c (yX5_putInBucket).cls cX5_putInBucket 3 none) (hA : ∀ z : Nat, s.heap.size ≤ z → A z) {o : QS} (hRt : RtV (wX E) E p l e rm_X5_putInBucket s m args below meth c A Q cX5_putInBucket o) (q : QS) (x1 : Int32) (x2 : Int32) (h : f_X5_putInBucket_0 q x1 x2 = some o) (ls : Array Slot) (hl : lv_has ls 3 [(0, .ref (eA E 49)), (1, .int x1), (2, .int x2)]) : Wq (wX E) E p l e rm_X5_putInBucket s m args below meth c A 0 0 Q q (F0 m 0 ls []) := by
  intro H locs hP hD hS
  have hx := F.1
  have hb := F.2.1
  unfold f_X5_putInBucket_0 at h
  refine lv_aload_n hx hb dX5_putInBucket_0 rfl (lv_at hl 0 rfl) ?_
  refine r_get F hP i_X5 49 (xe_49 E q) rfl 8 (by decide) rfl lf_X5_37 rfl dX5_putInBucket_1 ?_
  refine lv_iload_n hx hb dX5_putInBucket_4 rfl (lv_at hl 1 rfl) ?_
  refine lv_aload_n hx hb dX5_putInBucket_5 rfl (lv_at hl 0 rfl) ?_
  refine r_get F hP i_X5 49 (xe_49 E q) rfl 7 (by decide) rfl lf_X5_34 rfl dX5_putInBucket_6 ?_
  refine lv_iload_n hx hb dX5_putInBucket_9 rfl (lv_at hl 2 rfl) ?_
  obtain ⟨y1, e2, h⟩ := Option.bind_eq_some_iff.mp h
  refine r_iald F hP 56 (xe_56 E q) e2 dX5_putInBucket_10 ?_
  obtain ⟨q3, e4, h⟩ := Option.bind_eq_some_iff.mp h
  refine r_iast F hP hD hS 57 (xe_57 E q) (xs_57 E q) e4 dX5_putInBucket_11 ?_
  intro H locs hP hD hS
  refine lv_aload_n hx hb dX5_putInBucket_12 rfl (lv_at hl 0 rfl) ?_
  refine r_get F hP i_X5 49 (xe_49 E q3) rfl 7 (by decide) rfl lf_X5_34 rfl dX5_putInBucket_13 ?_
  refine lv_iload_n hx hb dX5_putInBucket_16 rfl (lv_at hl 2 rfl) ?_
  refine lv_iload_n hx hb dX5_putInBucket_17 rfl (lv_at hl 1 rfl) ?_
  obtain ⟨q5, e6, h⟩ := Option.bind_eq_some_iff.mp h
  refine r_iast F hP hD hS 56 (xe_56 E q3) (xs_56 E q3) e6 dX5_putInBucket_18 ?_
  intro H locs hP hD hS
  cases h
  exact hRt _ _ dX5_putInBucket_19 _ _ hP hD hS
def f_X5_putInBucket (q : QS) (x1 : Int32) (x2 : Int32) : Option (QS) := f_X5_putInBucket_0 q x1 x2
set_option maxRecDepth 100000 in
theorem c_X5_putInBucket {E : En} {l : Launch} (q : QS) (x1 : Int32) (x2 : Int32) {o : QS} (h : f_X5_putInBucket q x1 x2 = some o) : Ct (wX E) E l yX5_putInBucket (wy yX5_putInBucket cX5_putInBucket 3 none) rm_X5_putInBucket q o [.ref (eA E 49), .int x1, .int x2] none :=
  ct_V (o := o) (by decide +kernel) (fun p e s m below meth c A Q F hA hRt H locs hP hD hS => en_W [.ref (eA E 49), .int x1, .int x2] (Nat.le_of_ble_eq_true rfl) (fun ls hl => g_X5_putInBucket_0 F hA hRt q x1 x2 h ls (lv_sub hl [0, 1, 2] rfl) H locs hP hD hS))
def rm_X5_startRow : Room := { frames := 0, cells := 0, slots := 0, locals := 0 }
def f_X5_startRow_0 (q : QS) (x1 : Int32) (x2 : Int32) : Option (QS) :=
  (wI q 52 (qC q) x1 x2).bind fun q1 =>
  (wI q1 53 (qC q1) x1 x2).bind fun q3 =>
  if x2 = (-1 : Int32) then
    some q3
  else
    (wI q3 51 (qC q3) x2 (-1 : Int32)).bind fun q6 =>
    some q6
set_option maxHeartbeats 4000000 in
set_option maxRecDepth 100000 in
theorem g_X5_startRow_0 {E : En} {p : Program} {l : Launch} {e : Env} {s : State} {m : MethodId} {args : Array Value} {below : List Frame} {meth : Method} {c : Code} {A : Nat → Prop} {Q : State → Prop} (F : Fx E p s m args meth c (yX5_startRow).cls cX5_startRow 3 none) (hA : ∀ z : Nat, s.heap.size ≤ z → A z) {o : QS} (hRt : RtV (wX E) E p l e rm_X5_startRow s m args below meth c A Q cX5_startRow o) (q : QS) (x1 : Int32) (x2 : Int32) (h : f_X5_startRow_0 q x1 x2 = some o) (ls : Array Slot) (hl : lv_has ls 3 [(0, .ref (eA E 49)), (1, .int x1), (2, .int x2)]) : Wq (wX E) E p l e rm_X5_startRow s m args below meth c A 0 0 Q q (F0 m 0 ls []) := by
  intro H locs hP hD hS
  have hx := F.1
  have hb := F.2.1
  unfold f_X5_startRow_0 at h
  refine lv_aload_n hx hb dX5_startRow_0 rfl (lv_at hl 0 rfl) ?_
  refine r_get F hP i_X5 49 (xe_49 E q) rfl 3 (by decide) rfl lf_X5_22 rfl dX5_startRow_1 ?_
  refine lv_iload_n hx hb dX5_startRow_4 rfl (lv_at hl 1 rfl) ?_
  refine lv_iload_n hx hb dX5_startRow_5 rfl (lv_at hl 2 rfl) ?_
  obtain ⟨q1, e2, h⟩ := Option.bind_eq_some_iff.mp h
  refine r_iast F hP hD hS 52 (xe_52 E q) (xs_52 E q) e2 dX5_startRow_6 ?_
  intro H locs hP hD hS
  refine lv_aload_n hx hb dX5_startRow_7 rfl (lv_at hl 0 rfl) ?_
  refine r_get F hP i_X5 49 (xe_49 E q1) rfl 4 (by decide) rfl lf_X5_25 rfl dX5_startRow_8 ?_
  refine lv_iload_n hx hb dX5_startRow_11 rfl (lv_at hl 1 rfl) ?_
  refine lv_iload_n hx hb dX5_startRow_12 rfl (lv_at hl 2 rfl) ?_
  obtain ⟨q3, e4, h⟩ := Option.bind_eq_some_iff.mp h
  refine r_iast F hP hD hS 53 (xe_53 E q1) (xs_53 E q1) e4 dX5_startRow_13 ?_
  intro H locs hP hD hS
  refine lv_iload_n hx hb dX5_startRow_14 rfl (lv_at hl 2 rfl) ?_
  refine lv_iconst (v := (-1)) hx hb dX5_startRow_15 (by decide) ?_
  refine lv_icmp_eq (tgt := 26) hx hb dX5_startRow_16 (by decide) (fun c5 => ?_) (fun c5 => ?_)
  · rw [if_pos c5] at h
    cases h
    exact hRt _ _ dX5_startRow_26 _ _ hP hD hS
  · rw [if_neg c5] at h
    refine lv_aload_n hx hb dX5_startRow_19 rfl (lv_at hl 0 rfl) ?_
    refine r_get F hP i_X5 49 (xe_49 E q3) rfl 2 (by decide) rfl lf_X5_19 rfl dX5_startRow_20 ?_
    refine lv_iload_n hx hb dX5_startRow_23 rfl (lv_at hl 2 rfl) ?_
    refine lv_iconst (v := (-1)) hx hb dX5_startRow_24 (by decide) ?_
    obtain ⟨q6, e7, h⟩ := Option.bind_eq_some_iff.mp h
    refine r_iast F hP hD hS 51 (xe_51 E q3) (xs_51 E q3) e7 dX5_startRow_25 ?_
    intro H locs hP hD hS
    cases h
    exact hRt _ _ dX5_startRow_26 _ _ hP hD hS
def f_X5_startRow (q : QS) (x1 : Int32) (x2 : Int32) : Option (QS) := f_X5_startRow_0 q x1 x2
set_option maxRecDepth 100000 in
theorem c_X5_startRow {E : En} {l : Launch} (q : QS) (x1 : Int32) (x2 : Int32) {o : QS} (h : f_X5_startRow q x1 x2 = some o) : Ct (wX E) E l yX5_startRow (wy yX5_startRow cX5_startRow 3 none) rm_X5_startRow q o [.ref (eA E 49), .int x1, .int x2] none :=
  ct_V (o := o) (by decide +kernel) (fun p e s m below meth c A Q F hA hRt H locs hP hD hS => en_W [.ref (eA E 49), .int x1, .int x2] (Nat.le_of_ble_eq_true rfl) (fun ls hl => g_X5_startRow_0 F hA hRt q x1 x2 h ls (lv_sub hl [0, 1, 2] rfl) H locs hP hD hS))
def rm_X5_extendRow : Room := { frames := 0, cells := 0, slots := 0, locals := 0 }
def f_X5_extendRow_0 (q : QS) (x1 : Int32) (x2 : Int32) : Option (QS) :=
  (wI q 51 (qC q) x2 (-1 : Int32)).bind fun q1 =>
  (rd (qI q1 53) (qC q1) x1).bind fun y3 =>
  (wI q1 51 (qC q1) y3 x2).bind fun q5 =>
  (wI q5 53 (qC q5) x1 x2).bind fun q7 =>
  some q7
set_option maxHeartbeats 4000000 in
set_option maxRecDepth 100000 in
theorem g_X5_extendRow_0 {E : En} {p : Program} {l : Launch} {e : Env} {s : State} {m : MethodId} {args : Array Value} {below : List Frame} {meth : Method} {c : Code} {A : Nat → Prop} {Q : State → Prop} (F : Fx E p s m args meth c (yX5_extendRow).cls cX5_extendRow 3 none) (hA : ∀ z : Nat, s.heap.size ≤ z → A z) {o : QS} (hRt : RtV (wX E) E p l e rm_X5_extendRow s m args below meth c A Q cX5_extendRow o) (q : QS) (x1 : Int32) (x2 : Int32) (h : f_X5_extendRow_0 q x1 x2 = some o) (ls : Array Slot) (hl : lv_has ls 3 [(0, .ref (eA E 49)), (1, .int x1), (2, .int x2)]) : Wq (wX E) E p l e rm_X5_extendRow s m args below meth c A 0 0 Q q (F0 m 0 ls []) := by
  intro H locs hP hD hS
  have hx := F.1
  have hb := F.2.1
  unfold f_X5_extendRow_0 at h
  refine lv_aload_n hx hb dX5_extendRow_0 rfl (lv_at hl 0 rfl) ?_
  refine r_get F hP i_X5 49 (xe_49 E q) rfl 2 (by decide) rfl lf_X5_19 rfl dX5_extendRow_1 ?_
  refine lv_iload_n hx hb dX5_extendRow_4 rfl (lv_at hl 2 rfl) ?_
  refine lv_iconst (v := (-1)) hx hb dX5_extendRow_5 (by decide) ?_
  obtain ⟨q1, e2, h⟩ := Option.bind_eq_some_iff.mp h
  refine r_iast F hP hD hS 51 (xe_51 E q) (xs_51 E q) e2 dX5_extendRow_6 ?_
  intro H locs hP hD hS
  refine lv_aload_n hx hb dX5_extendRow_7 rfl (lv_at hl 0 rfl) ?_
  refine r_get F hP i_X5 49 (xe_49 E q1) rfl 2 (by decide) rfl lf_X5_19 rfl dX5_extendRow_8 ?_
  refine lv_aload_n hx hb dX5_extendRow_11 rfl (lv_at hl 0 rfl) ?_
  refine r_get F hP i_X5 49 (xe_49 E q1) rfl 4 (by decide) rfl lf_X5_25 rfl dX5_extendRow_12 ?_
  refine lv_iload_n hx hb dX5_extendRow_15 rfl (lv_at hl 1 rfl) ?_
  obtain ⟨y3, e4, h⟩ := Option.bind_eq_some_iff.mp h
  refine r_iald F hP 53 (xe_53 E q1) e4 dX5_extendRow_16 ?_
  refine lv_iload_n hx hb dX5_extendRow_17 rfl (lv_at hl 2 rfl) ?_
  obtain ⟨q5, e6, h⟩ := Option.bind_eq_some_iff.mp h
  refine r_iast F hP hD hS 51 (xe_51 E q1) (xs_51 E q1) e6 dX5_extendRow_18 ?_
  intro H locs hP hD hS
  refine lv_aload_n hx hb dX5_extendRow_19 rfl (lv_at hl 0 rfl) ?_
  refine r_get F hP i_X5 49 (xe_49 E q5) rfl 4 (by decide) rfl lf_X5_25 rfl dX5_extendRow_20 ?_
  refine lv_iload_n hx hb dX5_extendRow_23 rfl (lv_at hl 1 rfl) ?_
  refine lv_iload_n hx hb dX5_extendRow_24 rfl (lv_at hl 2 rfl) ?_
  obtain ⟨q7, e8, h⟩ := Option.bind_eq_some_iff.mp h
  refine r_iast F hP hD hS 53 (xe_53 E q5) (xs_53 E q5) e8 dX5_extendRow_25 ?_
  intro H locs hP hD hS
  cases h
  exact hRt _ _ dX5_extendRow_26 _ _ hP hD hS
def f_X5_extendRow (q : QS) (x1 : Int32) (x2 : Int32) : Option (QS) := f_X5_extendRow_0 q x1 x2
set_option maxRecDepth 100000 in
theorem c_X5_extendRow {E : En} {l : Launch} (q : QS) (x1 : Int32) (x2 : Int32) {o : QS} (h : f_X5_extendRow q x1 x2 = some o) : Ct (wX E) E l yX5_extendRow (wy yX5_extendRow cX5_extendRow 3 none) rm_X5_extendRow q o [.ref (eA E 49), .int x1, .int x2] none :=
  ct_V (o := o) (by decide +kernel) (fun p e s m below meth c A Q F hA hRt H locs hP hD hS => en_W [.ref (eA E 49), .int x1, .int x2] (Nat.le_of_ble_eq_true rfl) (fun ls hl => g_X5_extendRow_0 F hA hRt q x1 x2 h ls (lv_sub hl [0, 1, 2] rfl) H locs hP hD hS))
def rm_X7_areTypes : Room := { frames := 0, cells := 0, slots := 0, locals := 0 }
def f_X7_areTypes_21_b (B21 : Int32 → Int32 → Int32 → Option (Int32)) (x0 : Int32) (x2 : Int32) (x3 : Int32) : Option (Int32) :=
  if x0 ≤ x3 then
    some (1 : Int32)
  else
    if (x2 - x2 / (10 : Int32) * (10 : Int32)) < (1 : Int32) then
      some (0 : Int32)
    else
      if (x2 - x2 / (10 : Int32) * (10 : Int32)) ≤ (3 : Int32) then
        B21 x0 (x2 / (10 : Int32)) (x3 + (1 : Int32))
      else
        some (0 : Int32)
set_option maxHeartbeats 4000000 in
set_option maxRecDepth 100000 in
theorem g_X7_areTypes_21_b {E : En} {p : Program} {l : Launch} {e : Env} {s : State} {m : MethodId} {args : Array Value} {below : List Frame} {meth : Method} {c : Code} {A : Nat → Prop} {Q : State → Prop} (F : Fx E p s m args meth c (yX7_areTypes).cls cX7_areTypes 5 (some .boolean)) (hA : ∀ z : Nat, s.heap.size ≤ z → A z) {q : QS} {o : Int32} (hRt : RtZ (wX E) E p l e rm_X7_areTypes s m args below meth c A Q cX7_areTypes (o, q)) {B21 : Int32 → Int32 → Int32 → Option (Int32)} (hB21 : ∀ (x0 : Int32) (x2 : Int32) (x3 : Int32), B21 x0 x2 x3 = some o → ∀ ls : Array Slot, lv_has ls 5 [(0, .int x0), (2, .int x2), (3, .int x3)] → Wq (wX E) E p l e rm_X7_areTypes s m args below meth c A 0 0 Q q (F0 m 21 ls [])) (x0 : Int32) (x2 : Int32) (x3 : Int32) (h : f_X7_areTypes_21_b B21 x0 x2 x3 = some o) (ls : Array Slot) (hl : lv_has ls 5 [(0, .int x0), (2, .int x2), (3, .int x3)]) : Wq (wX E) E p l e rm_X7_areTypes s m args below meth c A 0 0 Q q (F0 m 21 ls []) := by
  intro H locs hP hD hS
  have hx := F.1
  have hb := F.2.1
  unfold f_X7_areTypes_21_b at h
  refine lv_iload_n hx hb dX7_areTypes_21 rfl (lv_at hl 2 rfl) ?_
  refine lv_iload_n hx hb dX7_areTypes_22 rfl (lv_at hl 0 rfl) ?_
  refine lv_icmp_ge (tgt := 57) hx hb dX7_areTypes_23 (by decide) (fun c4 => ?_) (fun c4 => ?_)
  · rw [if_pos c4] at h
    refine lv_iconst (v := 1) hx hb dX7_areTypes_57 (by decide) ?_
    cases h
    exact hRt _ _ zz_1 dX7_areTypes_58 _ _ hP hD hS
  · rw [if_neg c4] at h
    refine lv_iload_n hx hb dX7_areTypes_26 rfl (lv_at hl 1 rfl) ?_
    refine lv_bipush (v := 10) hx hb dX7_areTypes_27 (by decide) ?_
    refine lv_irem hx hb dX7_areTypes_29 (by decide) ?_
    refine lv_istore (lv' := [(4, .int (x2 - x2 / (10 : Int32) * (10 : Int32))), (0, .int x0), (2, .int x2), (3, .int x3)]) hx hb dX7_areTypes_30 hl (by decide) rfl (fun ls hl => ?_)
    refine lv_iload hx hb dX7_areTypes_32 (lv_at hl 0 rfl) ?_
    refine lv_iconst (v := 1) hx hb dX7_areTypes_34 (by decide) ?_
    refine lv_icmp_lt (tgt := 44) hx hb dX7_areTypes_35 (by decide) (fun c5 => ?_) (fun c5 => ?_)
    · rw [if_pos c5] at h
      refine lv_iconst (v := 0) hx hb dX7_areTypes_44 (by decide) ?_
      cases h
      exact hRt _ _ zz_0 dX7_areTypes_45 _ _ hP hD hS
    · rw [if_neg c5] at h
      refine lv_iload hx hb dX7_areTypes_38 (lv_at hl 0 rfl) ?_
      refine lv_iconst (v := 3) hx hb dX7_areTypes_40 (by decide) ?_
      refine lv_icmp_le (tgt := 46) hx hb dX7_areTypes_41 (by decide) (fun c6 => ?_) (fun c6 => ?_)
      · rw [if_pos c6] at h
        refine lv_iload_n hx hb dX7_areTypes_46 rfl (lv_at hl 2 rfl) ?_
        refine lv_bipush (v := 10) hx hb dX7_areTypes_47 (by decide) ?_
        refine lv_idiv hx hb dX7_areTypes_49 (by decide) ?_
        refine lv_istore_n (lv' := [(2, .int (x2 / (10 : Int32))), (4, .int (x2 - x2 / (10 : Int32) * (10 : Int32))), (0, .int x0), (3, .int x3)]) hx hb dX7_areTypes_50 rfl hl (by decide) rfl (fun ls hl => ?_)
        refine lv_iinc (v := (x3 + (1 : Int32))) (lv' := [(3, .int (x3 + (1 : Int32))), (2, .int (x2 / (10 : Int32))), (4, .int (x2 - x2 / (10 : Int32) * (10 : Int32))), (0, .int x0)]) hx hb dX7_areTypes_51 hl (k := 3) rfl rfl (by decide) rfl (fun ls hl => ?_)
        refine lv_goto (tgt := 21) hx hb dX7_areTypes_54 (by decide) ?_
        exact hB21 x0 (x2 / (10 : Int32)) (x3 + (1 : Int32)) h _ (lv_sub hl [3, 1, 0] rfl) _ _ hP hD hS
      · rw [if_neg c6] at h
        refine lv_iconst (v := 0) hx hb dX7_areTypes_44 (by decide) ?_
        cases h
        exact hRt _ _ zz_0 dX7_areTypes_45 _ _ hP hD hS
def f_X7_areTypes_21 : Nat → Int32 → Int32 → Int32 → Option (Int32)
  | 0 => fun _ _ _ => none
  | n + 1 => f_X7_areTypes_21_b (f_X7_areTypes_21 n)
theorem g_X7_areTypes_21 {E : En} {p : Program} {l : Launch} {e : Env} {s : State} {m : MethodId} {args : Array Value} {below : List Frame} {meth : Method} {c : Code} {A : Nat → Prop} {Q : State → Prop} (F : Fx E p s m args meth c (yX7_areTypes).cls cX7_areTypes 5 (some .boolean)) (hA : ∀ z : Nat, s.heap.size ≤ z → A z) {q : QS} {o : Int32} (hRt : RtZ (wX E) E p l e rm_X7_areTypes s m args below meth c A Q cX7_areTypes (o, q)) (n : Nat) : ∀ (x0 : Int32) (x2 : Int32) (x3 : Int32), f_X7_areTypes_21 n x0 x2 x3 = some o → ∀ ls : Array Slot, lv_has ls 5 [(0, .int x0), (2, .int x2), (3, .int x3)] → Wq (wX E) E p l e rm_X7_areTypes s m args below meth c A 0 0 Q q (F0 m 21 ls []) := by
  induction n with
  | zero => intro x0 x2 x3 h; cases h
  | succ n ih => intro x0 x2 x3 h; exact g_X7_areTypes_21_b F hA hRt ih x0 x2 x3 h
def f_X7_areTypes_0 (x0 : Int32) (x1 : Int32) : Option (Int32) :=
  if x0 < (1 : Int32) then
    some (0 : Int32)
  else
    if (8 : Int32) < x0 then
      some (0 : Int32)
    else
      if 0 ≤ x1 then
        f_X7_areTypes_21 FU x0 x1 (0 : Int32)
      else
        some (0 : Int32)
set_option maxHeartbeats 4000000 in
set_option maxRecDepth 100000 in
theorem g_X7_areTypes_0 {E : En} {p : Program} {l : Launch} {e : Env} {s : State} {m : MethodId} {args : Array Value} {below : List Frame} {meth : Method} {c : Code} {A : Nat → Prop} {Q : State → Prop} (F : Fx E p s m args meth c (yX7_areTypes).cls cX7_areTypes 5 (some .boolean)) (hA : ∀ z : Nat, s.heap.size ≤ z → A z) {q : QS} {o : Int32} (hRt : RtZ (wX E) E p l e rm_X7_areTypes s m args below meth c A Q cX7_areTypes (o, q)) (x0 : Int32) (x1 : Int32) (h : f_X7_areTypes_0 x0 x1 = some o) (ls : Array Slot) (hl : lv_has ls 5 [(0, .int x0), (1, .int x1)]) : Wq (wX E) E p l e rm_X7_areTypes s m args below meth c A 0 0 Q q (F0 m 0 ls []) := by
  intro H locs hP hD hS
  have hx := F.1
  have hb := F.2.1
  unfold f_X7_areTypes_0 at h
  refine lv_iload_n hx hb dX7_areTypes_0 rfl (lv_at hl 0 rfl) ?_
  refine lv_iconst (v := 1) hx hb dX7_areTypes_1 (by decide) ?_
  refine lv_icmp_lt (tgt := 15) hx hb dX7_areTypes_2 (by decide) (fun c1 => ?_) (fun c1 => ?_)
  · rw [if_pos c1] at h
    refine lv_iconst (v := 0) hx hb dX7_areTypes_15 (by decide) ?_
    cases h
    exact hRt _ _ zz_0 dX7_areTypes_16 _ _ hP hD hS
  · rw [if_neg c1] at h
    refine lv_iload_n hx hb dX7_areTypes_5 rfl (lv_at hl 0 rfl) ?_
    refine lv_bipush (v := 8) hx hb dX7_areTypes_6 (by decide) ?_
    refine lv_icmp_gt (tgt := 15) hx hb dX7_areTypes_8 (by decide) (fun c2 => ?_) (fun c2 => ?_)
    · rw [if_pos c2] at h
      refine lv_iconst (v := 0) hx hb dX7_areTypes_15 (by decide) ?_
      cases h
      exact hRt _ _ zz_0 dX7_areTypes_16 _ _ hP hD hS
    · rw [if_neg c2] at h
      refine lv_iload_n hx hb dX7_areTypes_11 rfl (lv_at hl 1 rfl) ?_
      refine lv_if_ge (tgt := 17) hx hb dX7_areTypes_12 (by decide) (fun c3 => ?_) (fun c3 => ?_)
      · rw [if_pos c3] at h
        refine lv_iload_n hx hb dX7_areTypes_17 rfl (lv_at hl 1 rfl) ?_
        refine lv_istore_n (lv' := [(2, .int x1), (0, .int x0), (1, .int x1)]) hx hb dX7_areTypes_18 rfl hl (by decide) rfl (fun ls hl => ?_)
        refine lv_iconst (v := 0) hx hb dX7_areTypes_19 (by decide) ?_
        refine lv_istore_n (lv' := [(3, .int (0 : Int32)), (2, .int x1), (0, .int x0), (1, .int x1)]) hx hb dX7_areTypes_20 rfl hl (by decide) rfl (fun ls hl => ?_)
        exact g_X7_areTypes_21 F hA hRt FU x0 x1 (0 : Int32) h _ (lv_sub hl [2, 1, 0] rfl) _ _ hP hD hS
      · rw [if_neg c3] at h
        refine lv_iconst (v := 0) hx hb dX7_areTypes_15 (by decide) ?_
        cases h
        exact hRt _ _ zz_0 dX7_areTypes_16 _ _ hP hD hS
def f_X7_areTypes (x0 : Int32) (x1 : Int32) : Option (Int32) := f_X7_areTypes_0 x0 x1
set_option maxRecDepth 100000 in
theorem c_X7_areTypes {E : En} {l : Launch} (q : QS) (x0 : Int32) (x1 : Int32) {o : Int32} (h : f_X7_areTypes x0 x1 = some o) : Ct (wX E) E l yX7_areTypes (wy yX7_areTypes cX7_areTypes 5 (some .boolean)) rm_X7_areTypes q q [.int x0, .int x1] (some (.int o)) :=
  ct_Z (o := (o, q)) (by decide +kernel) (fun p e s m below meth c A Q F hA hRt H locs hP hD hS => en_W [.int x0, .int x1] (Nat.le_of_ble_eq_true rfl) (fun ls hl => g_X7_areTypes_0 F hA hRt x0 x1 h ls (lv_sub hl [0, 1] rfl) H locs hP hD hS))
def rm_X7_create : Room := { frames := 1, cells := 0, slots := 0, locals := 24 }
def f_X7_create_23_b (K59 : QS → Int32 → Option (Int32 × QS)) (B23 : QS → Int32 → Int32 → Int32 → Option (Int32 × QS)) (q : QS) (x1 : Int32) (x3 : Int32) (x4 : Int32) : Option (Int32 × QS) :=
  if x1 ≤ x4 then
    K59 q x1
  else
    (wI q 27 24 (((qF q 14) * (8 : Int32)) + x4) (x3 - x3 / (10 : Int32) * (10 : Int32))).bind fun q6 =>
    B23 q6 x1 (x3 / (10 : Int32)) (x4 + (1 : Int32))
set_option maxHeartbeats 4000000 in
set_option maxRecDepth 100000 in
theorem g_X7_create_23_b {E : En} {p : Program} {l : Launch} {e : Env} {s : State} {m : MethodId} {args : Array Value} {below : List Frame} {meth : Method} {c : Code} {A : Nat → Prop} {Q : State → Prop} (F : Fx E p s m args meth c (yX7_create).cls cX7_create 5 (some .int)) (hA : ∀ z : Nat, s.heap.size ≤ z → A z) {o : Int32 × QS} (hRt : RtI (wX E) E p l e rm_X7_create s m args below meth c A Q cX7_create o) {K59 : QS → Int32 → Option (Int32 × QS)} {B23 : QS → Int32 → Int32 → Int32 → Option (Int32 × QS)} (hK59 : ∀ (q : QS) (x1 : Int32), K59 q x1 = some o → ∀ ls : Array Slot, lv_has ls 5 [(0, .ref (eA E 25)), (1, .int x1)] → Wq (wX E) E p l e rm_X7_create s m args below meth c A 0 0 Q q (F0 m 59 ls [])) (hB23 : ∀ (q : QS) (x1 : Int32) (x3 : Int32) (x4 : Int32), B23 q x1 x3 x4 = some o → ∀ ls : Array Slot, lv_has ls 5 [(0, .ref (eA E 25)), (1, .int x1), (3, .int x3), (4, .int x4)] → Wq (wX E) E p l e rm_X7_create s m args below meth c A 0 0 Q q (F0 m 23 ls [])) (q : QS) (x1 : Int32) (x3 : Int32) (x4 : Int32) (h : f_X7_create_23_b K59 B23 q x1 x3 x4 = some o) (ls : Array Slot) (hl : lv_has ls 5 [(0, .ref (eA E 25)), (1, .int x1), (3, .int x3), (4, .int x4)]) : Wq (wX E) E p l e rm_X7_create s m args below meth c A 0 0 Q q (F0 m 23 ls []) := by
  intro H locs hP hD hS
  have hx := F.1
  have hb := F.2.1
  unfold f_X7_create_23_b at h
  refine lv_iload hx hb dX7_create_23 (lv_at hl 3 rfl) ?_
  refine lv_iload_n hx hb dX7_create_25 rfl (lv_at hl 1 rfl) ?_
  refine lv_icmp_ge (tgt := 59) hx hb dX7_create_26 (by decide) (fun c5 => ?_) (fun c5 => ?_)
  · rw [if_pos c5] at h
    exact hK59 q x1 h _ (lv_sub hl [0, 1] rfl) _ _ hP hD hS
  · rw [if_neg c5] at h
    refine lv_aload_n hx hb dX7_create_29 rfl (lv_at hl 0 rfl) ?_
    refine r_get F hP i_X7 25 (xe_25 E q) rfl 2 (by decide) rfl lf_X7_15 rfl dX7_create_30 ?_
    refine lv_aload_n hx hb dX7_create_33 rfl (lv_at hl 0 rfl) ?_
    refine r_get F hP i_X7 25 (xe_25 E q) rfl 0 (by decide) rfl lf_X7_30 rfl dX7_create_34 ?_
    refine lv_bipush (v := 8) hx hb dX7_create_37 (by decide) ?_
    refine lv_imul hx hb dX7_create_39 ?_
    refine lv_iload hx hb dX7_create_40 (lv_at hl 3 rfl) ?_
    refine lv_iadd hx hb dX7_create_42 ?_
    refine lv_iload_n hx hb dX7_create_43 rfl (lv_at hl 2 rfl) ?_
    refine lv_bipush (v := 10) hx hb dX7_create_44 (by decide) ?_
    refine lv_irem hx hb dX7_create_46 (by decide) ?_
    obtain ⟨q6, e7, h⟩ := Option.bind_eq_some_iff.mp h
    refine r_iast F hP hD hS 27 (xe_27 E q) (xs_27 E q) e7 dX7_create_47 ?_
    intro H locs hP hD hS
    refine lv_iload_n hx hb dX7_create_48 rfl (lv_at hl 2 rfl) ?_
    refine lv_bipush (v := 10) hx hb dX7_create_49 (by decide) ?_
    refine lv_idiv hx hb dX7_create_51 (by decide) ?_
    refine lv_istore_n (lv' := [(3, .int (x3 / (10 : Int32))), (0, .ref (eA E 25)), (1, .int x1), (4, .int x4)]) hx hb dX7_create_52 rfl hl (by decide) rfl (fun ls hl => ?_)
    refine lv_iinc (v := (x4 + (1 : Int32))) (lv' := [(4, .int (x4 + (1 : Int32))), (3, .int (x3 / (10 : Int32))), (0, .ref (eA E 25)), (1, .int x1)]) hx hb dX7_create_53 hl (k := 3) rfl rfl (by decide) rfl (fun ls hl => ?_)
    refine lv_goto (tgt := 23) hx hb dX7_create_56 (by decide) ?_
    exact hB23 q6 x1 (x3 / (10 : Int32)) (x4 + (1 : Int32)) h _ (lv_sub hl [2, 3, 1, 0] rfl) _ _ hP hD hS
def f_X7_create_23 (K59 : QS → Int32 → Option (Int32 × QS)) : Nat → QS → Int32 → Int32 → Int32 → Option (Int32 × QS)
  | 0 => fun _ _ _ _ => none
  | n + 1 => f_X7_create_23_b K59 (f_X7_create_23 K59 n)
theorem g_X7_create_23 {E : En} {p : Program} {l : Launch} {e : Env} {s : State} {m : MethodId} {args : Array Value} {below : List Frame} {meth : Method} {c : Code} {A : Nat → Prop} {Q : State → Prop} (F : Fx E p s m args meth c (yX7_create).cls cX7_create 5 (some .int)) (hA : ∀ z : Nat, s.heap.size ≤ z → A z) {o : Int32 × QS} (hRt : RtI (wX E) E p l e rm_X7_create s m args below meth c A Q cX7_create o) {K59 : QS → Int32 → Option (Int32 × QS)} (hK59 : ∀ (q : QS) (x1 : Int32), K59 q x1 = some o → ∀ ls : Array Slot, lv_has ls 5 [(0, .ref (eA E 25)), (1, .int x1)] → Wq (wX E) E p l e rm_X7_create s m args below meth c A 0 0 Q q (F0 m 59 ls [])) (n : Nat) : ∀ (q : QS) (x1 : Int32) (x3 : Int32) (x4 : Int32), f_X7_create_23 K59 n q x1 x3 x4 = some o → ∀ ls : Array Slot, lv_has ls 5 [(0, .ref (eA E 25)), (1, .int x1), (3, .int x3), (4, .int x4)] → Wq (wX E) E p l e rm_X7_create s m args below meth c A 0 0 Q q (F0 m 23 ls []) := by
  induction n with
  | zero => intro q x1 x3 x4 h; cases h
  | succ n ih => intro q x1 x3 x4 h; exact g_X7_create_23_b F hA hRt hK59 ih q x1 x3 x4 h
def f_X7_create_59 (q : QS) (x1 : Int32) : Option (Int32 × QS) :=
  (wI q 26 3 (qF q 14) x1).bind fun q8 =>
  (wI q8 28 3 (qF q8 14) (0 : Int32)).bind fun q10 =>
  some ((qF q10 14), (uF q10 14 ((qF q10 14) + (1 : Int32))))
set_option maxHeartbeats 4000000 in
set_option maxRecDepth 100000 in
theorem g_X7_create_59 {E : En} {p : Program} {l : Launch} {e : Env} {s : State} {m : MethodId} {args : Array Value} {below : List Frame} {meth : Method} {c : Code} {A : Nat → Prop} {Q : State → Prop} (F : Fx E p s m args meth c (yX7_create).cls cX7_create 5 (some .int)) (hA : ∀ z : Nat, s.heap.size ≤ z → A z) {o : Int32 × QS} (hRt : RtI (wX E) E p l e rm_X7_create s m args below meth c A Q cX7_create o) (q : QS) (x1 : Int32) (h : f_X7_create_59 q x1 = some o) (ls : Array Slot) (hl : lv_has ls 5 [(0, .ref (eA E 25)), (1, .int x1)]) : Wq (wX E) E p l e rm_X7_create s m args below meth c A 0 0 Q q (F0 m 59 ls []) := by
  intro H locs hP hD hS
  have hx := F.1
  have hb := F.2.1
  unfold f_X7_create_59 at h
  refine lv_aload_n hx hb dX7_create_59 rfl (lv_at hl 0 rfl) ?_
  refine r_get F hP i_X7 25 (xe_25 E q) rfl 1 (by decide) rfl lf_X7_9 rfl dX7_create_60 ?_
  refine lv_aload_n hx hb dX7_create_63 rfl (lv_at hl 0 rfl) ?_
  refine r_get F hP i_X7 25 (xe_25 E q) rfl 0 (by decide) rfl lf_X7_30 rfl dX7_create_64 ?_
  refine lv_iload_n hx hb dX7_create_67 rfl (lv_at hl 1 rfl) ?_
  obtain ⟨q8, e9, h⟩ := Option.bind_eq_some_iff.mp h
  refine r_iast F hP hD hS 26 (xe_26 E q) (xs_26 E q) e9 dX7_create_68 ?_
  intro H locs hP hD hS
  refine lv_aload_n hx hb dX7_create_69 rfl (lv_at hl 0 rfl) ?_
  refine r_get F hP i_X7 25 (xe_25 E q8) rfl 3 (by decide) rfl lf_X7_18 rfl dX7_create_70 ?_
  refine lv_aload_n hx hb dX7_create_73 rfl (lv_at hl 0 rfl) ?_
  refine r_get F hP i_X7 25 (xe_25 E q8) rfl 0 (by decide) rfl lf_X7_30 rfl dX7_create_74 ?_
  refine lv_iconst (v := 0) hx hb dX7_create_77 (by decide) ?_
  obtain ⟨q10, e11, h⟩ := Option.bind_eq_some_iff.mp h
  refine r_iast F hP hD hS 28 (xe_28 E q8) (xs_28 E q8) e11 dX7_create_78 ?_
  intro H locs hP hD hS
  refine lv_aload_n hx hb dX7_create_79 rfl (lv_at hl 0 rfl) ?_
  refine lv_dup hx hb dX7_create_80 rfl ?_
  refine r_get F hP i_X7 25 (xe_25 E q10) rfl 0 (by decide) rfl lf_X7_30 rfl dX7_create_81 ?_
  refine lv_dup_x1 hx hb dX7_create_84 rfl rfl ?_
  refine lv_iconst (v := 1) hx hb dX7_create_85 (by decide) ?_
  refine lv_iadd hx hb dX7_create_86 ?_
  refine r_put (ty := .int) (q1 := (uF q10 14 ((qF q10 14) + (1 : Int32)))) F hP hD hS i_X7 tyX7_ok nmX7 25 (xe_25 E q10) rfl 0 (by decide) rfl lf_X7_30 rfl (by decide +kernel) rfl rfl (Nat.le_of_ble_eq_true rfl) (xf_25_14 E q10 ((qF q10 14) + (1 : Int32))) dX7_create_87 ?_
  intro H locs hP hD hS
  cases h
  exact hRt _ _ dX7_create_90 _ _ hP hD hS
def f_X7_create_0 (q : QS) (x1 : Int32) (x2 : Int32) : Option (Int32 × QS) :=
  if (3 : Int32) ≤ (qF q 14) then
    some ((-1 : Int32), q)
  else
    (f_X7_areTypes x1 x2).bind fun r2 =>
    if r2 = 0 then
      some ((-1 : Int32), q)
    else
      f_X7_create_23 (f_X7_create_59) FU q x1 x2 (0 : Int32)
set_option maxHeartbeats 4000000 in
set_option maxRecDepth 100000 in
theorem g_X7_create_0 {E : En} {p : Program} {l : Launch} {e : Env} {s : State} {m : MethodId} {args : Array Value} {below : List Frame} {meth : Method} {c : Code} {A : Nat → Prop} {Q : State → Prop} (F : Fx E p s m args meth c (yX7_create).cls cX7_create 5 (some .int)) (hA : ∀ z : Nat, s.heap.size ≤ z → A z) {o : Int32 × QS} (hRt : RtI (wX E) E p l e rm_X7_create s m args below meth c A Q cX7_create o) (q : QS) (x1 : Int32) (x2 : Int32) (h : f_X7_create_0 q x1 x2 = some o) (ls : Array Slot) (hl : lv_has ls 5 [(0, .ref (eA E 25)), (1, .int x1), (2, .int x2)]) : Wq (wX E) E p l e rm_X7_create s m args below meth c A 0 0 Q q (F0 m 0 ls []) := by
  intro H locs hP hD hS
  have hx := F.1
  have hb := F.2.1
  unfold f_X7_create_0 at h
  refine lv_aload_n hx hb dX7_create_0 rfl (lv_at hl 0 rfl) ?_
  refine r_get F hP i_X7 25 (xe_25 E q) rfl 0 (by decide) rfl lf_X7_30 rfl dX7_create_1 ?_
  refine lv_iconst (v := 3) hx hb dX7_create_4 (by decide) ?_
  refine lv_icmp_ge (tgt := 16) hx hb dX7_create_5 (by decide) (fun c1 => ?_) (fun c1 => ?_)
  · rw [if_pos c1] at h
    refine lv_iconst (v := (-1)) hx hb dX7_create_16 (by decide) ?_
    cases h
    exact hRt _ _ dX7_create_17 _ _ hP hD hS
  · rw [if_neg c1] at h
    refine lv_iload_n hx hb dX7_create_8 rfl (lv_at hl 1 rfl) ?_
    refine lv_iload_n hx hb dX7_create_9 rfl (lv_at hl 2 rfl) ?_
    obtain ⟨r2, e3, h⟩ := Option.bind_eq_some_iff.mp h
    refine q_callS (As := [.int x1, .int x2]) (rest := []) F hA hP hD hS (c_X7_areTypes (E := E) (l := l) q x1 x2 e3) k_X7_areTypes st_X7_areTypes lm_X7_34 ⟨rfl, rfl⟩ ⟨by decide, by decide⟩ rfl hl.1 rfl (Nat.le_of_ble_eq_true rfl) dX7_create_10 ⟨by decide, by decide⟩ ?_
    intro H locs hP hD hS
    refine lv_if_ne (tgt := 18) hx hb dX7_create_13 (by decide) (fun c4 => ?_) (fun c4 => ?_)
    · rw [if_neg c4] at h
      refine lv_iload_n hx hb dX7_create_18 rfl (lv_at hl 2 rfl) ?_
      refine lv_istore_n (lv' := [(3, .int x2), (0, .ref (eA E 25)), (1, .int x1), (2, .int x2)]) hx hb dX7_create_19 rfl hl (by decide) rfl (fun ls hl => ?_)
      refine lv_iconst (v := 0) hx hb dX7_create_20 (by decide) ?_
      refine lv_istore (lv' := [(4, .int (0 : Int32)), (3, .int x2), (0, .ref (eA E 25)), (1, .int x1), (2, .int x2)]) hx hb dX7_create_21 hl (by decide) rfl (fun ls hl => ?_)
      exact g_X7_create_23 F hA hRt (g_X7_create_59 F hA hRt) FU q x1 x2 (0 : Int32) h _ (lv_sub hl [2, 3, 1, 0] rfl) _ _ hP hD hS
    · rw [if_pos c4] at h
      refine lv_iconst (v := (-1)) hx hb dX7_create_16 (by decide) ?_
      cases h
      exact hRt _ _ dX7_create_17 _ _ hP hD hS
def f_X7_create (q : QS) (x1 : Int32) (x2 : Int32) : Option (Int32 × QS) := f_X7_create_0 q x1 x2
set_option maxRecDepth 100000 in
theorem c_X7_create {E : En} {l : Launch} (q : QS) (x1 : Int32) (x2 : Int32) {o : Int32 × QS} (h : f_X7_create q x1 x2 = some o) : Ct (wX E) E l yX7_create (wy yX7_create cX7_create 5 (some .int)) rm_X7_create q o.2 [.ref (eA E 25), .int x1, .int x2] (some (.int o.1)) :=
  ct_I (o := o) (by decide +kernel) rfl (fun p e s m below meth c A Q F hA hRt H locs hP hD hS => en_W [.ref (eA E 25), .int x1, .int x2] (Nat.le_of_ble_eq_true rfl) (fun ls hl => g_X7_create_0 F hA hRt q x1 x2 h ls (lv_sub hl [0, 1, 2] rfl) H locs hP hD hS))
def rm_X7_has : Room := { frames := 0, cells := 0, slots := 0, locals := 0 }
def f_X7_has_0 (q : QS) (x1 : Int32) : Option (Int32) :=
  if x1 < 0 then
    some (0 : Int32)
  else
    if (qF q 14) ≤ x1 then
      some (0 : Int32)
    else
      some (1 : Int32)
set_option maxHeartbeats 4000000 in
set_option maxRecDepth 100000 in
theorem g_X7_has_0 {E : En} {p : Program} {l : Launch} {e : Env} {s : State} {m : MethodId} {args : Array Value} {below : List Frame} {meth : Method} {c : Code} {A : Nat → Prop} {Q : State → Prop} (F : Fx E p s m args meth c (yX7_has).cls cX7_has 2 (some .boolean)) (hA : ∀ z : Nat, s.heap.size ≤ z → A z) {q : QS} {o : Int32} (hRt : RtZ (wX E) E p l e rm_X7_has s m args below meth c A Q cX7_has (o, q)) (x1 : Int32) (h : f_X7_has_0 q x1 = some o) (ls : Array Slot) (hl : lv_has ls 2 [(0, .ref (eA E 25)), (1, .int x1)]) : Wq (wX E) E p l e rm_X7_has s m args below meth c A 0 0 Q q (F0 m 0 ls []) := by
  intro H locs hP hD hS
  have hx := F.1
  have hb := F.2.1
  unfold f_X7_has_0 at h
  refine lv_iload_n hx hb dX7_has_0 rfl (lv_at hl 1 rfl) ?_
  refine lv_if_lt (tgt := 16) hx hb dX7_has_1 (by decide) (fun c1 => ?_) (fun c1 => ?_)
  · rw [if_pos c1] at h
    refine lv_iconst (v := 0) hx hb dX7_has_16 (by decide) ?_
    cases h
    exact hRt _ _ zz_0 dX7_has_17 _ _ hP hD hS
  · rw [if_neg c1] at h
    refine lv_iload_n hx hb dX7_has_4 rfl (lv_at hl 1 rfl) ?_
    refine lv_aload_n hx hb dX7_has_5 rfl (lv_at hl 0 rfl) ?_
    refine r_get F hP i_X7 25 (xe_25 E q) rfl 0 (by decide) rfl lf_X7_30 rfl dX7_has_6 ?_
    refine lv_icmp_ge (tgt := 16) hx hb dX7_has_9 (by decide) (fun c2 => ?_) (fun c2 => ?_)
    · rw [if_pos c2] at h
      refine lv_iconst (v := 0) hx hb dX7_has_16 (by decide) ?_
      cases h
      exact hRt _ _ zz_0 dX7_has_17 _ _ hP hD hS
    · rw [if_neg c2] at h
      refine lv_iconst (v := 1) hx hb dX7_has_12 (by decide) ?_
      refine lv_goto (tgt := 17) hx hb dX7_has_13 (by decide) ?_
      cases h
      exact hRt _ _ zz_1 dX7_has_17 _ _ hP hD hS
def f_X7_has (q : QS) (x1 : Int32) : Option (Int32) := f_X7_has_0 q x1
set_option maxRecDepth 100000 in
theorem c_X7_has {E : En} {l : Launch} (q : QS) (x1 : Int32) {o : Int32} (h : f_X7_has q x1 = some o) : Ct (wX E) E l yX7_has (wy yX7_has cX7_has 2 (some .boolean)) rm_X7_has q q [.ref (eA E 25), .int x1] (some (.int o)) :=
  ct_Z (o := (o, q)) (by decide +kernel) (fun p e s m below meth c A Q F hA hRt H locs hP hD hS => en_W [.ref (eA E 25), .int x1] (Nat.le_of_ble_eq_true rfl) (fun ls hl => g_X7_has_0 F hA hRt x1 h ls (lv_sub hl [0, 1] rfl) H locs hP hD hS))
def rm_X7_typeOf : Room := { frames := 0, cells := 0, slots := 0, locals := 0 }
def f_X7_typeOf_0 (q : QS) (x1 : Int32) (x2 : Int32) : Option (Int32) :=
  (rd (qI q 27) 24 ((x1 * (8 : Int32)) + x2)).bind fun y1 =>
  some y1
set_option maxHeartbeats 4000000 in
set_option maxRecDepth 100000 in
theorem g_X7_typeOf_0 {E : En} {p : Program} {l : Launch} {e : Env} {s : State} {m : MethodId} {args : Array Value} {below : List Frame} {meth : Method} {c : Code} {A : Nat → Prop} {Q : State → Prop} (F : Fx E p s m args meth c (yX7_typeOf).cls cX7_typeOf 3 (some .int)) (hA : ∀ z : Nat, s.heap.size ≤ z → A z) {q : QS} {o : Int32} (hRt : RtI (wX E) E p l e rm_X7_typeOf s m args below meth c A Q cX7_typeOf (o, q)) (x1 : Int32) (x2 : Int32) (h : f_X7_typeOf_0 q x1 x2 = some o) (ls : Array Slot) (hl : lv_has ls 3 [(0, .ref (eA E 25)), (1, .int x1), (2, .int x2)]) : Wq (wX E) E p l e rm_X7_typeOf s m args below meth c A 0 0 Q q (F0 m 0 ls []) := by
  intro H locs hP hD hS
  have hx := F.1
  have hb := F.2.1
  unfold f_X7_typeOf_0 at h
  refine lv_aload_n hx hb dX7_typeOf_0 rfl (lv_at hl 0 rfl) ?_
  refine r_get F hP i_X7 25 (xe_25 E q) rfl 2 (by decide) rfl lf_X7_15 rfl dX7_typeOf_1 ?_
  refine lv_iload_n hx hb dX7_typeOf_4 rfl (lv_at hl 1 rfl) ?_
  refine lv_bipush (v := 8) hx hb dX7_typeOf_5 (by decide) ?_
  refine lv_imul hx hb dX7_typeOf_7 ?_
  refine lv_iload_n hx hb dX7_typeOf_8 rfl (lv_at hl 2 rfl) ?_
  refine lv_iadd hx hb dX7_typeOf_9 ?_
  obtain ⟨y1, e2, h⟩ := Option.bind_eq_some_iff.mp h
  refine r_iald F hP 27 (xe_27 E q) e2 dX7_typeOf_10 ?_
  cases h
  exact hRt _ _ dX7_typeOf_11 _ _ hP hD hS
def f_X7_typeOf (q : QS) (x1 : Int32) (x2 : Int32) : Option (Int32) := f_X7_typeOf_0 q x1 x2
set_option maxRecDepth 100000 in
theorem c_X7_typeOf {E : En} {l : Launch} (q : QS) (x1 : Int32) (x2 : Int32) {o : Int32} (h : f_X7_typeOf q x1 x2 = some o) : Ct (wX E) E l yX7_typeOf (wy yX7_typeOf cX7_typeOf 3 (some .int)) rm_X7_typeOf q q [.ref (eA E 25), .int x1, .int x2] (some (.int o)) :=
  ct_I (o := (o, q)) (by decide +kernel) rfl (fun p e s m below meth c A Q F hA hRt H locs hP hD hS => en_W [.ref (eA E 25), .int x1, .int x2] (Nat.le_of_ble_eq_true rfl) (fun ls hl => g_X7_typeOf_0 F hA hRt x1 x2 h ls (lv_sub hl [0, 1, 2] rfl) H locs hP hD hS))
def rm_X7_takes : Room := { frames := 1, cells := 0, slots := 0, locals := 22 }
def f_X7_takes_37 (q : QS) (B2 : Int32 → Int32 → Option (Int32)) (x1 : Int32) (x3 : Int32) : Option (Int32) :=
  B2 x1 (x3 + (1 : Int32))
set_option maxHeartbeats 4000000 in
set_option maxRecDepth 100000 in
theorem g_X7_takes_37 {E : En} {p : Program} {l : Launch} {e : Env} {s : State} {m : MethodId} {args : Array Value} {below : List Frame} {meth : Method} {c : Code} {A : Nat → Prop} {Q : State → Prop} (F : Fx E p s m args meth c (yX7_takes).cls cX7_takes 4 (some .boolean)) (hA : ∀ z : Nat, s.heap.size ≤ z → A z) {q : QS} {o : Int32} (hRt : RtZ (wX E) E p l e rm_X7_takes s m args below meth c A Q cX7_takes (o, q)) {B2 : Int32 → Int32 → Option (Int32)} (hB2 : ∀ (x1 : Int32) (x3 : Int32), B2 x1 x3 = some o → ∀ ls : Array Slot, lv_has ls 4 [(0, .ref (eA E 25)), (1, .int x1), (2, .ref (eA E 0)), (3, .int x3)] → Wq (wX E) E p l e rm_X7_takes s m args below meth c A 0 0 Q q (F0 m 2 ls [])) (x1 : Int32) (x3 : Int32) (h : f_X7_takes_37 q B2 x1 x3 = some o) (ls : Array Slot) (hl : lv_has ls 4 [(0, .ref (eA E 25)), (1, .int x1), (2, .ref (eA E 0)), (3, .int x3)]) : Wq (wX E) E p l e rm_X7_takes s m args below meth c A 0 0 Q q (F0 m 37 ls []) := by
  intro H locs hP hD hS
  have hx := F.1
  have hb := F.2.1
  unfold f_X7_takes_37 at h
  refine lv_iinc (v := (x3 + (1 : Int32))) (lv' := [(3, .int (x3 + (1 : Int32))), (0, .ref (eA E 25)), (1, .int x1), (2, .ref (eA E 0))]) hx hb dX7_takes_37 hl (k := 3) rfl rfl (by decide) rfl (fun ls hl => ?_)
  refine lv_goto (tgt := 2) hx hb dX7_takes_40 (by decide) ?_
  exact hB2 x1 (x3 + (1 : Int32)) h _ (lv_sub hl [1, 2, 3, 0] rfl) _ _ hP hD hS
def f_X7_takes_2_b (q : QS) (B2 : Int32 → Int32 → Option (Int32)) (x1 : Int32) (x3 : Int32) : Option (Int32) :=
  (rd (qI q 26) 3 x1).bind fun y1 =>
  if y1 ≤ x3 then
    some (1 : Int32)
  else
    (f_X8_isNull 0 q x3).bind fun r4 =>
    if r4 = 0 then
      (rd (qI q 1) 8 x3).bind fun y7 =>
      (f_X7_typeOf q x1 x3).bind fun r9 =>
      if y7 = r9 then
        f_X7_takes_37 q B2 x1 x3
      else
        some (0 : Int32)
    else
      f_X7_takes_37 q B2 x1 x3
set_option maxHeartbeats 4000000 in
set_option maxRecDepth 100000 in
theorem g_X7_takes_2_b {E : En} {p : Program} {l : Launch} {e : Env} {s : State} {m : MethodId} {args : Array Value} {below : List Frame} {meth : Method} {c : Code} {A : Nat → Prop} {Q : State → Prop} (F : Fx E p s m args meth c (yX7_takes).cls cX7_takes 4 (some .boolean)) (hA : ∀ z : Nat, s.heap.size ≤ z → A z) {q : QS} {o : Int32} (hRt : RtZ (wX E) E p l e rm_X7_takes s m args below meth c A Q cX7_takes (o, q)) {B2 : Int32 → Int32 → Option (Int32)} (hB2 : ∀ (x1 : Int32) (x3 : Int32), B2 x1 x3 = some o → ∀ ls : Array Slot, lv_has ls 4 [(0, .ref (eA E 25)), (1, .int x1), (2, .ref (eA E 0)), (3, .int x3)] → Wq (wX E) E p l e rm_X7_takes s m args below meth c A 0 0 Q q (F0 m 2 ls [])) (x1 : Int32) (x3 : Int32) (h : f_X7_takes_2_b q B2 x1 x3 = some o) (ls : Array Slot) (hl : lv_has ls 4 [(0, .ref (eA E 25)), (1, .int x1), (2, .ref (eA E 0)), (3, .int x3)]) : Wq (wX E) E p l e rm_X7_takes s m args below meth c A 0 0 Q q (F0 m 2 ls []) := by
  intro H locs hP hD hS
  have hx := F.1
  have hb := F.2.1
  unfold f_X7_takes_2_b at h
  refine lv_iload_n hx hb dX7_takes_2 rfl (lv_at hl 3 rfl) ?_
  refine lv_aload_n hx hb dX7_takes_3 rfl (lv_at hl 0 rfl) ?_
  refine r_get F hP i_X7 25 (xe_25 E q) rfl 1 (by decide) rfl lf_X7_9 rfl dX7_takes_4 ?_
  refine lv_iload_n hx hb dX7_takes_7 rfl (lv_at hl 1 rfl) ?_
  obtain ⟨y1, e2, h⟩ := Option.bind_eq_some_iff.mp h
  refine r_iald F hP 26 (xe_26 E q) e2 dX7_takes_8 ?_
  refine lv_icmp_ge (tgt := 43) hx hb dX7_takes_9 (by decide) (fun c3 => ?_) (fun c3 => ?_)
  · rw [if_pos c3] at h
    refine lv_iconst (v := 1) hx hb dX7_takes_43 (by decide) ?_
    cases h
    exact hRt _ _ zz_1 dX7_takes_44 _ _ hP hD hS
  · rw [if_neg c3] at h
    refine lv_aload_n hx hb dX7_takes_12 rfl (lv_at hl 2 rfl) ?_
    refine lv_iload_n hx hb dX7_takes_13 rfl (lv_at hl 3 rfl) ?_
    obtain ⟨r4, e5, h⟩ := Option.bind_eq_some_iff.mp h
    refine q_callV (As := [.int x3]) (rest := []) F hA hP hD hS (c_X8_isNull (E := E) (l := l) (v := 0) (by decide) q x3 e5) k_X8_isNull in_X8_isNull se_X8_isNull lm_X7_54 0 (xe_0 E q) rfl ⟨rfl, rfl⟩ ⟨by decide, by decide⟩ rfl hl.1 rfl (Nat.le_of_ble_eq_true rfl) dX7_takes_14 ⟨by decide, by decide⟩ ?_
    intro H locs hP hD hS
    refine lv_if_ne (tgt := 37) hx hb dX7_takes_17 (by decide) (fun c6 => ?_) (fun c6 => ?_)
    · rw [if_neg c6] at h
      exact g_X7_takes_37 F hA hRt hB2 x1 x3 h _ (lv_sub hl [0, 1, 2, 3] rfl) _ _ hP hD hS
    · rw [if_pos c6] at h
      refine lv_aload_n hx hb dX7_takes_20 rfl (lv_at hl 2 rfl) ?_
      refine r_get F hP i_X8 0 (xe_0 E q) rfl 0 (by decide) rfl lf_X7_57 rfl dX7_takes_21 ?_
      refine lv_iload_n hx hb dX7_takes_24 rfl (lv_at hl 3 rfl) ?_
      obtain ⟨y7, e8, h⟩ := Option.bind_eq_some_iff.mp h
      refine r_iald F hP 1 (xe_1 E q) e8 dX7_takes_25 ?_
      refine lv_aload_n hx hb dX7_takes_26 rfl (lv_at hl 0 rfl) ?_
      refine lv_iload_n hx hb dX7_takes_27 rfl (lv_at hl 1 rfl) ?_
      refine lv_iload_n hx hb dX7_takes_28 rfl (lv_at hl 3 rfl) ?_
      obtain ⟨r9, e10, h⟩ := Option.bind_eq_some_iff.mp h
      refine q_callV (As := [.int x1, .int x3]) (rest := [.int y7]) F hA hP hD hS (c_X7_typeOf (E := E) (l := l) q x1 x3 e10) k_X7_typeOf in_X7_typeOf se_X7_typeOf lm_X7_60 25 (xe_25 E q) rfl ⟨rfl, rfl⟩ ⟨by decide, by decide⟩ rfl hl.1 rfl (Nat.le_of_ble_eq_true rfl) dX7_takes_29 ⟨by decide, by decide⟩ ?_
      intro H locs hP hD hS
      refine lv_icmp_eq (tgt := 37) hx hb dX7_takes_32 (by decide) (fun c11 => ?_) (fun c11 => ?_)
      · rw [if_pos c11] at h
        exact g_X7_takes_37 F hA hRt hB2 x1 x3 h _ (lv_sub hl [0, 1, 2, 3] rfl) _ _ hP hD hS
      · rw [if_neg c11] at h
        refine lv_iconst (v := 0) hx hb dX7_takes_35 (by decide) ?_
        cases h
        exact hRt _ _ zz_0 dX7_takes_36 _ _ hP hD hS
def f_X7_takes_2 (q : QS) : Nat → Int32 → Int32 → Option (Int32)
  | 0 => fun _ _ => none
  | n + 1 => f_X7_takes_2_b q (f_X7_takes_2 q n)
theorem g_X7_takes_2 {E : En} {p : Program} {l : Launch} {e : Env} {s : State} {m : MethodId} {args : Array Value} {below : List Frame} {meth : Method} {c : Code} {A : Nat → Prop} {Q : State → Prop} (F : Fx E p s m args meth c (yX7_takes).cls cX7_takes 4 (some .boolean)) (hA : ∀ z : Nat, s.heap.size ≤ z → A z) {q : QS} {o : Int32} (hRt : RtZ (wX E) E p l e rm_X7_takes s m args below meth c A Q cX7_takes (o, q)) (n : Nat) : ∀ (x1 : Int32) (x3 : Int32), f_X7_takes_2 q n x1 x3 = some o → ∀ ls : Array Slot, lv_has ls 4 [(0, .ref (eA E 25)), (1, .int x1), (2, .ref (eA E 0)), (3, .int x3)] → Wq (wX E) E p l e rm_X7_takes s m args below meth c A 0 0 Q q (F0 m 2 ls []) := by
  induction n with
  | zero => intro x1 x3 h; cases h
  | succ n ih => intro x1 x3 h; exact g_X7_takes_2_b F hA hRt ih x1 x3 h
def f_X7_takes_0 (q : QS) (x1 : Int32) : Option (Int32) :=
  f_X7_takes_2 q FU x1 (0 : Int32)
set_option maxHeartbeats 4000000 in
set_option maxRecDepth 100000 in
theorem g_X7_takes_0 {E : En} {p : Program} {l : Launch} {e : Env} {s : State} {m : MethodId} {args : Array Value} {below : List Frame} {meth : Method} {c : Code} {A : Nat → Prop} {Q : State → Prop} (F : Fx E p s m args meth c (yX7_takes).cls cX7_takes 4 (some .boolean)) (hA : ∀ z : Nat, s.heap.size ≤ z → A z) {q : QS} {o : Int32} (hRt : RtZ (wX E) E p l e rm_X7_takes s m args below meth c A Q cX7_takes (o, q)) (x1 : Int32) (h : f_X7_takes_0 q x1 = some o) (ls : Array Slot) (hl : lv_has ls 4 [(0, .ref (eA E 25)), (1, .int x1), (2, .ref (eA E 0))]) : Wq (wX E) E p l e rm_X7_takes s m args below meth c A 0 0 Q q (F0 m 0 ls []) := by
  intro H locs hP hD hS
  have hx := F.1
  have hb := F.2.1
  unfold f_X7_takes_0 at h
  refine lv_iconst (v := 0) hx hb dX7_takes_0 (by decide) ?_
  refine lv_istore_n (lv' := [(3, .int (0 : Int32)), (0, .ref (eA E 25)), (1, .int x1), (2, .ref (eA E 0))]) hx hb dX7_takes_1 rfl hl (by decide) rfl (fun ls hl => ?_)
  exact g_X7_takes_2 F hA hRt FU x1 (0 : Int32) h _ (lv_sub hl [1, 2, 3, 0] rfl) _ _ hP hD hS
def f_X7_takes (q : QS) (x1 : Int32) : Option (Int32) := f_X7_takes_0 q x1
set_option maxRecDepth 100000 in
theorem c_X7_takes {E : En} {l : Launch} (q : QS) (x1 : Int32) {o : Int32} (h : f_X7_takes q x1 = some o) : Ct (wX E) E l yX7_takes (wy yX7_takes cX7_takes 4 (some .boolean)) rm_X7_takes q q [.ref (eA E 25), .int x1, .ref (eA E 0)] (some (.int o)) :=
  ct_Z (o := (o, q)) (by decide +kernel) (fun p e s m below meth c A Q F hA hRt H locs hP hD hS => en_W [.ref (eA E 25), .int x1, .ref (eA E 0)] (Nat.le_of_ble_eq_true rfl) (fun ls hl => g_X7_takes_0 F hA hRt x1 h ls (lv_sub hl [0, 1, 2] rfl) H locs hP hD hS))
def rm_X7_placeOf : Room := { frames := 0, cells := 0, slots := 0, locals := 0 }
def f_X7_placeOf_0 (x1 : Int32) (x2 : Int32) (x3 : Int32) : Option (Int32) :=
  some ((((x1 * (40 : Int32)) + x2) * (8 : Int32)) + x3)
set_option maxHeartbeats 4000000 in
set_option maxRecDepth 100000 in
theorem g_X7_placeOf_0 {E : En} {p : Program} {l : Launch} {e : Env} {s : State} {m : MethodId} {args : Array Value} {below : List Frame} {meth : Method} {c : Code} {A : Nat → Prop} {Q : State → Prop} (F : Fx E p s m args meth c (yX7_placeOf).cls cX7_placeOf 4 (some .int)) (hA : ∀ z : Nat, s.heap.size ≤ z → A z) {q : QS} {o : Int32} (hRt : RtI (wX E) E p l e rm_X7_placeOf s m args below meth c A Q cX7_placeOf (o, q)) (x1 : Int32) (x2 : Int32) (x3 : Int32) (h : f_X7_placeOf_0 x1 x2 x3 = some o) (ls : Array Slot) (hl : lv_has ls 4 [(1, .int x1), (2, .int x2), (3, .int x3)]) : Wq (wX E) E p l e rm_X7_placeOf s m args below meth c A 0 0 Q q (F0 m 0 ls []) := by
  intro H locs hP hD hS
  have hx := F.1
  have hb := F.2.1
  unfold f_X7_placeOf_0 at h
  refine lv_iload_n hx hb dX7_placeOf_0 rfl (lv_at hl 0 rfl) ?_
  refine lv_bipush (v := 40) hx hb dX7_placeOf_1 (by decide) ?_
  refine lv_imul hx hb dX7_placeOf_3 ?_
  refine lv_iload_n hx hb dX7_placeOf_4 rfl (lv_at hl 1 rfl) ?_
  refine lv_iadd hx hb dX7_placeOf_5 ?_
  refine lv_bipush (v := 8) hx hb dX7_placeOf_6 (by decide) ?_
  refine lv_imul hx hb dX7_placeOf_8 ?_
  refine lv_iload_n hx hb dX7_placeOf_9 rfl (lv_at hl 2 rfl) ?_
  refine lv_iadd hx hb dX7_placeOf_10 ?_
  cases h
  exact hRt _ _ dX7_placeOf_11 _ _ hP hD hS
def f_X7_placeOf (x1 : Int32) (x2 : Int32) (x3 : Int32) : Option (Int32) := f_X7_placeOf_0 x1 x2 x3
set_option maxRecDepth 100000 in
theorem c_X7_placeOf {E : En} {l : Launch} (q : QS) (x1 : Int32) (x2 : Int32) (x3 : Int32) {o : Int32} (h : f_X7_placeOf x1 x2 x3 = some o) : Ct (wX E) E l yX7_placeOf (wy yX7_placeOf cX7_placeOf 4 (some .int)) rm_X7_placeOf q q [.ref (eA E 25), .int x1, .int x2, .int x3] (some (.int o)) :=
  ct_I (o := (o, q)) (by decide +kernel) rfl (fun p e s m below meth c A Q F hA hRt H locs hP hD hS => en_W [.ref (eA E 25), .int x1, .int x2, .int x3] (Nat.le_of_ble_eq_true rfl) (fun ls hl => g_X7_placeOf_0 F hA hRt x1 x2 x3 h ls (lv_sub hl [1, 2, 3] rfl) H locs hP hD hS))
def rm_X7_append : Room := { frames := 2, cells := 0, slots := 0, locals := 46 }
def f_X7_append_32_b (B32 : QS → Int32 → Int32 → Option (Int32 × QS)) (q : QS) (x1 : Int32) (x3 : Int32) : Option (Int32 × QS) :=
  (rd (qI q 26) 3 x1).bind fun y10 =>
  if y10 ≤ x3 then
    (rd (qI q 28) 3 x1).bind fun y13 =>
    (wI q 28 3 x1 (y13 + (1 : Int32))).bind fun q15 =>
    (rd (qI q15 28) 3 x1).bind fun y17 =>
    some (y17, q15)
  else
    (rd (qI q 28) 3 x1).bind fun y19 =>
    (f_X7_placeOf x1 y19 x3).bind fun r21 =>
    (f_X8_copy 1 0 q r21 x3).bind fun r23 =>
    B32 r23 x1 (x3 + (1 : Int32))
set_option maxHeartbeats 4000000 in
set_option maxRecDepth 100000 in
theorem g_X7_append_32_b {E : En} {p : Program} {l : Launch} {e : Env} {s : State} {m : MethodId} {args : Array Value} {below : List Frame} {meth : Method} {c : Code} {A : Nat → Prop} {Q : State → Prop} (F : Fx E p s m args meth c (yX7_append).cls cX7_append 4 (some .int)) (hA : ∀ z : Nat, s.heap.size ≤ z → A z) {o : Int32 × QS} (hRt : RtI (wX E) E p l e rm_X7_append s m args below meth c A Q cX7_append o) {B32 : QS → Int32 → Int32 → Option (Int32 × QS)} (hB32 : ∀ (q : QS) (x1 : Int32) (x3 : Int32), B32 q x1 x3 = some o → ∀ ls : Array Slot, lv_has ls 4 [(0, .ref (eA E 25)), (1, .int x1), (2, .ref (eA E 0)), (3, .int x3)] → Wq (wX E) E p l e rm_X7_append s m args below meth c A 0 0 Q q (F0 m 32 ls [])) (q : QS) (x1 : Int32) (x3 : Int32) (h : f_X7_append_32_b B32 q x1 x3 = some o) (ls : Array Slot) (hl : lv_has ls 4 [(0, .ref (eA E 25)), (1, .int x1), (2, .ref (eA E 0)), (3, .int x3)]) : Wq (wX E) E p l e rm_X7_append s m args below meth c A 0 0 Q q (F0 m 32 ls []) := by
  intro H locs hP hD hS
  have hx := F.1
  have hb := F.2.1
  unfold f_X7_append_32_b at h
  refine lv_iload_n hx hb dX7_append_32 rfl (lv_at hl 3 rfl) ?_
  refine lv_aload_n hx hb dX7_append_33 rfl (lv_at hl 0 rfl) ?_
  refine r_get F hP i_X7 25 (xe_25 E q) rfl 1 (by decide) rfl lf_X7_9 rfl dX7_append_34 ?_
  refine lv_iload_n hx hb dX7_append_37 rfl (lv_at hl 1 rfl) ?_
  obtain ⟨y10, e11, h⟩ := Option.bind_eq_some_iff.mp h
  refine r_iald F hP 26 (xe_26 E q) e11 dX7_append_38 ?_
  refine lv_icmp_ge (tgt := 69) hx hb dX7_append_39 (by decide) (fun c12 => ?_) (fun c12 => ?_)
  · rw [if_pos c12] at h
    refine lv_aload_n hx hb dX7_append_69 rfl (lv_at hl 0 rfl) ?_
    refine r_get F hP i_X7 25 (xe_25 E q) rfl 3 (by decide) rfl lf_X7_18 rfl dX7_append_70 ?_
    refine lv_iload_n hx hb dX7_append_73 rfl (lv_at hl 1 rfl) ?_
    refine lv_dup2_11 hx hb dX7_append_74 rfl rfl ?_
    obtain ⟨y13, e14, h⟩ := Option.bind_eq_some_iff.mp h
    refine r_iald F hP 28 (xe_28 E q) e14 dX7_append_75 ?_
    refine lv_iconst (v := 1) hx hb dX7_append_76 (by decide) ?_
    refine lv_iadd hx hb dX7_append_77 ?_
    obtain ⟨q15, e16, h⟩ := Option.bind_eq_some_iff.mp h
    refine r_iast F hP hD hS 28 (xe_28 E q) (xs_28 E q) e16 dX7_append_78 ?_
    intro H locs hP hD hS
    refine lv_aload_n hx hb dX7_append_79 rfl (lv_at hl 0 rfl) ?_
    refine r_get F hP i_X7 25 (xe_25 E q15) rfl 3 (by decide) rfl lf_X7_18 rfl dX7_append_80 ?_
    refine lv_iload_n hx hb dX7_append_83 rfl (lv_at hl 1 rfl) ?_
    obtain ⟨y17, e18, h⟩ := Option.bind_eq_some_iff.mp h
    refine r_iald F hP 28 (xe_28 E q15) e18 dX7_append_84 ?_
    cases h
    exact hRt _ _ dX7_append_85 _ _ hP hD hS
  · rw [if_neg c12] at h
    refine lv_aload_n hx hb dX7_append_42 rfl (lv_at hl 0 rfl) ?_
    refine r_get F hP i_X7 25 (xe_25 E q) rfl 4 (by decide) rfl lf_X7_26 rfl dX7_append_43 ?_
    refine lv_aload_n hx hb dX7_append_46 rfl (lv_at hl 0 rfl) ?_
    refine lv_iload_n hx hb dX7_append_47 rfl (lv_at hl 1 rfl) ?_
    refine lv_aload_n hx hb dX7_append_48 rfl (lv_at hl 0 rfl) ?_
    refine r_get F hP i_X7 25 (xe_25 E q) rfl 3 (by decide) rfl lf_X7_18 rfl dX7_append_49 ?_
    refine lv_iload_n hx hb dX7_append_52 rfl (lv_at hl 1 rfl) ?_
    obtain ⟨y19, e20, h⟩ := Option.bind_eq_some_iff.mp h
    refine r_iald F hP 28 (xe_28 E q) e20 dX7_append_53 ?_
    refine lv_iload_n hx hb dX7_append_54 rfl (lv_at hl 3 rfl) ?_
    obtain ⟨r21, e22, h⟩ := Option.bind_eq_some_iff.mp h
    refine q_callV (As := [.int x1, .int y19, .int x3]) (rest := [.ref (eA E 3)]) F hA hP hD hS (c_X7_placeOf (E := E) (l := l) q x1 y19 x3 e22) k_X7_placeOf in_X7_placeOf se_X7_placeOf lm_X7_46 25 (xe_25 E q) rfl ⟨rfl, rfl⟩ ⟨by decide, by decide⟩ rfl hl.1 rfl (Nat.le_of_ble_eq_true rfl) dX7_append_55 ⟨by decide, by decide⟩ ?_
    intro H locs hP hD hS
    refine lv_aload_n hx hb dX7_append_58 rfl (lv_at hl 2 rfl) ?_
    refine lv_iload_n hx hb dX7_append_59 rfl (lv_at hl 3 rfl) ?_
    obtain ⟨r23, e24, h⟩ := Option.bind_eq_some_iff.mp h
    refine q_callV (As := [.int r21, .ref (eA E 0), .int x3]) (rest := []) F hA hP hD hS (c_X8_copy (E := E) (l := l) (v := 1) (by decide) (u := 0) (by decide) q r21 x3 e24) k_X8_copy in_X8_copy se_X8_copy lm_X7_50 3 (xe_3 E q) rfl ⟨rfl, rfl⟩ ⟨by decide, by decide⟩ rfl hl.1 rfl (Nat.le_of_ble_eq_true rfl) dX7_append_60 ⟨by decide, by decide⟩ ?_
    intro H locs hP hD hS
    refine lv_iinc (v := (x3 + (1 : Int32))) (lv' := [(3, .int (x3 + (1 : Int32))), (0, .ref (eA E 25)), (1, .int x1), (2, .ref (eA E 0))]) hx hb dX7_append_63 hl (k := 3) rfl rfl (by decide) rfl (fun ls hl => ?_)
    refine lv_goto (tgt := 32) hx hb dX7_append_66 (by decide) ?_
    exact hB32 r23 x1 (x3 + (1 : Int32)) h _ (lv_sub hl [1, 2, 3, 0] rfl) _ _ hP hD hS
def f_X7_append_32 : Nat → QS → Int32 → Int32 → Option (Int32 × QS)
  | 0 => fun _ _ _ => none
  | n + 1 => f_X7_append_32_b (f_X7_append_32 n)
theorem g_X7_append_32 {E : En} {p : Program} {l : Launch} {e : Env} {s : State} {m : MethodId} {args : Array Value} {below : List Frame} {meth : Method} {c : Code} {A : Nat → Prop} {Q : State → Prop} (F : Fx E p s m args meth c (yX7_append).cls cX7_append 4 (some .int)) (hA : ∀ z : Nat, s.heap.size ≤ z → A z) {o : Int32 × QS} (hRt : RtI (wX E) E p l e rm_X7_append s m args below meth c A Q cX7_append o) (n : Nat) : ∀ (q : QS) (x1 : Int32) (x3 : Int32), f_X7_append_32 n q x1 x3 = some o → ∀ ls : Array Slot, lv_has ls 4 [(0, .ref (eA E 25)), (1, .int x1), (2, .ref (eA E 0)), (3, .int x3)] → Wq (wX E) E p l e rm_X7_append s m args below meth c A 0 0 Q q (F0 m 32 ls []) := by
  induction n with
  | zero => intro q x1 x3 h; cases h
  | succ n ih => intro q x1 x3 h; exact g_X7_append_32_b F hA hRt ih q x1 x3 h
def f_X7_append_0 (q : QS) (x1 : Int32) : Option (Int32 × QS) :=
  (f_X7_has q x1).bind fun r1 =>
  if r1 = 0 then
    some ((-1 : Int32), q)
  else
    (rd (qI q 28) 3 x1).bind fun y4 =>
    if (40 : Int32) ≤ y4 then
      some ((-1 : Int32), q)
    else
      (f_X7_takes q x1).bind fun r7 =>
      if r7 = 0 then
        some ((-1 : Int32), q)
      else
        f_X7_append_32 FU q x1 (0 : Int32)
set_option maxHeartbeats 4000000 in
set_option maxRecDepth 100000 in
theorem g_X7_append_0 {E : En} {p : Program} {l : Launch} {e : Env} {s : State} {m : MethodId} {args : Array Value} {below : List Frame} {meth : Method} {c : Code} {A : Nat → Prop} {Q : State → Prop} (F : Fx E p s m args meth c (yX7_append).cls cX7_append 4 (some .int)) (hA : ∀ z : Nat, s.heap.size ≤ z → A z) {o : Int32 × QS} (hRt : RtI (wX E) E p l e rm_X7_append s m args below meth c A Q cX7_append o) (q : QS) (x1 : Int32) (h : f_X7_append_0 q x1 = some o) (ls : Array Slot) (hl : lv_has ls 4 [(0, .ref (eA E 25)), (1, .int x1), (2, .ref (eA E 0))]) : Wq (wX E) E p l e rm_X7_append s m args below meth c A 0 0 Q q (F0 m 0 ls []) := by
  intro H locs hP hD hS
  have hx := F.1
  have hb := F.2.1
  unfold f_X7_append_0 at h
  refine lv_aload_n hx hb dX7_append_0 rfl (lv_at hl 0 rfl) ?_
  refine lv_iload_n hx hb dX7_append_1 rfl (lv_at hl 1 rfl) ?_
  obtain ⟨r1, e2, h⟩ := Option.bind_eq_some_iff.mp h
  refine q_callV (As := [.int x1]) (rest := []) F hA hP hD hS (c_X7_has (E := E) (l := l) q x1 e2) k_X7_has in_X7_has se_X7_has lm_X7_38 25 (xe_25 E q) rfl ⟨rfl, rfl⟩ ⟨by decide, by decide⟩ rfl hl.1 rfl (Nat.le_of_ble_eq_true rfl) dX7_append_2 ⟨by decide, by decide⟩ ?_
  intro H locs hP hD hS
  refine lv_if_eq (tgt := 28) hx hb dX7_append_5 (by decide) (fun c3 => ?_) (fun c3 => ?_)
  · rw [if_pos c3] at h
    refine lv_iconst (v := (-1)) hx hb dX7_append_28 (by decide) ?_
    cases h
    exact hRt _ _ dX7_append_29 _ _ hP hD hS
  · rw [if_neg c3] at h
    refine lv_aload_n hx hb dX7_append_8 rfl (lv_at hl 0 rfl) ?_
    refine r_get F hP i_X7 25 (xe_25 E q) rfl 3 (by decide) rfl lf_X7_18 rfl dX7_append_9 ?_
    refine lv_iload_n hx hb dX7_append_12 rfl (lv_at hl 1 rfl) ?_
    obtain ⟨y4, e5, h⟩ := Option.bind_eq_some_iff.mp h
    refine r_iald F hP 28 (xe_28 E q) e5 dX7_append_13 ?_
    refine lv_bipush (v := 40) hx hb dX7_append_14 (by decide) ?_
    refine lv_icmp_ge (tgt := 28) hx hb dX7_append_16 (by decide) (fun c6 => ?_) (fun c6 => ?_)
    · rw [if_pos c6] at h
      refine lv_iconst (v := (-1)) hx hb dX7_append_28 (by decide) ?_
      cases h
      exact hRt _ _ dX7_append_29 _ _ hP hD hS
    · rw [if_neg c6] at h
      refine lv_aload_n hx hb dX7_append_19 rfl (lv_at hl 0 rfl) ?_
      refine lv_iload_n hx hb dX7_append_20 rfl (lv_at hl 1 rfl) ?_
      refine lv_aload_n hx hb dX7_append_21 rfl (lv_at hl 2 rfl) ?_
      obtain ⟨r7, e8, h⟩ := Option.bind_eq_some_iff.mp h
      refine q_callV (As := [.int x1, .ref (eA E 0)]) (rest := []) F hA hP hD hS (c_X7_takes (E := E) (l := l) q x1 e8) k_X7_takes in_X7_takes se_X7_takes lm_X7_42 25 (xe_25 E q) rfl ⟨rfl, rfl⟩ ⟨by decide, by decide⟩ rfl hl.1 rfl (Nat.le_of_ble_eq_true rfl) dX7_append_22 ⟨by decide, by decide⟩ ?_
      intro H locs hP hD hS
      refine lv_if_ne (tgt := 30) hx hb dX7_append_25 (by decide) (fun c9 => ?_) (fun c9 => ?_)
      · rw [if_neg c9] at h
        refine lv_iconst (v := 0) hx hb dX7_append_30 (by decide) ?_
        refine lv_istore_n (lv' := [(3, .int (0 : Int32)), (0, .ref (eA E 25)), (1, .int x1), (2, .ref (eA E 0))]) hx hb dX7_append_31 rfl hl (by decide) rfl (fun ls hl => ?_)
        exact g_X7_append_32 F hA hRt FU q x1 (0 : Int32) h _ (lv_sub hl [1, 2, 3, 0] rfl) _ _ hP hD hS
      · rw [if_pos c9] at h
        refine lv_iconst (v := (-1)) hx hb dX7_append_28 (by decide) ?_
        cases h
        exact hRt _ _ dX7_append_29 _ _ hP hD hS
def f_X7_append (q : QS) (x1 : Int32) : Option (Int32 × QS) := f_X7_append_0 q x1
set_option maxRecDepth 100000 in
theorem c_X7_append {E : En} {l : Launch} (q : QS) (x1 : Int32) {o : Int32 × QS} (h : f_X7_append q x1 = some o) : Ct (wX E) E l yX7_append (wy yX7_append cX7_append 4 (some .int)) rm_X7_append q o.2 [.ref (eA E 25), .int x1, .ref (eA E 0)] (some (.int o.1)) :=
  ct_I (o := o) (by decide +kernel) rfl (fun p e s m below meth c A Q F hA hRt H locs hP hD hS => en_W [.ref (eA E 25), .int x1, .ref (eA E 0)] (Nat.le_of_ble_eq_true rfl) (fun ls hl => g_X7_append_0 F hA hRt q x1 h ls (lv_sub hl [0, 1, 2] rfl) H locs hP hD hS))
def rm_X7_hasColumn : Room := { frames := 1, cells := 0, slots := 0, locals := 21 }
def f_X7_hasColumn_0 (q : QS) (x1 : Int32) (x2 : Int32) : Option (Int32) :=
  (f_X7_has q x1).bind fun r1 =>
  if r1 = 0 then
    some (0 : Int32)
  else
    if x2 < 0 then
      some (0 : Int32)
    else
      (rd (qI q 26) 3 x1).bind fun y5 =>
      if y5 ≤ x2 then
        some (0 : Int32)
      else
        some (1 : Int32)
set_option maxHeartbeats 4000000 in
set_option maxRecDepth 100000 in
theorem g_X7_hasColumn_0 {E : En} {p : Program} {l : Launch} {e : Env} {s : State} {m : MethodId} {args : Array Value} {below : List Frame} {meth : Method} {c : Code} {A : Nat → Prop} {Q : State → Prop} (F : Fx E p s m args meth c (yX7_hasColumn).cls cX7_hasColumn 3 (some .boolean)) (hA : ∀ z : Nat, s.heap.size ≤ z → A z) {q : QS} {o : Int32} (hRt : RtZ (wX E) E p l e rm_X7_hasColumn s m args below meth c A Q cX7_hasColumn (o, q)) (x1 : Int32) (x2 : Int32) (h : f_X7_hasColumn_0 q x1 x2 = some o) (ls : Array Slot) (hl : lv_has ls 3 [(0, .ref (eA E 25)), (1, .int x1), (2, .int x2)]) : Wq (wX E) E p l e rm_X7_hasColumn s m args below meth c A 0 0 Q q (F0 m 0 ls []) := by
  intro H locs hP hD hS
  have hx := F.1
  have hb := F.2.1
  unfold f_X7_hasColumn_0 at h
  refine lv_aload_n hx hb dX7_hasColumn_0 rfl (lv_at hl 0 rfl) ?_
  refine lv_iload_n hx hb dX7_hasColumn_1 rfl (lv_at hl 1 rfl) ?_
  obtain ⟨r1, e2, h⟩ := Option.bind_eq_some_iff.mp h
  refine q_callV (As := [.int x1]) (rest := []) F hA hP hD hS (c_X7_has (E := E) (l := l) q x1 e2) k_X7_has in_X7_has se_X7_has lm_X7_38 25 (xe_25 E q) rfl ⟨rfl, rfl⟩ ⟨by decide, by decide⟩ rfl hl.1 rfl (Nat.le_of_ble_eq_true rfl) dX7_hasColumn_2 ⟨by decide, by decide⟩ ?_
  intro H locs hP hD hS
  refine lv_if_eq (tgt := 26) hx hb dX7_hasColumn_5 (by decide) (fun c3 => ?_) (fun c3 => ?_)
  · rw [if_pos c3] at h
    refine lv_iconst (v := 0) hx hb dX7_hasColumn_26 (by decide) ?_
    cases h
    exact hRt _ _ zz_0 dX7_hasColumn_27 _ _ hP hD hS
  · rw [if_neg c3] at h
    refine lv_iload_n hx hb dX7_hasColumn_8 rfl (lv_at hl 2 rfl) ?_
    refine lv_if_lt (tgt := 26) hx hb dX7_hasColumn_9 (by decide) (fun c4 => ?_) (fun c4 => ?_)
    · rw [if_pos c4] at h
      refine lv_iconst (v := 0) hx hb dX7_hasColumn_26 (by decide) ?_
      cases h
      exact hRt _ _ zz_0 dX7_hasColumn_27 _ _ hP hD hS
    · rw [if_neg c4] at h
      refine lv_iload_n hx hb dX7_hasColumn_12 rfl (lv_at hl 2 rfl) ?_
      refine lv_aload_n hx hb dX7_hasColumn_13 rfl (lv_at hl 0 rfl) ?_
      refine r_get F hP i_X7 25 (xe_25 E q) rfl 1 (by decide) rfl lf_X7_9 rfl dX7_hasColumn_14 ?_
      refine lv_iload_n hx hb dX7_hasColumn_17 rfl (lv_at hl 1 rfl) ?_
      obtain ⟨y5, e6, h⟩ := Option.bind_eq_some_iff.mp h
      refine r_iald F hP 26 (xe_26 E q) e6 dX7_hasColumn_18 ?_
      refine lv_icmp_ge (tgt := 26) hx hb dX7_hasColumn_19 (by decide) (fun c7 => ?_) (fun c7 => ?_)
      · rw [if_pos c7] at h
        refine lv_iconst (v := 0) hx hb dX7_hasColumn_26 (by decide) ?_
        cases h
        exact hRt _ _ zz_0 dX7_hasColumn_27 _ _ hP hD hS
      · rw [if_neg c7] at h
        refine lv_iconst (v := 1) hx hb dX7_hasColumn_22 (by decide) ?_
        refine lv_goto (tgt := 27) hx hb dX7_hasColumn_23 (by decide) ?_
        cases h
        exact hRt _ _ zz_1 dX7_hasColumn_27 _ _ hP hD hS
def f_X7_hasColumn (q : QS) (x1 : Int32) (x2 : Int32) : Option (Int32) := f_X7_hasColumn_0 q x1 x2
set_option maxRecDepth 100000 in
theorem c_X7_hasColumn {E : En} {l : Launch} (q : QS) (x1 : Int32) (x2 : Int32) {o : Int32} (h : f_X7_hasColumn q x1 x2 = some o) : Ct (wX E) E l yX7_hasColumn (wy yX7_hasColumn cX7_hasColumn 3 (some .boolean)) rm_X7_hasColumn q q [.ref (eA E 25), .int x1, .int x2] (some (.int o)) :=
  ct_Z (o := (o, q)) (by decide +kernel) (fun p e s m below meth c A Q F hA hRt H locs hP hD hS => en_W [.ref (eA E 25), .int x1, .int x2] (Nat.le_of_ble_eq_true rfl) (fun ls hl => g_X7_hasColumn_0 F hA hRt x1 x2 h ls (lv_sub hl [0, 1, 2] rfl) H locs hP hD hS))
def rm_X7_choicesIn : Room := { frames := 1, cells := 0, slots := 0, locals := 21 }
def f_X7_choicesIn_0 (q : QS) (x1 : Int32) : Option (Int32) :=
  (f_X7_has q x1).bind fun r1 =>
  if r1 = 0 then
    some (1 : Int32)
  else
    (rd (qI q 28) 3 x1).bind fun y4 =>
    some y4
set_option maxHeartbeats 4000000 in
set_option maxRecDepth 100000 in
theorem g_X7_choicesIn_0 {E : En} {p : Program} {l : Launch} {e : Env} {s : State} {m : MethodId} {args : Array Value} {below : List Frame} {meth : Method} {c : Code} {A : Nat → Prop} {Q : State → Prop} (F : Fx E p s m args meth c (yX7_choicesIn).cls cX7_choicesIn 2 (some .int)) (hA : ∀ z : Nat, s.heap.size ≤ z → A z) {q : QS} {o : Int32} (hRt : RtI (wX E) E p l e rm_X7_choicesIn s m args below meth c A Q cX7_choicesIn (o, q)) (x1 : Int32) (h : f_X7_choicesIn_0 q x1 = some o) (ls : Array Slot) (hl : lv_has ls 2 [(0, .ref (eA E 25)), (1, .int x1)]) : Wq (wX E) E p l e rm_X7_choicesIn s m args below meth c A 0 0 Q q (F0 m 0 ls []) := by
  intro H locs hP hD hS
  have hx := F.1
  have hb := F.2.1
  unfold f_X7_choicesIn_0 at h
  refine lv_aload_n hx hb dX7_choicesIn_0 rfl (lv_at hl 0 rfl) ?_
  refine lv_iload_n hx hb dX7_choicesIn_1 rfl (lv_at hl 1 rfl) ?_
  obtain ⟨r1, e2, h⟩ := Option.bind_eq_some_iff.mp h
  refine q_callV (As := [.int x1]) (rest := []) F hA hP hD hS (c_X7_has (E := E) (l := l) q x1 e2) k_X7_has in_X7_has se_X7_has lm_X7_38 25 (xe_25 E q) rfl ⟨rfl, rfl⟩ ⟨by decide, by decide⟩ rfl hl.1 rfl (Nat.le_of_ble_eq_true rfl) dX7_choicesIn_2 ⟨by decide, by decide⟩ ?_
  intro H locs hP hD hS
  refine lv_if_eq (tgt := 17) hx hb dX7_choicesIn_5 (by decide) (fun c3 => ?_) (fun c3 => ?_)
  · rw [if_pos c3] at h
    refine lv_iconst (v := 1) hx hb dX7_choicesIn_17 (by decide) ?_
    cases h
    exact hRt _ _ dX7_choicesIn_18 _ _ hP hD hS
  · rw [if_neg c3] at h
    refine lv_aload_n hx hb dX7_choicesIn_8 rfl (lv_at hl 0 rfl) ?_
    refine r_get F hP i_X7 25 (xe_25 E q) rfl 3 (by decide) rfl lf_X7_18 rfl dX7_choicesIn_9 ?_
    refine lv_iload_n hx hb dX7_choicesIn_12 rfl (lv_at hl 1 rfl) ?_
    obtain ⟨y4, e5, h⟩ := Option.bind_eq_some_iff.mp h
    refine r_iald F hP 28 (xe_28 E q) e5 dX7_choicesIn_13 ?_
    refine lv_goto (tgt := 18) hx hb dX7_choicesIn_14 (by decide) ?_
    cases h
    exact hRt _ _ dX7_choicesIn_18 _ _ hP hD hS
def f_X7_choicesIn (q : QS) (x1 : Int32) : Option (Int32) := f_X7_choicesIn_0 q x1
set_option maxRecDepth 100000 in
theorem c_X7_choicesIn {E : En} {l : Launch} (q : QS) (x1 : Int32) {o : Int32} (h : f_X7_choicesIn q x1 = some o) : Ct (wX E) E l yX7_choicesIn (wy yX7_choicesIn cX7_choicesIn 2 (some .int)) rm_X7_choicesIn q q [.ref (eA E 25), .int x1] (some (.int o)) :=
  ct_I (o := (o, q)) (by decide +kernel) rfl (fun p e s m below meth c A Q F hA hRt H locs hP hD hS => en_W [.ref (eA E 25), .int x1] (Nat.le_of_ble_eq_true rfl) (fun ls hl => g_X7_choicesIn_0 F hA hRt x1 h ls (lv_sub hl [0, 1] rfl) H locs hP hD hS))
def rm_X7_product : Room := { frames := 1, cells := 0, slots := 0, locals := 21 }
def f_X7_product_4_b (q : QS) (B4 : Int32 → Int32 → Option (Int32)) (x1 : Int32) (x2 : Int32) : Option (Int32) :=
  if (qF q 14) ≤ x2 then
    some x1
  else
    (rd (qI q 28) 3 x2).bind fun y2 =>
    (f_J9_max_7cf53 (1 : Int32) y2).bind fun r4 =>
    B4 (x1 * r4) (x2 + (1 : Int32))
set_option maxHeartbeats 4000000 in
set_option maxRecDepth 100000 in
theorem g_X7_product_4_b {E : En} {p : Program} {l : Launch} {e : Env} {s : State} {m : MethodId} {args : Array Value} {below : List Frame} {meth : Method} {c : Code} {A : Nat → Prop} {Q : State → Prop} (F : Fx E p s m args meth c (yX7_product).cls cX7_product 3 (some .int)) (hA : ∀ z : Nat, s.heap.size ≤ z → A z) {q : QS} {o : Int32} (hRt : RtI (wX E) E p l e rm_X7_product s m args below meth c A Q cX7_product (o, q)) {B4 : Int32 → Int32 → Option (Int32)} (hB4 : ∀ (x1 : Int32) (x2 : Int32), B4 x1 x2 = some o → ∀ ls : Array Slot, lv_has ls 3 [(0, .ref (eA E 25)), (1, .int x1), (2, .int x2)] → Wq (wX E) E p l e rm_X7_product s m args below meth c A 0 0 Q q (F0 m 4 ls [])) (x1 : Int32) (x2 : Int32) (h : f_X7_product_4_b q B4 x1 x2 = some o) (ls : Array Slot) (hl : lv_has ls 3 [(0, .ref (eA E 25)), (1, .int x1), (2, .int x2)]) : Wq (wX E) E p l e rm_X7_product s m args below meth c A 0 0 Q q (F0 m 4 ls []) := by
  intro H locs hP hD hS
  have hx := F.1
  have hb := F.2.1
  unfold f_X7_product_4_b at h
  refine lv_iload_n hx hb dX7_product_4 rfl (lv_at hl 2 rfl) ?_
  refine lv_aload_n hx hb dX7_product_5 rfl (lv_at hl 0 rfl) ?_
  refine r_get F hP i_X7 25 (xe_25 E q) rfl 0 (by decide) rfl lf_X7_30 rfl dX7_product_6 ?_
  refine lv_icmp_ge (tgt := 31) hx hb dX7_product_9 (by decide) (fun c1 => ?_) (fun c1 => ?_)
  · rw [if_pos c1] at h
    refine lv_iload_n hx hb dX7_product_31 rfl (lv_at hl 1 rfl) ?_
    cases h
    exact hRt _ _ dX7_product_32 _ _ hP hD hS
  · rw [if_neg c1] at h
    refine lv_iload_n hx hb dX7_product_12 rfl (lv_at hl 1 rfl) ?_
    refine lv_iconst (v := 1) hx hb dX7_product_13 (by decide) ?_
    refine lv_aload_n hx hb dX7_product_14 rfl (lv_at hl 0 rfl) ?_
    refine r_get F hP i_X7 25 (xe_25 E q) rfl 3 (by decide) rfl lf_X7_18 rfl dX7_product_15 ?_
    refine lv_iload_n hx hb dX7_product_18 rfl (lv_at hl 2 rfl) ?_
    obtain ⟨y2, e3, h⟩ := Option.bind_eq_some_iff.mp h
    refine r_iald F hP 28 (xe_28 E q) e3 dX7_product_19 ?_
    obtain ⟨r4, e5, h⟩ := Option.bind_eq_some_iff.mp h
    refine q_callS (As := [.int (1 : Int32), .int y2]) (rest := [.int x1]) F hA hP hD hS (c_J9_max_7cf53 (E := E) (l := l) q (1 : Int32) y2 e5) k_J9_max_7cf53 st_J9_max_7cf53 lm_X7_64 ⟨rfl, rfl⟩ ⟨by decide, by decide⟩ rfl hl.1 rfl (Nat.le_of_ble_eq_true rfl) dX7_product_20 ⟨by decide, by decide⟩ ?_
    intro H locs hP hD hS
    refine lv_imul hx hb dX7_product_23 ?_
    refine lv_istore_n (lv' := [(1, .int (x1 * r4)), (0, .ref (eA E 25)), (2, .int x2)]) hx hb dX7_product_24 rfl hl (by decide) rfl (fun ls hl => ?_)
    refine lv_iinc (v := (x2 + (1 : Int32))) (lv' := [(2, .int (x2 + (1 : Int32))), (1, .int (x1 * r4)), (0, .ref (eA E 25))]) hx hb dX7_product_25 hl (k := 2) rfl rfl (by decide) rfl (fun ls hl => ?_)
    refine lv_goto (tgt := 4) hx hb dX7_product_28 (by decide) ?_
    exact hB4 (x1 * r4) (x2 + (1 : Int32)) h _ (lv_sub hl [2, 1, 0] rfl) _ _ hP hD hS
def f_X7_product_4 (q : QS) : Nat → Int32 → Int32 → Option (Int32)
  | 0 => fun _ _ => none
  | n + 1 => f_X7_product_4_b q (f_X7_product_4 q n)
theorem g_X7_product_4 {E : En} {p : Program} {l : Launch} {e : Env} {s : State} {m : MethodId} {args : Array Value} {below : List Frame} {meth : Method} {c : Code} {A : Nat → Prop} {Q : State → Prop} (F : Fx E p s m args meth c (yX7_product).cls cX7_product 3 (some .int)) (hA : ∀ z : Nat, s.heap.size ≤ z → A z) {q : QS} {o : Int32} (hRt : RtI (wX E) E p l e rm_X7_product s m args below meth c A Q cX7_product (o, q)) (n : Nat) : ∀ (x1 : Int32) (x2 : Int32), f_X7_product_4 q n x1 x2 = some o → ∀ ls : Array Slot, lv_has ls 3 [(0, .ref (eA E 25)), (1, .int x1), (2, .int x2)] → Wq (wX E) E p l e rm_X7_product s m args below meth c A 0 0 Q q (F0 m 4 ls []) := by
  induction n with
  | zero => intro x1 x2 h; cases h
  | succ n ih => intro x1 x2 h; exact g_X7_product_4_b F hA hRt ih x1 x2 h
def f_X7_product_0 (q : QS) : Option (Int32) :=
  f_X7_product_4 q FU (1 : Int32) (0 : Int32)
set_option maxHeartbeats 4000000 in
set_option maxRecDepth 100000 in
theorem g_X7_product_0 {E : En} {p : Program} {l : Launch} {e : Env} {s : State} {m : MethodId} {args : Array Value} {below : List Frame} {meth : Method} {c : Code} {A : Nat → Prop} {Q : State → Prop} (F : Fx E p s m args meth c (yX7_product).cls cX7_product 3 (some .int)) (hA : ∀ z : Nat, s.heap.size ≤ z → A z) {q : QS} {o : Int32} (hRt : RtI (wX E) E p l e rm_X7_product s m args below meth c A Q cX7_product (o, q)) (h : f_X7_product_0 q = some o) (ls : Array Slot) (hl : lv_has ls 3 [(0, .ref (eA E 25))]) : Wq (wX E) E p l e rm_X7_product s m args below meth c A 0 0 Q q (F0 m 0 ls []) := by
  intro H locs hP hD hS
  have hx := F.1
  have hb := F.2.1
  unfold f_X7_product_0 at h
  refine lv_iconst (v := 1) hx hb dX7_product_0 (by decide) ?_
  refine lv_istore_n (lv' := [(1, .int (1 : Int32)), (0, .ref (eA E 25))]) hx hb dX7_product_1 rfl hl (by decide) rfl (fun ls hl => ?_)
  refine lv_iconst (v := 0) hx hb dX7_product_2 (by decide) ?_
  refine lv_istore_n (lv' := [(2, .int (0 : Int32)), (1, .int (1 : Int32)), (0, .ref (eA E 25))]) hx hb dX7_product_3 rfl hl (by decide) rfl (fun ls hl => ?_)
  exact g_X7_product_4 F hA hRt FU (1 : Int32) (0 : Int32) h _ (lv_sub hl [2, 1, 0] rfl) _ _ hP hD hS
def f_X7_product (q : QS) : Option (Int32) := f_X7_product_0 q
set_option maxRecDepth 100000 in
theorem c_X7_product {E : En} {l : Launch} (q : QS) {o : Int32} (h : f_X7_product q = some o) : Ct (wX E) E l yX7_product (wy yX7_product cX7_product 3 (some .int)) rm_X7_product q q [.ref (eA E 25)] (some (.int o)) :=
  ct_I (o := (o, q)) (by decide +kernel) rfl (fun p e s m below meth c A Q F hA hRt H locs hP hD hS => en_W [.ref (eA E 25)] (Nat.le_of_ble_eq_true rfl) (fun ls hl => g_X7_product_0 F hA hRt h ls (lv_sub hl [0] rfl) H locs hP hD hS))
