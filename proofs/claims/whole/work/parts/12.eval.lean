def rm_X1_goTo : Room := { frames := 1, cells := 0, slots := 0, locals := 21 }
def f_X1_goTo_0 (q : QS) (x1 : Int32) : Option (QS) :=
  (f_X5_rowIn x1 (0 : Int32)).bind fun r1 =>
  (wI q 46 3 (0 : Int32) r1).bind fun q3 =>
  (f_X5_rowIn x1 (1 : Int32)).bind fun r5 =>
  (wI q3 46 3 (1 : Int32) r5).bind fun q7 =>
  (f_X5_rowIn x1 (2 : Int32)).bind fun r9 =>
  (wI q7 46 3 (2 : Int32) r9).bind fun q11 =>
  some q11
set_option maxHeartbeats 4000000 in
set_option maxRecDepth 100000 in
theorem g_X1_goTo_0 {E : En} {p : Program} {l : Launch} {e : Env} {s : State} {m : MethodId} {args : Array Value} {below : List Frame} {meth : Method} {c : Code} {A : Nat → Prop} {Q : State → Prop} (F : Fx E p s m args meth c (yX1_goTo).cls cX1_goTo 2 none) (hA : ∀ z : Nat, s.heap.size ≤ z → A z) {o : QS} (hRt : RtV (wX E) E p l e rm_X1_goTo s m args below meth c A Q cX1_goTo o) (q : QS) (x1 : Int32) (h : f_X1_goTo_0 q x1 = some o) (ls : Array Slot) (hl : lv_has ls 2 [(0, .ref (eA E 45)), (1, .int x1)]) : Wq (wX E) E p l e rm_X1_goTo s m args below meth c A 0 0 Q q (F0 m 0 ls []) := by
  intro H locs hP hD hS
  have hx := F.1
  have hb := F.2.1
  unfold f_X1_goTo_0 at h
  refine lv_aload_n hx hb dX1_goTo_0 rfl (lv_at hl 0 rfl) ?_
  refine r_get F hP i_X1 45 (xe_45 E q) rfl 3 (by decide) rfl lf_X1_9 rfl dX1_goTo_1 ?_
  refine lv_iconst (v := 0) hx hb dX1_goTo_4 (by decide) ?_
  refine lv_iload_n hx hb dX1_goTo_5 rfl (lv_at hl 1 rfl) ?_
  refine lv_iconst (v := 0) hx hb dX1_goTo_6 (by decide) ?_
  obtain ⟨r1, e2, h⟩ := Option.bind_eq_some_iff.mp h
  refine q_callS (As := [.int x1, .int (0 : Int32)]) (rest := [.int (0 : Int32), .ref (eA E 46)]) F hA hP hD hS (c_X5_rowIn (E := E) (l := l) q x1 (0 : Int32) e2) k_X5_rowIn st_X5_rowIn lm_X1_30 ⟨rfl, rfl⟩ ⟨by decide, by decide⟩ rfl hl.1 rfl (Nat.le_of_ble_eq_true rfl) dX1_goTo_7 ⟨by decide, by decide⟩ ?_
  intro H locs hP hD hS
  obtain ⟨q3, e4, h⟩ := Option.bind_eq_some_iff.mp h
  refine r_iast F hP hD hS 46 (xe_46 E q) (xs_46 E q) e4 dX1_goTo_10 ?_
  intro H locs hP hD hS
  refine lv_aload_n hx hb dX1_goTo_11 rfl (lv_at hl 0 rfl) ?_
  refine r_get F hP i_X1 45 (xe_45 E q3) rfl 3 (by decide) rfl lf_X1_9 rfl dX1_goTo_12 ?_
  refine lv_iconst (v := 1) hx hb dX1_goTo_15 (by decide) ?_
  refine lv_iload_n hx hb dX1_goTo_16 rfl (lv_at hl 1 rfl) ?_
  refine lv_iconst (v := 1) hx hb dX1_goTo_17 (by decide) ?_
  obtain ⟨r5, e6, h⟩ := Option.bind_eq_some_iff.mp h
  refine q_callS (As := [.int x1, .int (1 : Int32)]) (rest := [.int (1 : Int32), .ref (eA E 46)]) F hA hP hD hS (c_X5_rowIn (E := E) (l := l) q3 x1 (1 : Int32) e6) k_X5_rowIn st_X5_rowIn lm_X1_30 ⟨rfl, rfl⟩ ⟨by decide, by decide⟩ rfl hl.1 rfl (Nat.le_of_ble_eq_true rfl) dX1_goTo_18 ⟨by decide, by decide⟩ ?_
  intro H locs hP hD hS
  obtain ⟨q7, e8, h⟩ := Option.bind_eq_some_iff.mp h
  refine r_iast F hP hD hS 46 (xe_46 E q3) (xs_46 E q3) e8 dX1_goTo_21 ?_
  intro H locs hP hD hS
  refine lv_aload_n hx hb dX1_goTo_22 rfl (lv_at hl 0 rfl) ?_
  refine r_get F hP i_X1 45 (xe_45 E q7) rfl 3 (by decide) rfl lf_X1_9 rfl dX1_goTo_23 ?_
  refine lv_iconst (v := 2) hx hb dX1_goTo_26 (by decide) ?_
  refine lv_iload_n hx hb dX1_goTo_27 rfl (lv_at hl 1 rfl) ?_
  refine lv_iconst (v := 2) hx hb dX1_goTo_28 (by decide) ?_
  obtain ⟨r9, e10, h⟩ := Option.bind_eq_some_iff.mp h
  refine q_callS (As := [.int x1, .int (2 : Int32)]) (rest := [.int (2 : Int32), .ref (eA E 46)]) F hA hP hD hS (c_X5_rowIn (E := E) (l := l) q7 x1 (2 : Int32) e10) k_X5_rowIn st_X5_rowIn lm_X1_30 ⟨rfl, rfl⟩ ⟨by decide, by decide⟩ rfl hl.1 rfl (Nat.le_of_ble_eq_true rfl) dX1_goTo_29 ⟨by decide, by decide⟩ ?_
  intro H locs hP hD hS
  obtain ⟨q11, e12, h⟩ := Option.bind_eq_some_iff.mp h
  refine r_iast F hP hD hS 46 (xe_46 E q7) (xs_46 E q7) e12 dX1_goTo_32 ?_
  intro H locs hP hD hS
  cases h
  exact hRt _ _ dX1_goTo_33 _ _ hP hD hS
def f_X1_goTo (q : QS) (x1 : Int32) : Option (QS) := f_X1_goTo_0 q x1
set_option maxRecDepth 100000 in
theorem c_X1_goTo {E : En} {l : Launch} (q : QS) (x1 : Int32) {o : QS} (h : f_X1_goTo q x1 = some o) : Ct (wX E) E l yX1_goTo (wy yX1_goTo cX1_goTo 2 none) rm_X1_goTo q o [.ref (eA E 45), .int x1] none :=
  ct_V (o := o) (by decide +kernel) (fun p e s m below meth c A Q F hA hRt H locs hP hD hS => en_W [.ref (eA E 45), .int x1] (Nat.le_of_ble_eq_true rfl) (fun ls hl => g_X1_goTo_0 F hA hRt q x1 h ls (lv_sub hl [0, 1] rfl) H locs hP hD hS))
def rm_X1_fetch : Room := { frames := 2, cells := 0, slots := 0, locals := 46 }
def f_X1_fetch_0 (q : QS) (x1 : Int32) (x2 : Int32) (x3 : Int32) : Option (QS) :=
  (rd (qI q 46) 3 x2).bind fun y1 =>
  (f_X7_placeOf x2 y1 x3).bind fun r3 =>
  (f_X8_copy 2 1 q x1 r3).bind fun r5 =>
  some r5
set_option maxHeartbeats 4000000 in
set_option maxRecDepth 100000 in
theorem g_X1_fetch_0 {E : En} {p : Program} {l : Launch} {e : Env} {s : State} {m : MethodId} {args : Array Value} {below : List Frame} {meth : Method} {c : Code} {A : Nat → Prop} {Q : State → Prop} (F : Fx E p s m args meth c (yX1_fetch).cls cX1_fetch 4 none) (hA : ∀ z : Nat, s.heap.size ≤ z → A z) {o : QS} (hRt : RtV (wX E) E p l e rm_X1_fetch s m args below meth c A Q cX1_fetch o) (q : QS) (x1 : Int32) (x2 : Int32) (x3 : Int32) (h : f_X1_fetch_0 q x1 x2 x3 = some o) (ls : Array Slot) (hl : lv_has ls 4 [(0, .ref (eA E 45)), (1, .int x1), (2, .int x2), (3, .int x3)]) : Wq (wX E) E p l e rm_X1_fetch s m args below meth c A 0 0 Q q (F0 m 0 ls []) := by
  intro H locs hP hD hS
  have hx := F.1
  have hb := F.2.1
  unfold f_X1_fetch_0 at h
  refine lv_aload_n hx hb dX1_fetch_0 rfl (lv_at hl 0 rfl) ?_
  refine r_get F hP i_X1 45 (xe_45 E q) rfl 2 (by decide) rfl lf_X1_29 rfl dX1_fetch_1 ?_
  refine lv_iload_n hx hb dX1_fetch_4 rfl (lv_at hl 1 rfl) ?_
  refine lv_aload_n hx hb dX1_fetch_5 rfl (lv_at hl 0 rfl) ?_
  refine r_get F hP i_X1 45 (xe_45 E q) rfl 0 (by decide) rfl lf_X1_15 rfl dX1_fetch_6 ?_
  refine r_get F hP i_X7 25 (xe_25 E q) rfl 4 (by decide) rfl lf_X1_89 rfl dX1_fetch_9 ?_
  refine lv_aload_n hx hb dX1_fetch_12 rfl (lv_at hl 0 rfl) ?_
  refine r_get F hP i_X1 45 (xe_45 E q) rfl 0 (by decide) rfl lf_X1_15 rfl dX1_fetch_13 ?_
  refine lv_iload_n hx hb dX1_fetch_16 rfl (lv_at hl 2 rfl) ?_
  refine lv_aload_n hx hb dX1_fetch_17 rfl (lv_at hl 0 rfl) ?_
  refine r_get F hP i_X1 45 (xe_45 E q) rfl 3 (by decide) rfl lf_X1_9 rfl dX1_fetch_18 ?_
  refine lv_iload_n hx hb dX1_fetch_21 rfl (lv_at hl 2 rfl) ?_
  obtain ⟨y1, e2, h⟩ := Option.bind_eq_some_iff.mp h
  refine r_iald F hP 46 (xe_46 E q) e2 dX1_fetch_22 ?_
  refine lv_iload_n hx hb dX1_fetch_23 rfl (lv_at hl 3 rfl) ?_
  obtain ⟨r3, e4, h⟩ := Option.bind_eq_some_iff.mp h
  refine q_callV (As := [.int x2, .int y1, .int x3]) (rest := [.ref (eA E 3), .int x1, .ref (eA E 6)]) F hA hP hD hS (c_X7_placeOf (E := E) (l := l) q x2 y1 x3 e4) k_X7_placeOf in_X7_placeOf se_X7_placeOf lm_X1_94 25 (xe_25 E q) rfl ⟨rfl, rfl⟩ ⟨by decide, by decide⟩ rfl hl.1 rfl (Nat.le_of_ble_eq_true rfl) dX1_fetch_24 ⟨by decide, by decide⟩ ?_
  intro H locs hP hD hS
  obtain ⟨r5, e6, h⟩ := Option.bind_eq_some_iff.mp h
  refine q_callV (As := [.int x1, .ref (eA E 3), .int r3]) (rest := []) F hA hP hD hS (c_X8_copy (E := E) (l := l) (v := 2) (by decide) (u := 1) (by decide) q x1 r3 e6) k_X8_copy in_X8_copy se_X8_copy lm_X1_98 6 (xe_6 E q) rfl ⟨rfl, rfl⟩ ⟨by decide, by decide⟩ rfl hl.1 rfl (Nat.le_of_ble_eq_true rfl) dX1_fetch_27 ⟨by decide, by decide⟩ ?_
  intro H locs hP hD hS
  cases h
  exact hRt _ _ dX1_fetch_30 _ _ hP hD hS
def f_X1_fetch (q : QS) (x1 : Int32) (x2 : Int32) (x3 : Int32) : Option (QS) := f_X1_fetch_0 q x1 x2 x3
set_option maxRecDepth 100000 in
theorem c_X1_fetch {E : En} {l : Launch} (q : QS) (x1 : Int32) (x2 : Int32) (x3 : Int32) {o : QS} (h : f_X1_fetch q x1 x2 x3 = some o) : Ct (wX E) E l yX1_fetch (wy yX1_fetch cX1_fetch 4 none) rm_X1_fetch q o [.ref (eA E 45), .int x1, .int x2, .int x3] none :=
  ct_V (o := o) (by decide +kernel) (fun p e s m below meth c A Q F hA hRt H locs hP hD hS => en_W [.ref (eA E 45), .int x1, .int x2, .int x3] (Nat.le_of_ble_eq_true rfl) (fun ls hl => g_X1_fetch_0 F hA hRt q x1 x2 x3 h ls (lv_sub hl [0, 1, 2, 3] rfl) H locs hP hD hS))
def rm_X1_negate : Room := { frames := 1, cells := 0, slots := 0, locals := 23 }
def f_X1_negate_0 (q : QS) (x1 : Int32) (x2 : Int32) : Option (QS) :=
  (f_X8_isNull 2 q x2).bind fun r1 =>
  if r1 = 0 then
    (f_X8_numberOf 2 q x2).bind fun r4 =>
    (f_X8_setNumber 2 q x1 (-r4)).bind fun r6 =>
    some r6
  else
    (f_X8_setNull 2 q x1).bind fun r8 =>
    some r8
set_option maxHeartbeats 4000000 in
set_option maxRecDepth 100000 in
theorem g_X1_negate_0 {E : En} {p : Program} {l : Launch} {e : Env} {s : State} {m : MethodId} {args : Array Value} {below : List Frame} {meth : Method} {c : Code} {A : Nat → Prop} {Q : State → Prop} (F : Fx E p s m args meth c (yX1_negate).cls cX1_negate 3 none) (hA : ∀ z : Nat, s.heap.size ≤ z → A z) {o : QS} (hRt : RtV (wX E) E p l e rm_X1_negate s m args below meth c A Q cX1_negate o) (q : QS) (x1 : Int32) (x2 : Int32) (h : f_X1_negate_0 q x1 x2 = some o) (ls : Array Slot) (hl : lv_has ls 3 [(0, .ref (eA E 45)), (1, .int x1), (2, .int x2)]) : Wq (wX E) E p l e rm_X1_negate s m args below meth c A 0 0 Q q (F0 m 0 ls []) := by
  intro H locs hP hD hS
  have hx := F.1
  have hb := F.2.1
  unfold f_X1_negate_0 at h
  refine lv_aload_n hx hb dX1_negate_0 rfl (lv_at hl 0 rfl) ?_
  refine r_get F hP i_X1 45 (xe_45 E q) rfl 2 (by decide) rfl lf_X1_29 rfl dX1_negate_1 ?_
  refine lv_iload_n hx hb dX1_negate_4 rfl (lv_at hl 2 rfl) ?_
  obtain ⟨r1, e2, h⟩ := Option.bind_eq_some_iff.mp h
  refine q_callV (As := [.int x2]) (rest := []) F hA hP hD hS (c_X8_isNull (E := E) (l := l) (v := 2) (by decide) q x2 e2) k_X8_isNull in_X8_isNull se_X8_isNull lm_X1_72 6 (xe_6 E q) rfl ⟨rfl, rfl⟩ ⟨by decide, by decide⟩ rfl hl.1 rfl (Nat.le_of_ble_eq_true rfl) dX1_negate_5 ⟨by decide, by decide⟩ ?_
  intro H locs hP hD hS
  refine lv_if_eq (tgt := 22) hx hb dX1_negate_8 (by decide) (fun c3 => ?_) (fun c3 => ?_)
  · rw [if_pos c3] at h
    refine lv_aload_n hx hb dX1_negate_22 rfl (lv_at hl 0 rfl) ?_
    refine r_get F hP i_X1 45 (xe_45 E q) rfl 2 (by decide) rfl lf_X1_29 rfl dX1_negate_23 ?_
    refine lv_iload_n hx hb dX1_negate_26 rfl (lv_at hl 1 rfl) ?_
    refine lv_aload_n hx hb dX1_negate_27 rfl (lv_at hl 0 rfl) ?_
    refine r_get F hP i_X1 45 (xe_45 E q) rfl 2 (by decide) rfl lf_X1_29 rfl dX1_negate_28 ?_
    refine lv_iload_n hx hb dX1_negate_31 rfl (lv_at hl 2 rfl) ?_
    obtain ⟨r4, e5, h⟩ := Option.bind_eq_some_iff.mp h
    refine q_callV (As := [.int x2]) (rest := [.int x1, .ref (eA E 6)]) F hA hP hD hS (c_X8_numberOf (E := E) (l := l) (v := 2) (by decide) q x2 e5) k_X8_numberOf in_X8_numberOf se_X8_numberOf lm_X1_106 6 (xe_6 E q) rfl ⟨rfl, rfl⟩ ⟨by decide, by decide⟩ rfl hl.1 rfl (Nat.le_of_ble_eq_true rfl) dX1_negate_32 ⟨by decide, by decide⟩ ?_
    intro H locs hP hD hS
    refine lv_lneg hx hb dX1_negate_35 ?_
    obtain ⟨r6, e7, h⟩ := Option.bind_eq_some_iff.mp h
    refine q_callV (As := [.int x1, .long (-r4)]) (rest := []) F hA hP hD hS (c_X8_setNumber (E := E) (l := l) (v := 2) (by decide) q x1 (-r4) e7) k_X8_setNumber in_X8_setNumber se_X8_setNumber lm_X1_110 6 (xe_6 E q) rfl ⟨rfl, rfl⟩ ⟨by decide, by decide⟩ rfl hl.1 rfl (Nat.le_of_ble_eq_true rfl) dX1_negate_36 ⟨by decide, by decide⟩ ?_
    intro H locs hP hD hS
    cases h
    exact hRt _ _ dX1_negate_39 _ _ hP hD hS
  · rw [if_neg c3] at h
    refine lv_aload_n hx hb dX1_negate_11 rfl (lv_at hl 0 rfl) ?_
    refine r_get F hP i_X1 45 (xe_45 E q) rfl 2 (by decide) rfl lf_X1_29 rfl dX1_negate_12 ?_
    refine lv_iload_n hx hb dX1_negate_15 rfl (lv_at hl 1 rfl) ?_
    obtain ⟨r8, e9, h⟩ := Option.bind_eq_some_iff.mp h
    refine q_callV (As := [.int x1]) (rest := []) F hA hP hD hS (c_X8_setNull (E := E) (l := l) (v := 2) (by decide) q x1 e9) k_X8_setNull in_X8_setNull se_X8_setNull lm_X1_102 6 (xe_6 E q) rfl ⟨rfl, rfl⟩ ⟨by decide, by decide⟩ rfl hl.1 rfl (Nat.le_of_ble_eq_true rfl) dX1_negate_16 ⟨by decide, by decide⟩ ?_
    intro H locs hP hD hS
    refine lv_goto (tgt := 39) hx hb dX1_negate_19 (by decide) ?_
    cases h
    exact hRt _ _ dX1_negate_39 _ _ hP hD hS
def f_X1_negate (q : QS) (x1 : Int32) (x2 : Int32) : Option (QS) := f_X1_negate_0 q x1 x2
set_option maxRecDepth 100000 in
theorem c_X1_negate {E : En} {l : Launch} (q : QS) (x1 : Int32) (x2 : Int32) {o : QS} (h : f_X1_negate q x1 x2 = some o) : Ct (wX E) E l yX1_negate (wy yX1_negate cX1_negate 3 none) rm_X1_negate q o [.ref (eA E 45), .int x1, .int x2] none :=
  ct_V (o := o) (by decide +kernel) (fun p e s m below meth c A Q F hA hRt H locs hP hD hS => en_W [.ref (eA E 45), .int x1, .int x2] (Nat.le_of_ble_eq_true rfl) (fun ls hl => g_X1_negate_0 F hA hRt q x1 x2 h ls (lv_sub hl [0, 1, 2] rfl) H locs hP hD hS))
def rm_X1_reckon : Room := { frames := 1, cells := 0, slots := 0, locals := 23 }
def f_X1_reckon_0 (q : QS) (x1 : Int32) (x2 : Int32) (x3 : Int64) (x5 : Int64) : Option (QS) :=
  if x1 = (11 : Int32) then
    (f_X8_setNumber 2 q x2 (x3 + x5)).bind fun r18 =>
    some r18
  else
    if x1 = (12 : Int32) then
      (f_X8_setNumber 2 q x2 (x3 - x5)).bind fun r16 =>
      some r16
    else
      if x1 = (13 : Int32) then
        (f_X8_setNumber 2 q x2 (x3 * x5)).bind fun r14 =>
        some r14
      else
        if (lg_cmp x5 (0 : Int64)) = 0 then
          (f_X8_setNull 2 q x2).bind fun r12 =>
          some r12
        else
          if x1 = (14 : Int32) then
            if x5 = 0 then none else
            (f_X8_setNumber 2 q x2 (x3 / x5)).bind fun r10 =>
            some r10
          else
            if x5 = 0 then none else
            (f_X8_setNumber 2 q x2 (x3 - x3 / x5 * x5)).bind fun r7 =>
            some r7
set_option maxHeartbeats 4000000 in
set_option maxRecDepth 100000 in
theorem g_X1_reckon_0 {E : En} {p : Program} {l : Launch} {e : Env} {s : State} {m : MethodId} {args : Array Value} {below : List Frame} {meth : Method} {c : Code} {A : Nat → Prop} {Q : State → Prop} (F : Fx E p s m args meth c (yX1_reckon).cls cX1_reckon 7 none) (hA : ∀ z : Nat, s.heap.size ≤ z → A z) {o : QS} (hRt : RtV (wX E) E p l e rm_X1_reckon s m args below meth c A Q cX1_reckon o) (q : QS) (x1 : Int32) (x2 : Int32) (x3 : Int64) (x5 : Int64) (h : f_X1_reckon_0 q x1 x2 x3 x5 = some o) (ls : Array Slot) (hl : lv_has ls 7 [(0, .ref (eA E 45)), (1, .int x1), (2, .int x2), (3, .long x3), (5, .long x5)]) : Wq (wX E) E p l e rm_X1_reckon s m args below meth c A 0 0 Q q (F0 m 0 ls []) := by
  intro H locs hP hD hS
  have hx := F.1
  have hb := F.2.1
  unfold f_X1_reckon_0 at h
  refine lv_iload_n hx hb dX1_reckon_0 rfl (lv_at hl 1 rfl) ?_
  refine lv_bipush (v := 11) hx hb dX1_reckon_1 (by decide) ?_
  refine lv_icmp_ne (tgt := 21) hx hb dX1_reckon_3 (by decide) (fun c1 => ?_) (fun c1 => ?_)
  · rw [if_neg c1] at h
    refine lv_iload_n hx hb dX1_reckon_21 rfl (lv_at hl 1 rfl) ?_
    refine lv_bipush (v := 12) hx hb dX1_reckon_22 (by decide) ?_
    refine lv_icmp_ne (tgt := 42) hx hb dX1_reckon_24 (by decide) (fun c2 => ?_) (fun c2 => ?_)
    · rw [if_neg c2] at h
      refine lv_iload_n hx hb dX1_reckon_42 rfl (lv_at hl 1 rfl) ?_
      refine lv_bipush (v := 13) hx hb dX1_reckon_43 (by decide) ?_
      refine lv_icmp_ne (tgt := 63) hx hb dX1_reckon_45 (by decide) (fun c3 => ?_) (fun c3 => ?_)
      · rw [if_neg c3] at h
        refine lv_lload hx hb dX1_reckon_63 (lv_at hl 4 rfl) ?_
        refine lv_lconst (v := 0) hx hb dX1_reckon_65 (by decide) ?_
        refine W.lcmp hx hb dX1_reckon_66 ?_
        refine lv_if_ne (tgt := 81) hx hb dX1_reckon_67 (by decide) (fun c4 => ?_) (fun c4 => ?_)
        · rw [if_neg c4] at h
          refine lv_aload_n hx hb dX1_reckon_81 rfl (lv_at hl 0 rfl) ?_
          refine r_get F hP i_X1 45 (xe_45 E q) rfl 2 (by decide) rfl lf_X1_29 rfl dX1_reckon_82 ?_
          refine lv_iload_n hx hb dX1_reckon_85 rfl (lv_at hl 2 rfl) ?_
          refine lv_iload_n hx hb dX1_reckon_86 rfl (lv_at hl 1 rfl) ?_
          refine lv_bipush (v := 14) hx hb dX1_reckon_87 (by decide) ?_
          refine lv_icmp_ne (tgt := 99) hx hb dX1_reckon_89 (by decide) (fun c5 => ?_) (fun c5 => ?_)
          · rw [if_neg c5] at h
            refine lv_lload_n hx hb dX1_reckon_99 rfl (lv_at hl 3 rfl) ?_
            refine lv_lload hx hb dX1_reckon_100 (lv_at hl 4 rfl) ?_
            by_cases n6 : x5 = 0
            · rw [if_pos n6] at h; cases h
            rw [if_neg n6] at h
            refine lv_lrem hx hb dX1_reckon_102 n6 ?_
            obtain ⟨r7, e8, h⟩ := Option.bind_eq_some_iff.mp h
            refine q_callV (As := [.int x2, .long (x3 - x3 / x5 * x5)]) (rest := []) F hA hP hD hS (c_X8_setNumber (E := E) (l := l) (v := 2) (by decide) q x2 (x3 - x3 / x5 * x5) e8) k_X8_setNumber in_X8_setNumber se_X8_setNumber lm_X1_110 6 (xe_6 E q) rfl ⟨rfl, rfl⟩ ⟨by decide, by decide⟩ rfl hl.1 rfl (Nat.le_of_ble_eq_true rfl) dX1_reckon_103 ⟨by decide, by decide⟩ ?_
            intro H locs hP hD hS
            cases h
            exact hRt _ _ dX1_reckon_106 _ _ hP hD hS
          · rw [if_pos c5] at h
            refine lv_lload_n hx hb dX1_reckon_92 rfl (lv_at hl 3 rfl) ?_
            refine lv_lload hx hb dX1_reckon_93 (lv_at hl 4 rfl) ?_
            by_cases n9 : x5 = 0
            · rw [if_pos n9] at h; cases h
            rw [if_neg n9] at h
            refine lv_ldiv hx hb dX1_reckon_95 n9 ?_
            refine lv_goto (tgt := 103) hx hb dX1_reckon_96 (by decide) ?_
            obtain ⟨r10, e11, h⟩ := Option.bind_eq_some_iff.mp h
            refine q_callV (As := [.int x2, .long (x3 / x5)]) (rest := []) F hA hP hD hS (c_X8_setNumber (E := E) (l := l) (v := 2) (by decide) q x2 (x3 / x5) e11) k_X8_setNumber in_X8_setNumber se_X8_setNumber lm_X1_110 6 (xe_6 E q) rfl ⟨rfl, rfl⟩ ⟨by decide, by decide⟩ rfl hl.1 rfl (Nat.le_of_ble_eq_true rfl) dX1_reckon_103 ⟨by decide, by decide⟩ ?_
            intro H locs hP hD hS
            cases h
            exact hRt _ _ dX1_reckon_106 _ _ hP hD hS
        · rw [if_pos c4] at h
          refine lv_aload_n hx hb dX1_reckon_70 rfl (lv_at hl 0 rfl) ?_
          refine r_get F hP i_X1 45 (xe_45 E q) rfl 2 (by decide) rfl lf_X1_29 rfl dX1_reckon_71 ?_
          refine lv_iload_n hx hb dX1_reckon_74 rfl (lv_at hl 2 rfl) ?_
          obtain ⟨r12, e13, h⟩ := Option.bind_eq_some_iff.mp h
          refine q_callV (As := [.int x2]) (rest := []) F hA hP hD hS (c_X8_setNull (E := E) (l := l) (v := 2) (by decide) q x2 e13) k_X8_setNull in_X8_setNull se_X8_setNull lm_X1_102 6 (xe_6 E q) rfl ⟨rfl, rfl⟩ ⟨by decide, by decide⟩ rfl hl.1 rfl (Nat.le_of_ble_eq_true rfl) dX1_reckon_75 ⟨by decide, by decide⟩ ?_
          intro H locs hP hD hS
          refine lv_goto (tgt := 106) hx hb dX1_reckon_78 (by decide) ?_
          cases h
          exact hRt _ _ dX1_reckon_106 _ _ hP hD hS
      · rw [if_pos c3] at h
        refine lv_aload_n hx hb dX1_reckon_48 rfl (lv_at hl 0 rfl) ?_
        refine r_get F hP i_X1 45 (xe_45 E q) rfl 2 (by decide) rfl lf_X1_29 rfl dX1_reckon_49 ?_
        refine lv_iload_n hx hb dX1_reckon_52 rfl (lv_at hl 2 rfl) ?_
        refine lv_lload_n hx hb dX1_reckon_53 rfl (lv_at hl 3 rfl) ?_
        refine lv_lload hx hb dX1_reckon_54 (lv_at hl 4 rfl) ?_
        refine lv_lmul hx hb dX1_reckon_56 ?_
        obtain ⟨r14, e15, h⟩ := Option.bind_eq_some_iff.mp h
        refine q_callV (As := [.int x2, .long (x3 * x5)]) (rest := []) F hA hP hD hS (c_X8_setNumber (E := E) (l := l) (v := 2) (by decide) q x2 (x3 * x5) e15) k_X8_setNumber in_X8_setNumber se_X8_setNumber lm_X1_110 6 (xe_6 E q) rfl ⟨rfl, rfl⟩ ⟨by decide, by decide⟩ rfl hl.1 rfl (Nat.le_of_ble_eq_true rfl) dX1_reckon_57 ⟨by decide, by decide⟩ ?_
        intro H locs hP hD hS
        refine lv_goto (tgt := 106) hx hb dX1_reckon_60 (by decide) ?_
        cases h
        exact hRt _ _ dX1_reckon_106 _ _ hP hD hS
    · rw [if_pos c2] at h
      refine lv_aload_n hx hb dX1_reckon_27 rfl (lv_at hl 0 rfl) ?_
      refine r_get F hP i_X1 45 (xe_45 E q) rfl 2 (by decide) rfl lf_X1_29 rfl dX1_reckon_28 ?_
      refine lv_iload_n hx hb dX1_reckon_31 rfl (lv_at hl 2 rfl) ?_
      refine lv_lload_n hx hb dX1_reckon_32 rfl (lv_at hl 3 rfl) ?_
      refine lv_lload hx hb dX1_reckon_33 (lv_at hl 4 rfl) ?_
      refine lv_lsub hx hb dX1_reckon_35 ?_
      obtain ⟨r16, e17, h⟩ := Option.bind_eq_some_iff.mp h
      refine q_callV (As := [.int x2, .long (x3 - x5)]) (rest := []) F hA hP hD hS (c_X8_setNumber (E := E) (l := l) (v := 2) (by decide) q x2 (x3 - x5) e17) k_X8_setNumber in_X8_setNumber se_X8_setNumber lm_X1_110 6 (xe_6 E q) rfl ⟨rfl, rfl⟩ ⟨by decide, by decide⟩ rfl hl.1 rfl (Nat.le_of_ble_eq_true rfl) dX1_reckon_36 ⟨by decide, by decide⟩ ?_
      intro H locs hP hD hS
      refine lv_goto (tgt := 106) hx hb dX1_reckon_39 (by decide) ?_
      cases h
      exact hRt _ _ dX1_reckon_106 _ _ hP hD hS
  · rw [if_pos c1] at h
    refine lv_aload_n hx hb dX1_reckon_6 rfl (lv_at hl 0 rfl) ?_
    refine r_get F hP i_X1 45 (xe_45 E q) rfl 2 (by decide) rfl lf_X1_29 rfl dX1_reckon_7 ?_
    refine lv_iload_n hx hb dX1_reckon_10 rfl (lv_at hl 2 rfl) ?_
    refine lv_lload_n hx hb dX1_reckon_11 rfl (lv_at hl 3 rfl) ?_
    refine lv_lload hx hb dX1_reckon_12 (lv_at hl 4 rfl) ?_
    refine lv_ladd hx hb dX1_reckon_14 ?_
    obtain ⟨r18, e19, h⟩ := Option.bind_eq_some_iff.mp h
    refine q_callV (As := [.int x2, .long (x3 + x5)]) (rest := []) F hA hP hD hS (c_X8_setNumber (E := E) (l := l) (v := 2) (by decide) q x2 (x3 + x5) e19) k_X8_setNumber in_X8_setNumber se_X8_setNumber lm_X1_110 6 (xe_6 E q) rfl ⟨rfl, rfl⟩ ⟨by decide, by decide⟩ rfl hl.1 rfl (Nat.le_of_ble_eq_true rfl) dX1_reckon_15 ⟨by decide, by decide⟩ ?_
    intro H locs hP hD hS
    refine lv_goto (tgt := 106) hx hb dX1_reckon_18 (by decide) ?_
    cases h
    exact hRt _ _ dX1_reckon_106 _ _ hP hD hS
def f_X1_reckon (q : QS) (x1 : Int32) (x2 : Int32) (x3 : Int64) (x5 : Int64) : Option (QS) := f_X1_reckon_0 q x1 x2 x3 x5
set_option maxRecDepth 100000 in
theorem c_X1_reckon {E : En} {l : Launch} (q : QS) (x1 : Int32) (x2 : Int32) (x3 : Int64) (x5 : Int64) {o : QS} (h : f_X1_reckon q x1 x2 x3 x5 = some o) : Ct (wX E) E l yX1_reckon (wy yX1_reckon cX1_reckon 7 none) rm_X1_reckon q o [.ref (eA E 45), .int x1, .int x2, .long x3, .long x5] none :=
  ct_V (o := o) (by decide +kernel) (fun p e s m below meth c A Q F hA hRt H locs hP hD hS => en_W [.ref (eA E 45), .int x1, .int x2, .long x3, .long x5] (Nat.le_of_ble_eq_true rfl) (fun ls hl => g_X1_reckon_0 F hA hRt q x1 x2 x3 x5 h ls (lv_sub hl [0, 1, 2, 3, 4] rfl) H locs hP hD hS))
def rm_X1_holds : Room := { frames := 0, cells := 0, slots := 0, locals := 0 }
def f_X1_holds_0 (x0 : Int32) (x1 : Int32) : Option (Int32) :=
  if x0 = 17 then
    if x1 = 0 then
      some (1 : Int32)
    else
      some (0 : Int32)
  else
  if x0 = 18 then
    if x1 = 0 then
      some (0 : Int32)
    else
      some (1 : Int32)
  else
  if x0 = 19 then
    if 0 ≤ x1 then
      some (0 : Int32)
    else
      some (1 : Int32)
  else
  if x0 = 20 then
    if 0 < x1 then
      some (0 : Int32)
    else
      some (1 : Int32)
  else
  if x0 = 21 then
    if x1 ≤ 0 then
      some (0 : Int32)
    else
      some (1 : Int32)
  else
    if x1 < 0 then
      some (0 : Int32)
    else
      some (1 : Int32)
set_option maxHeartbeats 4000000 in
set_option maxRecDepth 100000 in
theorem g_X1_holds_0 {E : En} {p : Program} {l : Launch} {e : Env} {s : State} {m : MethodId} {args : Array Value} {below : List Frame} {meth : Method} {c : Code} {A : Nat → Prop} {Q : State → Prop} (F : Fx E p s m args meth c (yX1_holds).cls cX1_holds 2 (some .boolean)) (hA : ∀ z : Nat, s.heap.size ≤ z → A z) {q : QS} {o : Int32} (hRt : RtZ (wX E) E p l e rm_X1_holds s m args below meth c A Q cX1_holds (o, q)) (x0 : Int32) (x1 : Int32) (h : f_X1_holds_0 x0 x1 = some o) (ls : Array Slot) (hl : lv_has ls 2 [(0, .int x0), (1, .int x1)]) : Wq (wX E) E p l e rm_X1_holds s m args below meth c A 0 0 Q q (F0 m 0 ls []) := by
  intro H locs hP hD hS
  have hx := F.1
  have hb := F.2.1
  unfold f_X1_holds_0 at h
  refine lv_iload_n hx hb dX1_holds_0 rfl (lv_at hl 0 rfl) ?_
  by_cases c1 : x0 = 17
  · rw [if_pos c1] at h
    refine lv_tableIn (tgt := 36) (off := 35) hx hb dX1_holds_1 (by rw [c1]; decide) (by rw [c1]; decide) (by rw [c1]; decide) (by decide) ?_
    refine lv_iload_n hx hb dX1_holds_36 rfl (lv_at hl 1 rfl) ?_
    refine lv_if_ne (tgt := 44) hx hb dX1_holds_37 (by decide) (fun c2 => ?_) (fun c2 => ?_)
    · rw [if_neg c2] at h
      refine lv_iconst (v := 0) hx hb dX1_holds_44 (by decide) ?_
      cases h
      exact hRt _ _ zz_0 dX1_holds_45 _ _ hP hD hS
    · rw [if_pos c2] at h
      refine lv_iconst (v := 1) hx hb dX1_holds_40 (by decide) ?_
      refine lv_goto (tgt := 45) hx hb dX1_holds_41 (by decide) ?_
      cases h
      exact hRt _ _ zz_1 dX1_holds_45 _ _ hP hD hS
  rw [if_neg c1] at h
  by_cases c3 : x0 = 18
  · rw [if_pos c3] at h
    refine lv_tableIn (tgt := 46) (off := 45) hx hb dX1_holds_1 (by rw [c3]; decide) (by rw [c3]; decide) (by rw [c3]; decide) (by decide) ?_
    refine lv_iload_n hx hb dX1_holds_46 rfl (lv_at hl 1 rfl) ?_
    refine lv_if_eq (tgt := 54) hx hb dX1_holds_47 (by decide) (fun c4 => ?_) (fun c4 => ?_)
    · rw [if_pos c4] at h
      refine lv_iconst (v := 0) hx hb dX1_holds_54 (by decide) ?_
      cases h
      exact hRt _ _ zz_0 dX1_holds_55 _ _ hP hD hS
    · rw [if_neg c4] at h
      refine lv_iconst (v := 1) hx hb dX1_holds_50 (by decide) ?_
      refine lv_goto (tgt := 55) hx hb dX1_holds_51 (by decide) ?_
      cases h
      exact hRt _ _ zz_1 dX1_holds_55 _ _ hP hD hS
  rw [if_neg c3] at h
  by_cases c5 : x0 = 19
  · rw [if_pos c5] at h
    refine lv_tableIn (tgt := 56) (off := 55) hx hb dX1_holds_1 (by rw [c5]; decide) (by rw [c5]; decide) (by rw [c5]; decide) (by decide) ?_
    refine lv_iload_n hx hb dX1_holds_56 rfl (lv_at hl 1 rfl) ?_
    refine lv_if_ge (tgt := 64) hx hb dX1_holds_57 (by decide) (fun c6 => ?_) (fun c6 => ?_)
    · rw [if_pos c6] at h
      refine lv_iconst (v := 0) hx hb dX1_holds_64 (by decide) ?_
      cases h
      exact hRt _ _ zz_0 dX1_holds_65 _ _ hP hD hS
    · rw [if_neg c6] at h
      refine lv_iconst (v := 1) hx hb dX1_holds_60 (by decide) ?_
      refine lv_goto (tgt := 65) hx hb dX1_holds_61 (by decide) ?_
      cases h
      exact hRt _ _ zz_1 dX1_holds_65 _ _ hP hD hS
  rw [if_neg c5] at h
  by_cases c7 : x0 = 20
  · rw [if_pos c7] at h
    refine lv_tableIn (tgt := 66) (off := 65) hx hb dX1_holds_1 (by rw [c7]; decide) (by rw [c7]; decide) (by rw [c7]; decide) (by decide) ?_
    refine lv_iload_n hx hb dX1_holds_66 rfl (lv_at hl 1 rfl) ?_
    refine lv_if_gt (tgt := 74) hx hb dX1_holds_67 (by decide) (fun c8 => ?_) (fun c8 => ?_)
    · rw [if_pos c8] at h
      refine lv_iconst (v := 0) hx hb dX1_holds_74 (by decide) ?_
      cases h
      exact hRt _ _ zz_0 dX1_holds_75 _ _ hP hD hS
    · rw [if_neg c8] at h
      refine lv_iconst (v := 1) hx hb dX1_holds_70 (by decide) ?_
      refine lv_goto (tgt := 75) hx hb dX1_holds_71 (by decide) ?_
      cases h
      exact hRt _ _ zz_1 dX1_holds_75 _ _ hP hD hS
  rw [if_neg c7] at h
  by_cases c9 : x0 = 21
  · rw [if_pos c9] at h
    refine lv_tableIn (tgt := 76) (off := 75) hx hb dX1_holds_1 (by rw [c9]; decide) (by rw [c9]; decide) (by rw [c9]; decide) (by decide) ?_
    refine lv_iload_n hx hb dX1_holds_76 rfl (lv_at hl 1 rfl) ?_
    refine lv_if_le (tgt := 84) hx hb dX1_holds_77 (by decide) (fun c10 => ?_) (fun c10 => ?_)
    · rw [if_pos c10] at h
      refine lv_iconst (v := 0) hx hb dX1_holds_84 (by decide) ?_
      cases h
      exact hRt _ _ zz_0 dX1_holds_85 _ _ hP hD hS
    · rw [if_neg c10] at h
      refine lv_iconst (v := 1) hx hb dX1_holds_80 (by decide) ?_
      refine lv_goto (tgt := 85) hx hb dX1_holds_81 (by decide) ?_
      cases h
      exact hRt _ _ zz_1 dX1_holds_85 _ _ hP hD hS
  rw [if_neg c9] at h
  refine lv_tableOut (tgt := 86) hx hb dX1_holds_1 (by have := lv_neT (k := 17) (a := 17) c1 (by decide); have := lv_neT (k := 18) (a := 18) c3 (by decide); have := lv_neT (k := 19) (a := 19) c5 (by decide); have := lv_neT (k := 20) (a := 20) c7 (by decide); have := lv_neT (k := 21) (a := 21) c9 (by decide); omega) (by decide) ?_
  refine lv_iload_n hx hb dX1_holds_86 rfl (lv_at hl 1 rfl) ?_
  refine lv_if_lt (tgt := 94) hx hb dX1_holds_87 (by decide) (fun c11 => ?_) (fun c11 => ?_)
  · rw [if_pos c11] at h
    refine lv_iconst (v := 0) hx hb dX1_holds_94 (by decide) ?_
    cases h
    exact hRt _ _ zz_0 dX1_holds_95 _ _ hP hD hS
  · rw [if_neg c11] at h
    refine lv_iconst (v := 1) hx hb dX1_holds_90 (by decide) ?_
    refine lv_goto (tgt := 95) hx hb dX1_holds_91 (by decide) ?_
    cases h
    exact hRt _ _ zz_1 dX1_holds_95 _ _ hP hD hS
def f_X1_holds (x0 : Int32) (x1 : Int32) : Option (Int32) := f_X1_holds_0 x0 x1
set_option maxRecDepth 100000 in
theorem c_X1_holds {E : En} {l : Launch} (q : QS) (x0 : Int32) (x1 : Int32) {o : Int32} (h : f_X1_holds x0 x1 = some o) : Ct (wX E) E l yX1_holds (wy yX1_holds cX1_holds 2 (some .boolean)) rm_X1_holds q q [.int x0, .int x1] (some (.int o)) :=
  ct_Z (o := (o, q)) (by decide +kernel) (fun p e s m below meth c A Q F hA hRt H locs hP hD hS => en_W [.int x0, .int x1] (Nat.le_of_ble_eq_true rfl) (fun ls hl => g_X1_holds_0 F hA hRt x0 x1 h ls (lv_sub hl [0, 1] rfl) H locs hP hD hS))
def rm_X1_workOutOfTwo : Room := { frames := 2, cells := 0, slots := 0, locals := 49 }
def f_X1_workOutOfTwo_0 (q : QS) (x1 : Int32) (x2 : Int32) (x3 : Int32) (x4 : Int32) : Option (QS) :=
  (f_X8_isNull 2 q x3).bind fun r1 =>
  if r1 = 0 then
    (f_X8_isNull 2 q x4).bind fun r6 =>
    if r6 = 0 then
      if (16 : Int32) ≤ x1 then
        if x1 = (16 : Int32) then
          (f_X8_copy 2 2 q x2 x3).bind fun r17 =>
          (f_X8_appendText 2 r17 x2 x4).bind fun r19 =>
          some r19
        else
          (f_X8_compare 2 q x3 x4).bind fun r11 =>
          (f_X1_holds x1 r11).bind fun r13 =>
          (f_X8_setTruth 2 q x2 r13).bind fun r15 =>
          some r15
      else
        (f_X8_numberOf 2 q x3).bind fun r21 =>
        (f_X8_numberOf 2 q x4).bind fun r23 =>
        (f_X1_reckon q x1 x2 r21 r23).bind fun r25 =>
        some r25
    else
      (f_X8_setNull 2 q x2).bind fun r27 =>
      some r27
  else
    (f_X8_setNull 2 q x2).bind fun r4 =>
    some r4
set_option maxHeartbeats 4000000 in
set_option maxRecDepth 100000 in
theorem g_X1_workOutOfTwo_0 {E : En} {p : Program} {l : Launch} {e : Env} {s : State} {m : MethodId} {args : Array Value} {below : List Frame} {meth : Method} {c : Code} {A : Nat → Prop} {Q : State → Prop} (F : Fx E p s m args meth c (yX1_workOutOfTwo).cls cX1_workOutOfTwo 5 none) (hA : ∀ z : Nat, s.heap.size ≤ z → A z) {o : QS} (hRt : RtV (wX E) E p l e rm_X1_workOutOfTwo s m args below meth c A Q cX1_workOutOfTwo o) (q : QS) (x1 : Int32) (x2 : Int32) (x3 : Int32) (x4 : Int32) (h : f_X1_workOutOfTwo_0 q x1 x2 x3 x4 = some o) (ls : Array Slot) (hl : lv_has ls 5 [(0, .ref (eA E 45)), (1, .int x1), (2, .int x2), (3, .int x3), (4, .int x4)]) : Wq (wX E) E p l e rm_X1_workOutOfTwo s m args below meth c A 0 0 Q q (F0 m 0 ls []) := by
  intro H locs hP hD hS
  have hx := F.1
  have hb := F.2.1
  unfold f_X1_workOutOfTwo_0 at h
  refine lv_aload_n hx hb dX1_workOutOfTwo_0 rfl (lv_at hl 0 rfl) ?_
  refine r_get F hP i_X1 45 (xe_45 E q) rfl 2 (by decide) rfl lf_X1_29 rfl dX1_workOutOfTwo_1 ?_
  refine lv_iload_n hx hb dX1_workOutOfTwo_4 rfl (lv_at hl 3 rfl) ?_
  obtain ⟨r1, e2, h⟩ := Option.bind_eq_some_iff.mp h
  refine q_callV (As := [.int x3]) (rest := []) F hA hP hD hS (c_X8_isNull (E := E) (l := l) (v := 2) (by decide) q x3 e2) k_X8_isNull in_X8_isNull se_X8_isNull lm_X1_72 6 (xe_6 E q) rfl ⟨rfl, rfl⟩ ⟨by decide, by decide⟩ rfl hl.1 rfl (Nat.le_of_ble_eq_true rfl) dX1_workOutOfTwo_5 ⟨by decide, by decide⟩ ?_
  intro H locs hP hD hS
  refine lv_if_ne (tgt := 23) hx hb dX1_workOutOfTwo_8 (by decide) (fun c3 => ?_) (fun c3 => ?_)
  · rw [if_neg c3] at h
    refine lv_aload_n hx hb dX1_workOutOfTwo_23 rfl (lv_at hl 0 rfl) ?_
    refine r_get F hP i_X1 45 (xe_45 E q) rfl 2 (by decide) rfl lf_X1_29 rfl dX1_workOutOfTwo_24 ?_
    refine lv_iload_n hx hb dX1_workOutOfTwo_27 rfl (lv_at hl 2 rfl) ?_
    obtain ⟨r4, e5, h⟩ := Option.bind_eq_some_iff.mp h
    refine q_callV (As := [.int x2]) (rest := []) F hA hP hD hS (c_X8_setNull (E := E) (l := l) (v := 2) (by decide) q x2 e5) k_X8_setNull in_X8_setNull se_X8_setNull lm_X1_102 6 (xe_6 E q) rfl ⟨rfl, rfl⟩ ⟨by decide, by decide⟩ rfl hl.1 rfl (Nat.le_of_ble_eq_true rfl) dX1_workOutOfTwo_28 ⟨by decide, by decide⟩ ?_
    intro H locs hP hD hS
    refine lv_goto (tgt := 120) hx hb dX1_workOutOfTwo_31 (by decide) ?_
    cases h
    exact hRt _ _ dX1_workOutOfTwo_120 _ _ hP hD hS
  · rw [if_pos c3] at h
    refine lv_aload_n hx hb dX1_workOutOfTwo_11 rfl (lv_at hl 0 rfl) ?_
    refine r_get F hP i_X1 45 (xe_45 E q) rfl 2 (by decide) rfl lf_X1_29 rfl dX1_workOutOfTwo_12 ?_
    refine lv_iload hx hb dX1_workOutOfTwo_15 (lv_at hl 4 rfl) ?_
    obtain ⟨r6, e7, h⟩ := Option.bind_eq_some_iff.mp h
    refine q_callV (As := [.int x4]) (rest := []) F hA hP hD hS (c_X8_isNull (E := E) (l := l) (v := 2) (by decide) q x4 e7) k_X8_isNull in_X8_isNull se_X8_isNull lm_X1_72 6 (xe_6 E q) rfl ⟨rfl, rfl⟩ ⟨by decide, by decide⟩ rfl hl.1 rfl (Nat.le_of_ble_eq_true rfl) dX1_workOutOfTwo_17 ⟨by decide, by decide⟩ ?_
    intro H locs hP hD hS
    refine lv_if_eq (tgt := 34) hx hb dX1_workOutOfTwo_20 (by decide) (fun c8 => ?_) (fun c8 => ?_)
    · rw [if_pos c8] at h
      refine lv_iload_n hx hb dX1_workOutOfTwo_34 rfl (lv_at hl 1 rfl) ?_
      refine lv_bipush (v := 16) hx hb dX1_workOutOfTwo_35 (by decide) ?_
      refine lv_icmp_ge (tgt := 66) hx hb dX1_workOutOfTwo_37 (by decide) (fun c9 => ?_) (fun c9 => ?_)
      · rw [if_pos c9] at h
        refine lv_iload_n hx hb dX1_workOutOfTwo_66 rfl (lv_at hl 1 rfl) ?_
        refine lv_bipush (v := 16) hx hb dX1_workOutOfTwo_67 (by decide) ?_
        refine lv_icmp_ne (tgt := 98) hx hb dX1_workOutOfTwo_69 (by decide) (fun c10 => ?_) (fun c10 => ?_)
        · rw [if_neg c10] at h
          refine lv_aload_n hx hb dX1_workOutOfTwo_98 rfl (lv_at hl 0 rfl) ?_
          refine r_get F hP i_X1 45 (xe_45 E q) rfl 2 (by decide) rfl lf_X1_29 rfl dX1_workOutOfTwo_99 ?_
          refine lv_iload_n hx hb dX1_workOutOfTwo_102 rfl (lv_at hl 2 rfl) ?_
          refine lv_iload_n hx hb dX1_workOutOfTwo_103 rfl (lv_at hl 1 rfl) ?_
          refine lv_aload_n hx hb dX1_workOutOfTwo_104 rfl (lv_at hl 0 rfl) ?_
          refine r_get F hP i_X1 45 (xe_45 E q) rfl 2 (by decide) rfl lf_X1_29 rfl dX1_workOutOfTwo_105 ?_
          refine lv_iload_n hx hb dX1_workOutOfTwo_108 rfl (lv_at hl 3 rfl) ?_
          refine lv_iload hx hb dX1_workOutOfTwo_109 (lv_at hl 4 rfl) ?_
          obtain ⟨r11, e12, h⟩ := Option.bind_eq_some_iff.mp h
          refine q_callV (As := [.int x3, .int x4]) (rest := [.int x1, .int x2, .ref (eA E 6)]) F hA hP hD hS (c_X8_compare (E := E) (l := l) (v := 2) (by decide) q x3 x4 e12) k_X8_compare in_X8_compare se_X8_compare lm_X1_121 6 (xe_6 E q) rfl ⟨rfl, rfl⟩ ⟨by decide, by decide⟩ rfl hl.1 rfl (Nat.le_of_ble_eq_true rfl) dX1_workOutOfTwo_111 ⟨by decide, by decide⟩ ?_
          intro H locs hP hD hS
          obtain ⟨r13, e14, h⟩ := Option.bind_eq_some_iff.mp h
          refine q_callS (As := [.int x1, .int r11]) (rest := [.int x2, .ref (eA E 6)]) F hA hP hD hS (c_X1_holds (E := E) (l := l) q x1 r11 e14) k_X1_holds st_X1_holds lm_X1_124 ⟨rfl, rfl⟩ ⟨by decide, by decide⟩ rfl hl.1 rfl (Nat.le_of_ble_eq_true rfl) dX1_workOutOfTwo_114 ⟨by decide, by decide⟩ ?_
          intro H locs hP hD hS
          obtain ⟨r15, e16, h⟩ := Option.bind_eq_some_iff.mp h
          refine q_callV (As := [.int x2, .int r13]) (rest := []) F hA hP hD hS (c_X8_setTruth (E := E) (l := l) (v := 2) (by decide) q x2 r13 e16) k_X8_setTruth in_X8_setTruth se_X8_setTruth lm_X1_78 6 (xe_6 E q) rfl ⟨rfl, rfl⟩ ⟨by decide, by decide⟩ rfl hl.1 rfl (Nat.le_of_ble_eq_true rfl) dX1_workOutOfTwo_117 ⟨by decide, by decide⟩ ?_
          intro H locs hP hD hS
          cases h
          exact hRt _ _ dX1_workOutOfTwo_120 _ _ hP hD hS
        · rw [if_pos c10] at h
          refine lv_aload_n hx hb dX1_workOutOfTwo_72 rfl (lv_at hl 0 rfl) ?_
          refine r_get F hP i_X1 45 (xe_45 E q) rfl 2 (by decide) rfl lf_X1_29 rfl dX1_workOutOfTwo_73 ?_
          refine lv_iload_n hx hb dX1_workOutOfTwo_76 rfl (lv_at hl 2 rfl) ?_
          refine lv_aload_n hx hb dX1_workOutOfTwo_77 rfl (lv_at hl 0 rfl) ?_
          refine r_get F hP i_X1 45 (xe_45 E q) rfl 2 (by decide) rfl lf_X1_29 rfl dX1_workOutOfTwo_78 ?_
          refine lv_iload_n hx hb dX1_workOutOfTwo_81 rfl (lv_at hl 3 rfl) ?_
          obtain ⟨r17, e18, h⟩ := Option.bind_eq_some_iff.mp h
          refine q_callV (As := [.int x2, .ref (eA E 6), .int x3]) (rest := []) F hA hP hD hS (c_X8_copy (E := E) (l := l) (v := 2) (by decide) (u := 2) (by decide) q x2 x3 e18) k_X8_copy in_X8_copy se_X8_copy lm_X1_98 6 (xe_6 E q) rfl ⟨rfl, rfl⟩ ⟨by decide, by decide⟩ rfl hl.1 rfl (Nat.le_of_ble_eq_true rfl) dX1_workOutOfTwo_82 ⟨by decide, by decide⟩ ?_
          intro H locs hP hD hS
          refine lv_aload_n hx hb dX1_workOutOfTwo_85 rfl (lv_at hl 0 rfl) ?_
          refine r_get F hP i_X1 45 (xe_45 E r17) rfl 2 (by decide) rfl lf_X1_29 rfl dX1_workOutOfTwo_86 ?_
          refine lv_iload_n hx hb dX1_workOutOfTwo_89 rfl (lv_at hl 2 rfl) ?_
          refine lv_iload hx hb dX1_workOutOfTwo_90 (lv_at hl 4 rfl) ?_
          obtain ⟨r19, e20, h⟩ := Option.bind_eq_some_iff.mp h
          refine q_callV (As := [.int x2, .int x4]) (rest := []) F hA hP hD hS (c_X8_appendText (E := E) (l := l) (v := 2) (by decide) r17 x2 x4 e20) k_X8_appendText in_X8_appendText se_X8_appendText lm_X1_118 6 (xe_6 E r17) rfl ⟨rfl, rfl⟩ ⟨by decide, by decide⟩ rfl hl.1 rfl (Nat.le_of_ble_eq_true rfl) dX1_workOutOfTwo_92 ⟨by decide, by decide⟩ ?_
          intro H locs hP hD hS
          refine lv_goto (tgt := 120) hx hb dX1_workOutOfTwo_95 (by decide) ?_
          cases h
          exact hRt _ _ dX1_workOutOfTwo_120 _ _ hP hD hS
      · rw [if_neg c9] at h
        refine lv_aload_n hx hb dX1_workOutOfTwo_40 rfl (lv_at hl 0 rfl) ?_
        refine lv_iload_n hx hb dX1_workOutOfTwo_41 rfl (lv_at hl 1 rfl) ?_
        refine lv_iload_n hx hb dX1_workOutOfTwo_42 rfl (lv_at hl 2 rfl) ?_
        refine lv_aload_n hx hb dX1_workOutOfTwo_43 rfl (lv_at hl 0 rfl) ?_
        refine r_get F hP i_X1 45 (xe_45 E q) rfl 2 (by decide) rfl lf_X1_29 rfl dX1_workOutOfTwo_44 ?_
        refine lv_iload_n hx hb dX1_workOutOfTwo_47 rfl (lv_at hl 3 rfl) ?_
        obtain ⟨r21, e22, h⟩ := Option.bind_eq_some_iff.mp h
        refine q_callV (As := [.int x3]) (rest := [.int x2, .int x1, .ref (eA E 45)]) F hA hP hD hS (c_X8_numberOf (E := E) (l := l) (v := 2) (by decide) q x3 e22) k_X8_numberOf in_X8_numberOf se_X8_numberOf lm_X1_106 6 (xe_6 E q) rfl ⟨rfl, rfl⟩ ⟨by decide, by decide⟩ rfl hl.1 rfl (Nat.le_of_ble_eq_true rfl) dX1_workOutOfTwo_48 ⟨by decide, by decide⟩ ?_
        intro H locs hP hD hS
        refine lv_aload_n hx hb dX1_workOutOfTwo_51 rfl (lv_at hl 0 rfl) ?_
        refine r_get F hP i_X1 45 (xe_45 E q) rfl 2 (by decide) rfl lf_X1_29 rfl dX1_workOutOfTwo_52 ?_
        refine lv_iload hx hb dX1_workOutOfTwo_55 (lv_at hl 4 rfl) ?_
        obtain ⟨r23, e24, h⟩ := Option.bind_eq_some_iff.mp h
        refine q_callV (As := [.int x4]) (rest := [.long r21, .int x2, .int x1, .ref (eA E 45)]) F hA hP hD hS (c_X8_numberOf (E := E) (l := l) (v := 2) (by decide) q x4 e24) k_X8_numberOf in_X8_numberOf se_X8_numberOf lm_X1_106 6 (xe_6 E q) rfl ⟨rfl, rfl⟩ ⟨by decide, by decide⟩ rfl hl.1 rfl (Nat.le_of_ble_eq_true rfl) dX1_workOutOfTwo_57 ⟨by decide, by decide⟩ ?_
        intro H locs hP hD hS
        obtain ⟨r25, e26, h⟩ := Option.bind_eq_some_iff.mp h
        refine q_callV (As := [.int x1, .int x2, .long r21, .long r23]) (rest := []) F hA hP hD hS (c_X1_reckon (E := E) (l := l) q x1 x2 r21 r23 e26) k_X1_reckon in_X1_reckon se_X1_reckon lm_X1_114 45 (xe_45 E q) rfl ⟨rfl, rfl⟩ ⟨by decide, by decide⟩ rfl hl.1 rfl (Nat.le_of_ble_eq_true rfl) dX1_workOutOfTwo_60 ⟨by decide, by decide⟩ ?_
        intro H locs hP hD hS
        refine lv_goto (tgt := 120) hx hb dX1_workOutOfTwo_63 (by decide) ?_
        cases h
        exact hRt _ _ dX1_workOutOfTwo_120 _ _ hP hD hS
    · rw [if_neg c8] at h
      refine lv_aload_n hx hb dX1_workOutOfTwo_23 rfl (lv_at hl 0 rfl) ?_
      refine r_get F hP i_X1 45 (xe_45 E q) rfl 2 (by decide) rfl lf_X1_29 rfl dX1_workOutOfTwo_24 ?_
      refine lv_iload_n hx hb dX1_workOutOfTwo_27 rfl (lv_at hl 2 rfl) ?_
      obtain ⟨r27, e28, h⟩ := Option.bind_eq_some_iff.mp h
      refine q_callV (As := [.int x2]) (rest := []) F hA hP hD hS (c_X8_setNull (E := E) (l := l) (v := 2) (by decide) q x2 e28) k_X8_setNull in_X8_setNull se_X8_setNull lm_X1_102 6 (xe_6 E q) rfl ⟨rfl, rfl⟩ ⟨by decide, by decide⟩ rfl hl.1 rfl (Nat.le_of_ble_eq_true rfl) dX1_workOutOfTwo_28 ⟨by decide, by decide⟩ ?_
      intro H locs hP hD hS
      refine lv_goto (tgt := 120) hx hb dX1_workOutOfTwo_31 (by decide) ?_
      cases h
      exact hRt _ _ dX1_workOutOfTwo_120 _ _ hP hD hS
def f_X1_workOutOfTwo (q : QS) (x1 : Int32) (x2 : Int32) (x3 : Int32) (x4 : Int32) : Option (QS) := f_X1_workOutOfTwo_0 q x1 x2 x3 x4
set_option maxRecDepth 100000 in
theorem c_X1_workOutOfTwo {E : En} {l : Launch} (q : QS) (x1 : Int32) (x2 : Int32) (x3 : Int32) (x4 : Int32) {o : QS} (h : f_X1_workOutOfTwo q x1 x2 x3 x4 = some o) : Ct (wX E) E l yX1_workOutOfTwo (wy yX1_workOutOfTwo cX1_workOutOfTwo 5 none) rm_X1_workOutOfTwo q o [.ref (eA E 45), .int x1, .int x2, .int x3, .int x4] none :=
  ct_V (o := o) (by decide +kernel) (fun p e s m below meth c A Q F hA hRt H locs hP hD hS => en_W [.ref (eA E 45), .int x1, .int x2, .int x3, .int x4] (Nat.le_of_ble_eq_true rfl) (fun ls hl => g_X1_workOutOfTwo_0 F hA hRt q x1 x2 x3 x4 h ls (lv_sub hl [0, 1, 2, 3, 4] rfl) H locs hP hD hS))
def rm_X1_turnOver : Room := { frames := 2, cells := 0, slots := 0, locals := 43 }
def f_X1_turnOver_0 (q : QS) (x1 : Int32) (x2 : Int32) : Option (QS) :=
  (f_X8_isNull 2 q x2).bind fun r1 =>
  if r1 = 0 then
    (f_X8_isTruth 2 q x2 (0 : Int32)).bind fun r4 =>
    (f_X8_setTruth 2 q x1 r4).bind fun r6 =>
    some r6
  else
    (f_X8_setNull 2 q x1).bind fun r8 =>
    some r8
set_option maxHeartbeats 4000000 in
set_option maxRecDepth 100000 in
theorem g_X1_turnOver_0 {E : En} {p : Program} {l : Launch} {e : Env} {s : State} {m : MethodId} {args : Array Value} {below : List Frame} {meth : Method} {c : Code} {A : Nat → Prop} {Q : State → Prop} (F : Fx E p s m args meth c (yX1_turnOver).cls cX1_turnOver 3 none) (hA : ∀ z : Nat, s.heap.size ≤ z → A z) {o : QS} (hRt : RtV (wX E) E p l e rm_X1_turnOver s m args below meth c A Q cX1_turnOver o) (q : QS) (x1 : Int32) (x2 : Int32) (h : f_X1_turnOver_0 q x1 x2 = some o) (ls : Array Slot) (hl : lv_has ls 3 [(0, .ref (eA E 45)), (1, .int x1), (2, .int x2)]) : Wq (wX E) E p l e rm_X1_turnOver s m args below meth c A 0 0 Q q (F0 m 0 ls []) := by
  intro H locs hP hD hS
  have hx := F.1
  have hb := F.2.1
  unfold f_X1_turnOver_0 at h
  refine lv_aload_n hx hb dX1_turnOver_0 rfl (lv_at hl 0 rfl) ?_
  refine r_get F hP i_X1 45 (xe_45 E q) rfl 2 (by decide) rfl lf_X1_29 rfl dX1_turnOver_1 ?_
  refine lv_iload_n hx hb dX1_turnOver_4 rfl (lv_at hl 2 rfl) ?_
  obtain ⟨r1, e2, h⟩ := Option.bind_eq_some_iff.mp h
  refine q_callV (As := [.int x2]) (rest := []) F hA hP hD hS (c_X8_isNull (E := E) (l := l) (v := 2) (by decide) q x2 e2) k_X8_isNull in_X8_isNull se_X8_isNull lm_X1_72 6 (xe_6 E q) rfl ⟨rfl, rfl⟩ ⟨by decide, by decide⟩ rfl hl.1 rfl (Nat.le_of_ble_eq_true rfl) dX1_turnOver_5 ⟨by decide, by decide⟩ ?_
  intro H locs hP hD hS
  refine lv_if_eq (tgt := 22) hx hb dX1_turnOver_8 (by decide) (fun c3 => ?_) (fun c3 => ?_)
  · rw [if_pos c3] at h
    refine lv_aload_n hx hb dX1_turnOver_22 rfl (lv_at hl 0 rfl) ?_
    refine r_get F hP i_X1 45 (xe_45 E q) rfl 2 (by decide) rfl lf_X1_29 rfl dX1_turnOver_23 ?_
    refine lv_iload_n hx hb dX1_turnOver_26 rfl (lv_at hl 1 rfl) ?_
    refine lv_aload_n hx hb dX1_turnOver_27 rfl (lv_at hl 0 rfl) ?_
    refine r_get F hP i_X1 45 (xe_45 E q) rfl 2 (by decide) rfl lf_X1_29 rfl dX1_turnOver_28 ?_
    refine lv_iload_n hx hb dX1_turnOver_31 rfl (lv_at hl 2 rfl) ?_
    refine lv_iconst (v := 0) hx hb dX1_turnOver_32 (by decide) ?_
    obtain ⟨r4, e5, h⟩ := Option.bind_eq_some_iff.mp h
    refine q_callV (As := [.int x2, .int (0 : Int32)]) (rest := [.int x1, .ref (eA E 6)]) F hA hP hD hS (c_X8_isTruth (E := E) (l := l) (v := 2) (by decide) q x2 (0 : Int32) e5) k_X8_isTruth in_X8_isTruth se_X8_isTruth lm_X1_128 6 (xe_6 E q) rfl ⟨rfl, rfl⟩ ⟨by decide, by decide⟩ rfl hl.1 rfl (Nat.le_of_ble_eq_true rfl) dX1_turnOver_33 ⟨by decide, by decide⟩ ?_
    intro H locs hP hD hS
    obtain ⟨r6, e7, h⟩ := Option.bind_eq_some_iff.mp h
    refine q_callV (As := [.int x1, .int r4]) (rest := []) F hA hP hD hS (c_X8_setTruth (E := E) (l := l) (v := 2) (by decide) q x1 r4 e7) k_X8_setTruth in_X8_setTruth se_X8_setTruth lm_X1_78 6 (xe_6 E q) rfl ⟨rfl, rfl⟩ ⟨by decide, by decide⟩ rfl hl.1 rfl (Nat.le_of_ble_eq_true rfl) dX1_turnOver_36 ⟨by decide, by decide⟩ ?_
    intro H locs hP hD hS
    cases h
    exact hRt _ _ dX1_turnOver_39 _ _ hP hD hS
  · rw [if_neg c3] at h
    refine lv_aload_n hx hb dX1_turnOver_11 rfl (lv_at hl 0 rfl) ?_
    refine r_get F hP i_X1 45 (xe_45 E q) rfl 2 (by decide) rfl lf_X1_29 rfl dX1_turnOver_12 ?_
    refine lv_iload_n hx hb dX1_turnOver_15 rfl (lv_at hl 1 rfl) ?_
    obtain ⟨r8, e9, h⟩ := Option.bind_eq_some_iff.mp h
    refine q_callV (As := [.int x1]) (rest := []) F hA hP hD hS (c_X8_setNull (E := E) (l := l) (v := 2) (by decide) q x1 e9) k_X8_setNull in_X8_setNull se_X8_setNull lm_X1_102 6 (xe_6 E q) rfl ⟨rfl, rfl⟩ ⟨by decide, by decide⟩ rfl hl.1 rfl (Nat.le_of_ble_eq_true rfl) dX1_turnOver_16 ⟨by decide, by decide⟩ ?_
    intro H locs hP hD hS
    refine lv_goto (tgt := 39) hx hb dX1_turnOver_19 (by decide) ?_
    cases h
    exact hRt _ _ dX1_turnOver_39 _ _ hP hD hS
def f_X1_turnOver (q : QS) (x1 : Int32) (x2 : Int32) : Option (QS) := f_X1_turnOver_0 q x1 x2
set_option maxRecDepth 100000 in
theorem c_X1_turnOver {E : En} {l : Launch} (q : QS) (x1 : Int32) (x2 : Int32) {o : QS} (h : f_X1_turnOver q x1 x2 = some o) : Ct (wX E) E l yX1_turnOver (wy yX1_turnOver cX1_turnOver 3 none) rm_X1_turnOver q o [.ref (eA E 45), .int x1, .int x2] none :=
  ct_V (o := o) (by decide +kernel) (fun p e s m below meth c A Q F hA hRt H locs hP hD hS => en_W [.ref (eA E 45), .int x1, .int x2] (Nat.le_of_ble_eq_true rfl) (fun ls hl => g_X1_turnOver_0 F hA hRt q x1 x2 h ls (lv_sub hl [0, 1, 2] rfl) H locs hP hD hS))
def rm_X1_decide : Room := { frames := 2, cells := 0, slots := 0, locals := 43 }
def f_X1_decide_0 (q : QS) (x1 : Int32) (x2 : Int32) (x3 : Int32) (x4 : Int32) : Option (QS) :=
  (f_X8_isTruth 2 q x2 x4).bind fun r1 =>
  if r1 = 0 then
    (f_X8_isTruth 2 q x3 x4).bind fun r6 =>
    if r6 = 0 then
      (f_X8_isNull 2 q x2).bind fun r9 =>
      if r9 = 0 then
        (f_X8_isNull 2 q x3).bind fun r14 =>
        if r14 = 0 then
          if x4 = 0 then
            (f_X8_setTruth 2 q x1 (1 : Int32)).bind fun r20 =>
            some r20
          else
            (f_X8_setTruth 2 q x1 (0 : Int32)).bind fun r18 =>
            some r18
        else
          (f_X8_setNull 2 q x1).bind fun r22 =>
          some r22
      else
        (f_X8_setNull 2 q x1).bind fun r12 =>
        some r12
    else
      (f_X8_setTruth 2 q x1 x4).bind fun r24 =>
      some r24
  else
    (f_X8_setTruth 2 q x1 x4).bind fun r4 =>
    some r4
set_option maxHeartbeats 4000000 in
set_option maxRecDepth 100000 in
theorem g_X1_decide_0 {E : En} {p : Program} {l : Launch} {e : Env} {s : State} {m : MethodId} {args : Array Value} {below : List Frame} {meth : Method} {c : Code} {A : Nat → Prop} {Q : State → Prop} (F : Fx E p s m args meth c (yX1_decide).cls cX1_decide 5 none) (hA : ∀ z : Nat, s.heap.size ≤ z → A z) {o : QS} (hRt : RtV (wX E) E p l e rm_X1_decide s m args below meth c A Q cX1_decide o) (q : QS) (x1 : Int32) (x2 : Int32) (x3 : Int32) (x4 : Int32) (h : f_X1_decide_0 q x1 x2 x3 x4 = some o) (ls : Array Slot) (hl : lv_has ls 5 [(0, .ref (eA E 45)), (1, .int x1), (2, .int x2), (3, .int x3), (4, .int x4)]) : Wq (wX E) E p l e rm_X1_decide s m args below meth c A 0 0 Q q (F0 m 0 ls []) := by
  intro H locs hP hD hS
  have hx := F.1
  have hb := F.2.1
  unfold f_X1_decide_0 at h
  refine lv_aload_n hx hb dX1_decide_0 rfl (lv_at hl 0 rfl) ?_
  refine r_get F hP i_X1 45 (xe_45 E q) rfl 2 (by decide) rfl lf_X1_29 rfl dX1_decide_1 ?_
  refine lv_iload_n hx hb dX1_decide_4 rfl (lv_at hl 2 rfl) ?_
  refine lv_iload hx hb dX1_decide_5 (lv_at hl 4 rfl) ?_
  obtain ⟨r1, e2, h⟩ := Option.bind_eq_some_iff.mp h
  refine q_callV (As := [.int x2, .int x4]) (rest := []) F hA hP hD hS (c_X8_isTruth (E := E) (l := l) (v := 2) (by decide) q x2 x4 e2) k_X8_isTruth in_X8_isTruth se_X8_isTruth lm_X1_128 6 (xe_6 E q) rfl ⟨rfl, rfl⟩ ⟨by decide, by decide⟩ rfl hl.1 rfl (Nat.le_of_ble_eq_true rfl) dX1_decide_7 ⟨by decide, by decide⟩ ?_
  intro H locs hP hD hS
  refine lv_if_ne (tgt := 26) hx hb dX1_decide_10 (by decide) (fun c3 => ?_) (fun c3 => ?_)
  · rw [if_neg c3] at h
    refine lv_aload_n hx hb dX1_decide_26 rfl (lv_at hl 0 rfl) ?_
    refine r_get F hP i_X1 45 (xe_45 E q) rfl 2 (by decide) rfl lf_X1_29 rfl dX1_decide_27 ?_
    refine lv_iload_n hx hb dX1_decide_30 rfl (lv_at hl 1 rfl) ?_
    refine lv_iload hx hb dX1_decide_31 (lv_at hl 4 rfl) ?_
    obtain ⟨r4, e5, h⟩ := Option.bind_eq_some_iff.mp h
    refine q_callV (As := [.int x1, .int x4]) (rest := []) F hA hP hD hS (c_X8_setTruth (E := E) (l := l) (v := 2) (by decide) q x1 x4 e5) k_X8_setTruth in_X8_setTruth se_X8_setTruth lm_X1_78 6 (xe_6 E q) rfl ⟨rfl, rfl⟩ ⟨by decide, by decide⟩ rfl hl.1 rfl (Nat.le_of_ble_eq_true rfl) dX1_decide_33 ⟨by decide, by decide⟩ ?_
    intro H locs hP hD hS
    refine lv_goto (tgt := 90) hx hb dX1_decide_36 (by decide) ?_
    cases h
    exact hRt _ _ dX1_decide_90 _ _ hP hD hS
  · rw [if_pos c3] at h
    refine lv_aload_n hx hb dX1_decide_13 rfl (lv_at hl 0 rfl) ?_
    refine r_get F hP i_X1 45 (xe_45 E q) rfl 2 (by decide) rfl lf_X1_29 rfl dX1_decide_14 ?_
    refine lv_iload_n hx hb dX1_decide_17 rfl (lv_at hl 3 rfl) ?_
    refine lv_iload hx hb dX1_decide_18 (lv_at hl 4 rfl) ?_
    obtain ⟨r6, e7, h⟩ := Option.bind_eq_some_iff.mp h
    refine q_callV (As := [.int x3, .int x4]) (rest := []) F hA hP hD hS (c_X8_isTruth (E := E) (l := l) (v := 2) (by decide) q x3 x4 e7) k_X8_isTruth in_X8_isTruth se_X8_isTruth lm_X1_128 6 (xe_6 E q) rfl ⟨rfl, rfl⟩ ⟨by decide, by decide⟩ rfl hl.1 rfl (Nat.le_of_ble_eq_true rfl) dX1_decide_20 ⟨by decide, by decide⟩ ?_
    intro H locs hP hD hS
    refine lv_if_eq (tgt := 39) hx hb dX1_decide_23 (by decide) (fun c8 => ?_) (fun c8 => ?_)
    · rw [if_pos c8] at h
      refine lv_aload_n hx hb dX1_decide_39 rfl (lv_at hl 0 rfl) ?_
      refine r_get F hP i_X1 45 (xe_45 E q) rfl 2 (by decide) rfl lf_X1_29 rfl dX1_decide_40 ?_
      refine lv_iload_n hx hb dX1_decide_43 rfl (lv_at hl 2 rfl) ?_
      obtain ⟨r9, e10, h⟩ := Option.bind_eq_some_iff.mp h
      refine q_callV (As := [.int x2]) (rest := []) F hA hP hD hS (c_X8_isNull (E := E) (l := l) (v := 2) (by decide) q x2 e10) k_X8_isNull in_X8_isNull se_X8_isNull lm_X1_72 6 (xe_6 E q) rfl ⟨rfl, rfl⟩ ⟨by decide, by decide⟩ rfl hl.1 rfl (Nat.le_of_ble_eq_true rfl) dX1_decide_44 ⟨by decide, by decide⟩ ?_
      intro H locs hP hD hS
      refine lv_if_ne (tgt := 61) hx hb dX1_decide_47 (by decide) (fun c11 => ?_) (fun c11 => ?_)
      · rw [if_neg c11] at h
        refine lv_aload_n hx hb dX1_decide_61 rfl (lv_at hl 0 rfl) ?_
        refine r_get F hP i_X1 45 (xe_45 E q) rfl 2 (by decide) rfl lf_X1_29 rfl dX1_decide_62 ?_
        refine lv_iload_n hx hb dX1_decide_65 rfl (lv_at hl 1 rfl) ?_
        obtain ⟨r12, e13, h⟩ := Option.bind_eq_some_iff.mp h
        refine q_callV (As := [.int x1]) (rest := []) F hA hP hD hS (c_X8_setNull (E := E) (l := l) (v := 2) (by decide) q x1 e13) k_X8_setNull in_X8_setNull se_X8_setNull lm_X1_102 6 (xe_6 E q) rfl ⟨rfl, rfl⟩ ⟨by decide, by decide⟩ rfl hl.1 rfl (Nat.le_of_ble_eq_true rfl) dX1_decide_66 ⟨by decide, by decide⟩ ?_
        intro H locs hP hD hS
        refine lv_goto (tgt := 90) hx hb dX1_decide_69 (by decide) ?_
        cases h
        exact hRt _ _ dX1_decide_90 _ _ hP hD hS
      · rw [if_pos c11] at h
        refine lv_aload_n hx hb dX1_decide_50 rfl (lv_at hl 0 rfl) ?_
        refine r_get F hP i_X1 45 (xe_45 E q) rfl 2 (by decide) rfl lf_X1_29 rfl dX1_decide_51 ?_
        refine lv_iload_n hx hb dX1_decide_54 rfl (lv_at hl 3 rfl) ?_
        obtain ⟨r14, e15, h⟩ := Option.bind_eq_some_iff.mp h
        refine q_callV (As := [.int x3]) (rest := []) F hA hP hD hS (c_X8_isNull (E := E) (l := l) (v := 2) (by decide) q x3 e15) k_X8_isNull in_X8_isNull se_X8_isNull lm_X1_72 6 (xe_6 E q) rfl ⟨rfl, rfl⟩ ⟨by decide, by decide⟩ rfl hl.1 rfl (Nat.le_of_ble_eq_true rfl) dX1_decide_55 ⟨by decide, by decide⟩ ?_
        intro H locs hP hD hS
        refine lv_if_eq (tgt := 72) hx hb dX1_decide_58 (by decide) (fun c16 => ?_) (fun c16 => ?_)
        · rw [if_pos c16] at h
          refine lv_aload_n hx hb dX1_decide_72 rfl (lv_at hl 0 rfl) ?_
          refine r_get F hP i_X1 45 (xe_45 E q) rfl 2 (by decide) rfl lf_X1_29 rfl dX1_decide_73 ?_
          refine lv_iload_n hx hb dX1_decide_76 rfl (lv_at hl 1 rfl) ?_
          refine lv_iload hx hb dX1_decide_77 (lv_at hl 4 rfl) ?_
          refine lv_if_ne (tgt := 86) hx hb dX1_decide_79 (by decide) (fun c17 => ?_) (fun c17 => ?_)
          · rw [if_neg c17] at h
            refine lv_iconst (v := 0) hx hb dX1_decide_86 (by decide) ?_
            obtain ⟨r18, e19, h⟩ := Option.bind_eq_some_iff.mp h
            refine q_callV (As := [.int x1, .int (0 : Int32)]) (rest := []) F hA hP hD hS (c_X8_setTruth (E := E) (l := l) (v := 2) (by decide) q x1 (0 : Int32) e19) k_X8_setTruth in_X8_setTruth se_X8_setTruth lm_X1_78 6 (xe_6 E q) rfl ⟨rfl, rfl⟩ ⟨by decide, by decide⟩ rfl hl.1 rfl (Nat.le_of_ble_eq_true rfl) dX1_decide_87 ⟨by decide, by decide⟩ ?_
            intro H locs hP hD hS
            cases h
            exact hRt _ _ dX1_decide_90 _ _ hP hD hS
          · rw [if_pos c17] at h
            refine lv_iconst (v := 1) hx hb dX1_decide_82 (by decide) ?_
            refine lv_goto (tgt := 87) hx hb dX1_decide_83 (by decide) ?_
            obtain ⟨r20, e21, h⟩ := Option.bind_eq_some_iff.mp h
            refine q_callV (As := [.int x1, .int (1 : Int32)]) (rest := []) F hA hP hD hS (c_X8_setTruth (E := E) (l := l) (v := 2) (by decide) q x1 (1 : Int32) e21) k_X8_setTruth in_X8_setTruth se_X8_setTruth lm_X1_78 6 (xe_6 E q) rfl ⟨rfl, rfl⟩ ⟨by decide, by decide⟩ rfl hl.1 rfl (Nat.le_of_ble_eq_true rfl) dX1_decide_87 ⟨by decide, by decide⟩ ?_
            intro H locs hP hD hS
            cases h
            exact hRt _ _ dX1_decide_90 _ _ hP hD hS
        · rw [if_neg c16] at h
          refine lv_aload_n hx hb dX1_decide_61 rfl (lv_at hl 0 rfl) ?_
          refine r_get F hP i_X1 45 (xe_45 E q) rfl 2 (by decide) rfl lf_X1_29 rfl dX1_decide_62 ?_
          refine lv_iload_n hx hb dX1_decide_65 rfl (lv_at hl 1 rfl) ?_
          obtain ⟨r22, e23, h⟩ := Option.bind_eq_some_iff.mp h
          refine q_callV (As := [.int x1]) (rest := []) F hA hP hD hS (c_X8_setNull (E := E) (l := l) (v := 2) (by decide) q x1 e23) k_X8_setNull in_X8_setNull se_X8_setNull lm_X1_102 6 (xe_6 E q) rfl ⟨rfl, rfl⟩ ⟨by decide, by decide⟩ rfl hl.1 rfl (Nat.le_of_ble_eq_true rfl) dX1_decide_66 ⟨by decide, by decide⟩ ?_
          intro H locs hP hD hS
          refine lv_goto (tgt := 90) hx hb dX1_decide_69 (by decide) ?_
          cases h
          exact hRt _ _ dX1_decide_90 _ _ hP hD hS
    · rw [if_neg c8] at h
      refine lv_aload_n hx hb dX1_decide_26 rfl (lv_at hl 0 rfl) ?_
      refine r_get F hP i_X1 45 (xe_45 E q) rfl 2 (by decide) rfl lf_X1_29 rfl dX1_decide_27 ?_
      refine lv_iload_n hx hb dX1_decide_30 rfl (lv_at hl 1 rfl) ?_
      refine lv_iload hx hb dX1_decide_31 (lv_at hl 4 rfl) ?_
      obtain ⟨r24, e25, h⟩ := Option.bind_eq_some_iff.mp h
      refine q_callV (As := [.int x1, .int x4]) (rest := []) F hA hP hD hS (c_X8_setTruth (E := E) (l := l) (v := 2) (by decide) q x1 x4 e25) k_X8_setTruth in_X8_setTruth se_X8_setTruth lm_X1_78 6 (xe_6 E q) rfl ⟨rfl, rfl⟩ ⟨by decide, by decide⟩ rfl hl.1 rfl (Nat.le_of_ble_eq_true rfl) dX1_decide_33 ⟨by decide, by decide⟩ ?_
      intro H locs hP hD hS
      refine lv_goto (tgt := 90) hx hb dX1_decide_36 (by decide) ?_
      cases h
      exact hRt _ _ dX1_decide_90 _ _ hP hD hS
def f_X1_decide (q : QS) (x1 : Int32) (x2 : Int32) (x3 : Int32) (x4 : Int32) : Option (QS) := f_X1_decide_0 q x1 x2 x3 x4
set_option maxRecDepth 100000 in
theorem c_X1_decide {E : En} {l : Launch} (q : QS) (x1 : Int32) (x2 : Int32) (x3 : Int32) (x4 : Int32) {o : QS} (h : f_X1_decide q x1 x2 x3 x4 = some o) : Ct (wX E) E l yX1_decide (wy yX1_decide cX1_decide 5 none) rm_X1_decide q o [.ref (eA E 45), .int x1, .int x2, .int x3, .int x4] none :=
  ct_V (o := o) (by decide +kernel) (fun p e s m below meth c A Q F hA hRt H locs hP hD hS => en_W [.ref (eA E 45), .int x1, .int x2, .int x3, .int x4] (Nat.le_of_ble_eq_true rfl) (fun ls hl => g_X1_decide_0 F hA hRt q x1 x2 x3 x4 h ls (lv_sub hl [0, 1, 2, 3, 4] rfl) H locs hP hD hS))
def rm_X1_workOut : Room := { frames := 3, cells := 0, slots := 0, locals := 73 }
def f_X1_workOut_260 (u : Nat) (B2 : QS → Int32 → Option (QS)) (q : QS) (x2 : Int32) : Option (QS) :=
  B2 q (x2 + (1 : Int32))
set_option maxHeartbeats 4000000 in
set_option maxRecDepth 100000 in
theorem g_X1_workOut_260 {E : En} {p : Program} {l : Launch} {e : Env} {s : State} {m : MethodId} {args : Array Value} {below : List Frame} {meth : Method} {c : Code} {A : Nat → Prop} {Q : State → Prop} (F : Fx E p s m args meth c (yX1_workOut).cls cX1_workOut 5 none) (hA : ∀ z : Nat, s.heap.size ≤ z → A z) {o : QS} (hRt : RtV (wX E) E p l e rm_X1_workOut s m args below meth c A Q cX1_workOut o) {u : Nat} (hu : u < 3) {B2 : QS → Int32 → Option (QS)} (hB2 : ∀ (q : QS) (x2 : Int32), B2 q x2 = some o → ∀ ls : Array Slot, lv_has ls 5 [(0, .ref (eA E 45)), (1, .ref (eA E (15 + 3 * u))), (2, .int x2)] → Wq (wX E) E p l e rm_X1_workOut s m args below meth c A 0 0 Q q (F0 m 2 ls [])) (q : QS) (x2 : Int32) (h : f_X1_workOut_260 u B2 q x2 = some o) (ls : Array Slot) (hl : lv_has ls 5 [(0, .ref (eA E 45)), (1, .ref (eA E (15 + 3 * u))), (2, .int x2)]) : Wq (wX E) E p l e rm_X1_workOut s m args below meth c A 0 0 Q q (F0 m 260 ls []) := by
  intro H locs hP hD hS
  have hx := F.1
  have hb := F.2.1
  unfold f_X1_workOut_260 at h
  refine lv_iinc (v := (x2 + (1 : Int32))) (lv' := [(2, .int (x2 + (1 : Int32))), (0, .ref (eA E 45)), (1, .ref (eA E (15 + 3 * u)))]) hx hb dX1_workOut_260 hl (k := 2) rfl rfl (by decide) rfl (fun ls hl => ?_)
  refine lv_goto (tgt := 2) hx hb dX1_workOut_263 (by decide) ?_
  exact hB2 q (x2 + (1 : Int32)) h _ (lv_sub hl [1, 2, 0] rfl) _ _ hP hD hS
def f_X1_workOut_181 (u : Nat) (B2 : QS → Int32 → Option (QS)) (q : QS) (x2 : Int32) (t1 : Int32) (t2 : Int32) : Option (QS) :=
  (f_X8_setTruth 2 q t1 t2).bind fun r16 =>
  f_X1_workOut_260 u B2 r16 x2
set_option maxHeartbeats 4000000 in
set_option maxRecDepth 100000 in
theorem g_X1_workOut_181 {E : En} {p : Program} {l : Launch} {e : Env} {s : State} {m : MethodId} {args : Array Value} {below : List Frame} {meth : Method} {c : Code} {A : Nat → Prop} {Q : State → Prop} (F : Fx E p s m args meth c (yX1_workOut).cls cX1_workOut 5 none) (hA : ∀ z : Nat, s.heap.size ≤ z → A z) {o : QS} (hRt : RtV (wX E) E p l e rm_X1_workOut s m args below meth c A Q cX1_workOut o) {u : Nat} (hu : u < 3) {B2 : QS → Int32 → Option (QS)} (hB2 : ∀ (q : QS) (x2 : Int32), B2 q x2 = some o → ∀ ls : Array Slot, lv_has ls 5 [(0, .ref (eA E 45)), (1, .ref (eA E (15 + 3 * u))), (2, .int x2)] → Wq (wX E) E p l e rm_X1_workOut s m args below meth c A 0 0 Q q (F0 m 2 ls [])) (q : QS) (x2 : Int32) (t1 : Int32) (t2 : Int32) (h : f_X1_workOut_181 u B2 q x2 t1 t2 = some o) (ls : Array Slot) (hl : lv_has ls 5 [(0, .ref (eA E 45)), (1, .ref (eA E (15 + 3 * u))), (2, .int x2)]) : Wq (wX E) E p l e rm_X1_workOut s m args below meth c A 0 0 Q q (F0 m 181 ls [.int t2, .int t1, .ref (eA E 6)]) := by
  intro H locs hP hD hS
  have hx := F.1
  have hb := F.2.1
  unfold f_X1_workOut_181 at h
  obtain ⟨r16, e17, h⟩ := Option.bind_eq_some_iff.mp h
  refine q_callV (As := [.int t1, .int t2]) (rest := []) F hA hP hD hS (c_X8_setTruth (E := E) (l := l) (v := 2) (by decide) q t1 t2 e17) k_X8_setTruth in_X8_setTruth se_X8_setTruth lm_X1_78 6 (xe_6 E q) rfl ⟨rfl, rfl⟩ ⟨by decide, by decide⟩ rfl hl.1 rfl (Nat.le_of_ble_eq_true rfl) dX1_workOut_181 ⟨by decide, by decide⟩ ?_
  intro H locs hP hD hS
  refine lv_goto (tgt := 260) hx hb dX1_workOut_184 (by decide) ?_
  exact g_X1_workOut_260 F hA hRt hu hB2 r16 x2 h _ (lv_sub hl [0, 1, 2] rfl) _ _ hP hD hS
def f_X1_workOut_173 (u : Nat) (B2 : QS → Int32 → Option (QS)) (q : QS) (x2 : Int32) (t1 : Int32) (t2 : Int32) (t3 : Int32) : Option (QS) :=
  if t2 = t3 then
    f_X1_workOut_181 u B2 q x2 t1 (1 : Int32)
  else
    f_X1_workOut_181 u B2 q x2 t1 (0 : Int32)
set_option maxHeartbeats 4000000 in
set_option maxRecDepth 100000 in
theorem g_X1_workOut_173 {E : En} {p : Program} {l : Launch} {e : Env} {s : State} {m : MethodId} {args : Array Value} {below : List Frame} {meth : Method} {c : Code} {A : Nat → Prop} {Q : State → Prop} (F : Fx E p s m args meth c (yX1_workOut).cls cX1_workOut 5 none) (hA : ∀ z : Nat, s.heap.size ≤ z → A z) {o : QS} (hRt : RtV (wX E) E p l e rm_X1_workOut s m args below meth c A Q cX1_workOut o) {u : Nat} (hu : u < 3) {B2 : QS → Int32 → Option (QS)} (hB2 : ∀ (q : QS) (x2 : Int32), B2 q x2 = some o → ∀ ls : Array Slot, lv_has ls 5 [(0, .ref (eA E 45)), (1, .ref (eA E (15 + 3 * u))), (2, .int x2)] → Wq (wX E) E p l e rm_X1_workOut s m args below meth c A 0 0 Q q (F0 m 2 ls [])) (q : QS) (x2 : Int32) (t1 : Int32) (t2 : Int32) (t3 : Int32) (h : f_X1_workOut_173 u B2 q x2 t1 t2 t3 = some o) (ls : Array Slot) (hl : lv_has ls 5 [(0, .ref (eA E 45)), (1, .ref (eA E (15 + 3 * u))), (2, .int x2)]) : Wq (wX E) E p l e rm_X1_workOut s m args below meth c A 0 0 Q q (F0 m 173 ls [.int t3, .int t2, .int t1, .ref (eA E 6)]) := by
  intro H locs hP hD hS
  have hx := F.1
  have hb := F.2.1
  unfold f_X1_workOut_173 at h
  refine lv_icmp_ne (tgt := 180) hx hb dX1_workOut_173 (by decide) (fun c15 => ?_) (fun c15 => ?_)
  · rw [if_neg c15] at h
    refine lv_iconst (v := 0) hx hb dX1_workOut_180 (by decide) ?_
    exact g_X1_workOut_181 F hA hRt hu hB2 q x2 t1 (0 : Int32) h _ (lv_sub hl [0, 1, 2] rfl) _ _ hP hD hS
  · rw [if_pos c15] at h
    refine lv_iconst (v := 1) hx hb dX1_workOut_176 (by decide) ?_
    refine lv_goto (tgt := 181) hx hb dX1_workOut_177 (by decide) ?_
    exact g_X1_workOut_181 F hA hRt hu hB2 q x2 t1 (1 : Int32) h _ (lv_sub hl [0, 1, 2] rfl) _ _ hP hD hS
def f_X1_workOut_140 (u : Nat) (B2 : QS → Int32 → Option (QS)) (q : QS) (x2 : Int32) (x3 : Int32) (x4 : Int32) : Option (QS) :=
  (rd (qI q 32) 200 x3).bind fun y10 =>
  (f_X8_isNull 2 q y10).bind fun r12 =>
  if x4 = (23 : Int32) then
    f_X1_workOut_173 u B2 q x2 x3 r12 (1 : Int32)
  else
    f_X1_workOut_173 u B2 q x2 x3 r12 (0 : Int32)
set_option maxHeartbeats 4000000 in
set_option maxRecDepth 100000 in
theorem g_X1_workOut_140 {E : En} {p : Program} {l : Launch} {e : Env} {s : State} {m : MethodId} {args : Array Value} {below : List Frame} {meth : Method} {c : Code} {A : Nat → Prop} {Q : State → Prop} (F : Fx E p s m args meth c (yX1_workOut).cls cX1_workOut 5 none) (hA : ∀ z : Nat, s.heap.size ≤ z → A z) {o : QS} (hRt : RtV (wX E) E p l e rm_X1_workOut s m args below meth c A Q cX1_workOut o) {u : Nat} (hu : u < 3) {B2 : QS → Int32 → Option (QS)} (hB2 : ∀ (q : QS) (x2 : Int32), B2 q x2 = some o → ∀ ls : Array Slot, lv_has ls 5 [(0, .ref (eA E 45)), (1, .ref (eA E (15 + 3 * u))), (2, .int x2)] → Wq (wX E) E p l e rm_X1_workOut s m args below meth c A 0 0 Q q (F0 m 2 ls [])) (q : QS) (x2 : Int32) (x3 : Int32) (x4 : Int32) (h : f_X1_workOut_140 u B2 q x2 x3 x4 = some o) (ls : Array Slot) (hl : lv_has ls 5 [(0, .ref (eA E 45)), (1, .ref (eA E (15 + 3 * u))), (2, .int x2), (3, .int x3), (4, .int x4)]) : Wq (wX E) E p l e rm_X1_workOut s m args below meth c A 0 0 Q q (F0 m 140 ls []) := by
  intro H locs hP hD hS
  have hx := F.1
  have hb := F.2.1
  unfold f_X1_workOut_140 at h
  refine lv_aload_n hx hb dX1_workOut_140 rfl (lv_at hl 0 rfl) ?_
  refine r_get F hP i_X1 45 (xe_45 E q) rfl 2 (by decide) rfl lf_X1_29 rfl dX1_workOut_141 ?_
  refine lv_iload_n hx hb dX1_workOut_144 rfl (lv_at hl 3 rfl) ?_
  refine lv_aload_n hx hb dX1_workOut_145 rfl (lv_at hl 0 rfl) ?_
  refine r_get F hP i_X1 45 (xe_45 E q) rfl 2 (by decide) rfl lf_X1_29 rfl dX1_workOut_146 ?_
  refine lv_aload_n hx hb dX1_workOut_149 rfl (lv_at hl 0 rfl) ?_
  refine r_get F hP i_X1 45 (xe_45 E q) rfl 1 (by decide) rfl lf_X1_19 rfl dX1_workOut_150 ?_
  refine r_get F hP i_X2 29 (xe_29 E q) rfl 3 (by decide) rfl lf_X1_58 rfl dX1_workOut_153 ?_
  refine lv_iload_n hx hb dX1_workOut_156 rfl (lv_at hl 3 rfl) ?_
  obtain ⟨y10, e11, h⟩ := Option.bind_eq_some_iff.mp h
  refine r_iald F hP 32 (xe_32 E q) e11 dX1_workOut_157 ?_
  obtain ⟨r12, e13, h⟩ := Option.bind_eq_some_iff.mp h
  refine q_callV (As := [.int y10]) (rest := [.int x3, .ref (eA E 6)]) F hA hP hD hS (c_X8_isNull (E := E) (l := l) (v := 2) (by decide) q y10 e13) k_X8_isNull in_X8_isNull se_X8_isNull lm_X1_72 6 (xe_6 E q) rfl ⟨rfl, rfl⟩ ⟨by decide, by decide⟩ rfl hl.1 rfl (Nat.le_of_ble_eq_true rfl) dX1_workOut_158 ⟨by decide, by decide⟩ ?_
  intro H locs hP hD hS
  refine lv_iload hx hb dX1_workOut_161 (lv_at hl 4 rfl) ?_
  refine lv_bipush (v := 23) hx hb dX1_workOut_163 (by decide) ?_
  refine lv_icmp_ne (tgt := 172) hx hb dX1_workOut_165 (by decide) (fun c14 => ?_) (fun c14 => ?_)
  · rw [if_neg c14] at h
    refine lv_iconst (v := 0) hx hb dX1_workOut_172 (by decide) ?_
    exact g_X1_workOut_173 F hA hRt hu hB2 q x2 x3 r12 (0 : Int32) h _ (lv_sub hl [0, 1, 2] rfl) _ _ hP hD hS
  · rw [if_pos c14] at h
    refine lv_iconst (v := 1) hx hb dX1_workOut_168 (by decide) ?_
    refine lv_goto (tgt := 173) hx hb dX1_workOut_169 (by decide) ?_
    exact g_X1_workOut_173 F hA hRt hu hB2 q x2 x3 r12 (1 : Int32) h _ (lv_sub hl [0, 1, 2] rfl) _ _ hP hD hS
def f_X1_workOut_257 (u : Nat) (B2 : QS → Int32 → Option (QS)) (q : QS) (x2 : Int32) (t1 : Int32) (t2 : Int32) (t3 : Int32) (t4 : Int32) : Option (QS) :=
  (f_X1_decide q t1 t2 t3 t4).bind fun r26 =>
  f_X1_workOut_260 u B2 r26 x2
set_option maxHeartbeats 4000000 in
set_option maxRecDepth 100000 in
theorem g_X1_workOut_257 {E : En} {p : Program} {l : Launch} {e : Env} {s : State} {m : MethodId} {args : Array Value} {below : List Frame} {meth : Method} {c : Code} {A : Nat → Prop} {Q : State → Prop} (F : Fx E p s m args meth c (yX1_workOut).cls cX1_workOut 5 none) (hA : ∀ z : Nat, s.heap.size ≤ z → A z) {o : QS} (hRt : RtV (wX E) E p l e rm_X1_workOut s m args below meth c A Q cX1_workOut o) {u : Nat} (hu : u < 3) {B2 : QS → Int32 → Option (QS)} (hB2 : ∀ (q : QS) (x2 : Int32), B2 q x2 = some o → ∀ ls : Array Slot, lv_has ls 5 [(0, .ref (eA E 45)), (1, .ref (eA E (15 + 3 * u))), (2, .int x2)] → Wq (wX E) E p l e rm_X1_workOut s m args below meth c A 0 0 Q q (F0 m 2 ls [])) (q : QS) (x2 : Int32) (t1 : Int32) (t2 : Int32) (t3 : Int32) (t4 : Int32) (h : f_X1_workOut_257 u B2 q x2 t1 t2 t3 t4 = some o) (ls : Array Slot) (hl : lv_has ls 5 [(0, .ref (eA E 45)), (1, .ref (eA E (15 + 3 * u))), (2, .int x2)]) : Wq (wX E) E p l e rm_X1_workOut s m args below meth c A 0 0 Q q (F0 m 257 ls [.int t4, .int t3, .int t2, .int t1, .ref (eA E 45)]) := by
  intro H locs hP hD hS
  have hx := F.1
  have hb := F.2.1
  unfold f_X1_workOut_257 at h
  obtain ⟨r26, e27, h⟩ := Option.bind_eq_some_iff.mp h
  refine q_callV (As := [.int t1, .int t2, .int t3, .int t4]) (rest := []) F hA hP hD hS (c_X1_decide (E := E) (l := l) q t1 t2 t3 t4 e27) k_X1_decide in_X1_decide se_X1_decide lm_X1_85 45 (xe_45 E q) rfl ⟨rfl, rfl⟩ ⟨by decide, by decide⟩ rfl hl.1 rfl (Nat.le_of_ble_eq_true rfl) dX1_workOut_257 ⟨by decide, by decide⟩ ?_
  intro H locs hP hD hS
  exact g_X1_workOut_260 F hA hRt hu hB2 r26 x2 h _ (lv_sub hl [0, 1, 2] rfl) _ _ hP hD hS
def f_X1_workOut_225 (u : Nat) (B2 : QS → Int32 → Option (QS)) (q : QS) (x2 : Int32) (x3 : Int32) (x4 : Int32) : Option (QS) :=
  (rd (qI q 32) 200 x3).bind fun y21 =>
  (rd (qI q 33) 200 x3).bind fun y23 =>
  if x4 = (27 : Int32) then
    f_X1_workOut_257 u B2 q x2 x3 y21 y23 (1 : Int32)
  else
    f_X1_workOut_257 u B2 q x2 x3 y21 y23 (0 : Int32)
set_option maxHeartbeats 4000000 in
set_option maxRecDepth 100000 in
theorem g_X1_workOut_225 {E : En} {p : Program} {l : Launch} {e : Env} {s : State} {m : MethodId} {args : Array Value} {below : List Frame} {meth : Method} {c : Code} {A : Nat → Prop} {Q : State → Prop} (F : Fx E p s m args meth c (yX1_workOut).cls cX1_workOut 5 none) (hA : ∀ z : Nat, s.heap.size ≤ z → A z) {o : QS} (hRt : RtV (wX E) E p l e rm_X1_workOut s m args below meth c A Q cX1_workOut o) {u : Nat} (hu : u < 3) {B2 : QS → Int32 → Option (QS)} (hB2 : ∀ (q : QS) (x2 : Int32), B2 q x2 = some o → ∀ ls : Array Slot, lv_has ls 5 [(0, .ref (eA E 45)), (1, .ref (eA E (15 + 3 * u))), (2, .int x2)] → Wq (wX E) E p l e rm_X1_workOut s m args below meth c A 0 0 Q q (F0 m 2 ls [])) (q : QS) (x2 : Int32) (x3 : Int32) (x4 : Int32) (h : f_X1_workOut_225 u B2 q x2 x3 x4 = some o) (ls : Array Slot) (hl : lv_has ls 5 [(0, .ref (eA E 45)), (1, .ref (eA E (15 + 3 * u))), (2, .int x2), (3, .int x3), (4, .int x4)]) : Wq (wX E) E p l e rm_X1_workOut s m args below meth c A 0 0 Q q (F0 m 225 ls []) := by
  intro H locs hP hD hS
  have hx := F.1
  have hb := F.2.1
  unfold f_X1_workOut_225 at h
  refine lv_aload_n hx hb dX1_workOut_225 rfl (lv_at hl 0 rfl) ?_
  refine lv_iload_n hx hb dX1_workOut_226 rfl (lv_at hl 3 rfl) ?_
  refine lv_aload_n hx hb dX1_workOut_227 rfl (lv_at hl 0 rfl) ?_
  refine r_get F hP i_X1 45 (xe_45 E q) rfl 1 (by decide) rfl lf_X1_19 rfl dX1_workOut_228 ?_
  refine r_get F hP i_X2 29 (xe_29 E q) rfl 3 (by decide) rfl lf_X1_58 rfl dX1_workOut_231 ?_
  refine lv_iload_n hx hb dX1_workOut_234 rfl (lv_at hl 3 rfl) ?_
  obtain ⟨y21, e22, h⟩ := Option.bind_eq_some_iff.mp h
  refine r_iald F hP 32 (xe_32 E q) e22 dX1_workOut_235 ?_
  refine lv_aload_n hx hb dX1_workOut_236 rfl (lv_at hl 0 rfl) ?_
  refine r_get F hP i_X1 45 (xe_45 E q) rfl 1 (by decide) rfl lf_X1_19 rfl dX1_workOut_237 ?_
  refine r_get F hP i_X2 29 (xe_29 E q) rfl 4 (by decide) rfl lf_X1_65 rfl dX1_workOut_240 ?_
  refine lv_iload_n hx hb dX1_workOut_243 rfl (lv_at hl 3 rfl) ?_
  obtain ⟨y23, e24, h⟩ := Option.bind_eq_some_iff.mp h
  refine r_iald F hP 33 (xe_33 E q) e24 dX1_workOut_244 ?_
  refine lv_iload hx hb dX1_workOut_245 (lv_at hl 4 rfl) ?_
  refine lv_bipush (v := 27) hx hb dX1_workOut_247 (by decide) ?_
  refine lv_icmp_ne (tgt := 256) hx hb dX1_workOut_249 (by decide) (fun c25 => ?_) (fun c25 => ?_)
  · rw [if_neg c25] at h
    refine lv_iconst (v := 0) hx hb dX1_workOut_256 (by decide) ?_
    exact g_X1_workOut_257 F hA hRt hu hB2 q x2 x3 y21 y23 (0 : Int32) h _ (lv_sub hl [0, 1, 2] rfl) _ _ hP hD hS
  · rw [if_pos c25] at h
    refine lv_iconst (v := 1) hx hb dX1_workOut_252 (by decide) ?_
    refine lv_goto (tgt := 257) hx hb dX1_workOut_253 (by decide) ?_
    exact g_X1_workOut_257 F hA hRt hu hB2 q x2 x3 y21 y23 (1 : Int32) h _ (lv_sub hl [0, 1, 2] rfl) _ _ hP hD hS
def f_X1_workOut_126 (u : Nat) (B2 : QS → Int32 → Option (QS)) (q : QS) (x2 : Int32) (x3 : Int32) (x4 : Int32) : Option (QS) :=
  if x4 = (23 : Int32) then
    f_X1_workOut_140 u B2 q x2 x3 x4
  else
    if x4 = (24 : Int32) then
      f_X1_workOut_140 u B2 q x2 x3 x4
    else
      if x4 = (25 : Int32) then
        (rd (qI q 32) 200 x3).bind fun y29 =>
        (f_X1_turnOver q x3 y29).bind fun r31 =>
        f_X1_workOut_260 u B2 r31 x2
      else
        if x4 = (26 : Int32) then
          f_X1_workOut_225 u B2 q x2 x3 x4
        else
          if x4 = (27 : Int32) then
            f_X1_workOut_225 u B2 q x2 x3 x4
          else
            f_X1_workOut_260 u B2 q x2
set_option maxHeartbeats 4000000 in
set_option maxRecDepth 100000 in
theorem g_X1_workOut_126 {E : En} {p : Program} {l : Launch} {e : Env} {s : State} {m : MethodId} {args : Array Value} {below : List Frame} {meth : Method} {c : Code} {A : Nat → Prop} {Q : State → Prop} (F : Fx E p s m args meth c (yX1_workOut).cls cX1_workOut 5 none) (hA : ∀ z : Nat, s.heap.size ≤ z → A z) {o : QS} (hRt : RtV (wX E) E p l e rm_X1_workOut s m args below meth c A Q cX1_workOut o) {u : Nat} (hu : u < 3) {B2 : QS → Int32 → Option (QS)} (hB2 : ∀ (q : QS) (x2 : Int32), B2 q x2 = some o → ∀ ls : Array Slot, lv_has ls 5 [(0, .ref (eA E 45)), (1, .ref (eA E (15 + 3 * u))), (2, .int x2)] → Wq (wX E) E p l e rm_X1_workOut s m args below meth c A 0 0 Q q (F0 m 2 ls [])) (q : QS) (x2 : Int32) (x3 : Int32) (x4 : Int32) (h : f_X1_workOut_126 u B2 q x2 x3 x4 = some o) (ls : Array Slot) (hl : lv_has ls 5 [(0, .ref (eA E 45)), (1, .ref (eA E (15 + 3 * u))), (2, .int x2), (3, .int x3), (4, .int x4)]) : Wq (wX E) E p l e rm_X1_workOut s m args below meth c A 0 0 Q q (F0 m 126 ls []) := by
  intro H locs hP hD hS
  have hx := F.1
  have hb := F.2.1
  unfold f_X1_workOut_126 at h
  refine lv_iload hx hb dX1_workOut_126 (lv_at hl 4 rfl) ?_
  refine lv_bipush (v := 23) hx hb dX1_workOut_128 (by decide) ?_
  refine lv_icmp_eq (tgt := 140) hx hb dX1_workOut_130 (by decide) (fun c9 => ?_) (fun c9 => ?_)
  · rw [if_pos c9] at h
    exact g_X1_workOut_140 F hA hRt hu hB2 q x2 x3 x4 h _ (lv_sub hl [0, 1, 2, 3, 4] rfl) _ _ hP hD hS
  · rw [if_neg c9] at h
    refine lv_iload hx hb dX1_workOut_133 (lv_at hl 4 rfl) ?_
    refine lv_bipush (v := 24) hx hb dX1_workOut_135 (by decide) ?_
    refine lv_icmp_ne (tgt := 187) hx hb dX1_workOut_137 (by decide) (fun c18 => ?_) (fun c18 => ?_)
    · rw [if_neg c18] at h
      refine lv_iload hx hb dX1_workOut_187 (lv_at hl 4 rfl) ?_
      refine lv_bipush (v := 25) hx hb dX1_workOut_189 (by decide) ?_
      refine lv_icmp_ne (tgt := 211) hx hb dX1_workOut_191 (by decide) (fun c19 => ?_) (fun c19 => ?_)
      · rw [if_neg c19] at h
        refine lv_iload hx hb dX1_workOut_211 (lv_at hl 4 rfl) ?_
        refine lv_bipush (v := 26) hx hb dX1_workOut_213 (by decide) ?_
        refine lv_icmp_eq (tgt := 225) hx hb dX1_workOut_215 (by decide) (fun c20 => ?_) (fun c20 => ?_)
        · rw [if_pos c20] at h
          exact g_X1_workOut_225 F hA hRt hu hB2 q x2 x3 x4 h _ (lv_sub hl [0, 1, 2, 3, 4] rfl) _ _ hP hD hS
        · rw [if_neg c20] at h
          refine lv_iload hx hb dX1_workOut_218 (lv_at hl 4 rfl) ?_
          refine lv_bipush (v := 27) hx hb dX1_workOut_220 (by decide) ?_
          refine lv_icmp_ne (tgt := 260) hx hb dX1_workOut_222 (by decide) (fun c28 => ?_) (fun c28 => ?_)
          · rw [if_neg c28] at h
            exact g_X1_workOut_260 F hA hRt hu hB2 q x2 h _ (lv_sub hl [0, 1, 2] rfl) _ _ hP hD hS
          · rw [if_pos c28] at h
            exact g_X1_workOut_225 F hA hRt hu hB2 q x2 x3 x4 h _ (lv_sub hl [0, 1, 2, 3, 4] rfl) _ _ hP hD hS
      · rw [if_pos c19] at h
        refine lv_aload_n hx hb dX1_workOut_194 rfl (lv_at hl 0 rfl) ?_
        refine lv_iload_n hx hb dX1_workOut_195 rfl (lv_at hl 3 rfl) ?_
        refine lv_aload_n hx hb dX1_workOut_196 rfl (lv_at hl 0 rfl) ?_
        refine r_get F hP i_X1 45 (xe_45 E q) rfl 1 (by decide) rfl lf_X1_19 rfl dX1_workOut_197 ?_
        refine r_get F hP i_X2 29 (xe_29 E q) rfl 3 (by decide) rfl lf_X1_58 rfl dX1_workOut_200 ?_
        refine lv_iload_n hx hb dX1_workOut_203 rfl (lv_at hl 3 rfl) ?_
        obtain ⟨y29, e30, h⟩ := Option.bind_eq_some_iff.mp h
        refine r_iald F hP 32 (xe_32 E q) e30 dX1_workOut_204 ?_
        obtain ⟨r31, e32, h⟩ := Option.bind_eq_some_iff.mp h
        refine q_callV (As := [.int x3, .int y29]) (rest := []) F hA hP hD hS (c_X1_turnOver (E := E) (l := l) q x3 y29 e32) k_X1_turnOver in_X1_turnOver se_X1_turnOver lm_X1_82 45 (xe_45 E q) rfl ⟨rfl, rfl⟩ ⟨by decide, by decide⟩ rfl hl.1 rfl (Nat.le_of_ble_eq_true rfl) dX1_workOut_205 ⟨by decide, by decide⟩ ?_
        intro H locs hP hD hS
        refine lv_goto (tgt := 260) hx hb dX1_workOut_208 (by decide) ?_
        exact g_X1_workOut_260 F hA hRt hu hB2 r31 x2 h _ (lv_sub hl [0, 1, 2] rfl) _ _ hP hD hS
    · rw [if_pos c18] at h
      exact g_X1_workOut_140 F hA hRt hu hB2 q x2 x3 x4 h _ (lv_sub hl [0, 1, 2, 3, 4] rfl) _ _ hP hD hS
def f_X1_workOut_2_b (u : Nat) (B2 : QS → Int32 → Option (QS)) (q : QS) (x2 : Int32) : Option (QS) :=
  if (qF q (3 + u)) ≤ x2 then
    some q
  else
    (rd (qI q (17 + 3 * u)) 200 x2).bind fun y2 =>
    (rd (qI q 30) 200 y2).bind fun y4 =>
    if y4 = (4 : Int32) then
      (rd (qI q 34) 200 y2).bind fun y44 =>
      (rd (qI q 35) 200 y2).bind fun y46 =>
      (f_X1_fetch q y2 y44 y46).bind fun r48 =>
      f_X1_workOut_260 u B2 r48 x2
    else
      if y4 = (10 : Int32) then
        (rd (qI q 32) 200 y2).bind fun y40 =>
        (f_X1_negate q y2 y40).bind fun r42 =>
        f_X1_workOut_260 u B2 r42 x2
      else
        if y4 < (11 : Int32) then
          f_X1_workOut_126 u B2 q x2 y2 y4
        else
          if (22 : Int32) < y4 then
            f_X1_workOut_126 u B2 q x2 y2 y4
          else
            (rd (qI q 32) 200 y2).bind fun y34 =>
            (rd (qI q 33) 200 y2).bind fun y36 =>
            (f_X1_workOutOfTwo q y4 y2 y34 y36).bind fun r38 =>
            f_X1_workOut_260 u B2 r38 x2
set_option maxHeartbeats 4000000 in
set_option maxRecDepth 100000 in
theorem g_X1_workOut_2_b {E : En} {p : Program} {l : Launch} {e : Env} {s : State} {m : MethodId} {args : Array Value} {below : List Frame} {meth : Method} {c : Code} {A : Nat → Prop} {Q : State → Prop} (F : Fx E p s m args meth c (yX1_workOut).cls cX1_workOut 5 none) (hA : ∀ z : Nat, s.heap.size ≤ z → A z) {o : QS} (hRt : RtV (wX E) E p l e rm_X1_workOut s m args below meth c A Q cX1_workOut o) {u : Nat} (hu : u < 3) {B2 : QS → Int32 → Option (QS)} (hB2 : ∀ (q : QS) (x2 : Int32), B2 q x2 = some o → ∀ ls : Array Slot, lv_has ls 5 [(0, .ref (eA E 45)), (1, .ref (eA E (15 + 3 * u))), (2, .int x2)] → Wq (wX E) E p l e rm_X1_workOut s m args below meth c A 0 0 Q q (F0 m 2 ls [])) (q : QS) (x2 : Int32) (h : f_X1_workOut_2_b u B2 q x2 = some o) (ls : Array Slot) (hl : lv_has ls 5 [(0, .ref (eA E 45)), (1, .ref (eA E (15 + 3 * u))), (2, .int x2)]) : Wq (wX E) E p l e rm_X1_workOut s m args below meth c A 0 0 Q q (F0 m 2 ls []) := by
  intro H locs hP hD hS
  have hx := F.1
  have hb := F.2.1
  unfold f_X1_workOut_2_b at h
  refine lv_iload_n hx hb dX1_workOut_2 rfl (lv_at hl 2 rfl) ?_
  refine lv_aload_n hx hb dX1_workOut_3 rfl (lv_at hl 1 rfl) ?_
  refine r_get F hP i_X3 (15 + 3 * u) (xpO hu E q) rfl 2 (by decide) rfl lf_X1_36 rfl dX1_workOut_4 ?_
  refine lv_icmp_ge (tgt := 266) hx hb dX1_workOut_7 (by decide) (fun c1 => ?_) (fun c1 => ?_)
  · rw [if_pos c1] at h
    cases h
    exact hRt _ _ dX1_workOut_266 _ _ hP hD hS
  · rw [if_neg c1] at h
    refine lv_aload_n hx hb dX1_workOut_10 rfl (lv_at hl 1 rfl) ?_
    refine r_get F hP i_X3 (15 + 3 * u) (xpO hu E q) rfl 1 (by decide) rfl lf_X1_42 rfl dX1_workOut_11 ?_
    refine lv_iload_n hx hb dX1_workOut_14 rfl (lv_at hl 2 rfl) ?_
    obtain ⟨y2, e3, h⟩ := Option.bind_eq_some_iff.mp h
    refine r_iald F hP (17 + 3 * u) (xpS hu E q) e3 dX1_workOut_15 ?_
    refine lv_istore_n (lv' := [(3, .int y2), (0, .ref (eA E 45)), (1, .ref (eA E (15 + 3 * u))), (2, .int x2)]) hx hb dX1_workOut_16 rfl hl (by decide) rfl (fun ls hl => ?_)
    refine lv_aload_n hx hb dX1_workOut_17 rfl (lv_at hl 1 rfl) ?_
    refine r_get F hP i_X1 45 (xe_45 E q) rfl 1 (by decide) rfl lf_X1_19 rfl dX1_workOut_18 ?_
    refine r_get F hP i_X2 29 (xe_29 E q) rfl 1 (by decide) rfl lf_X1_45 rfl dX1_workOut_21 ?_
    refine lv_iload_n hx hb dX1_workOut_24 rfl (lv_at hl 0 rfl) ?_
    obtain ⟨y4, e5, h⟩ := Option.bind_eq_some_iff.mp h
    refine r_iald F hP 30 (xe_30 E q) e5 dX1_workOut_25 ?_
    refine lv_istore (lv' := [(4, .int y4), (3, .int y2), (0, .ref (eA E 45)), (1, .ref (eA E (15 + 3 * u))), (2, .int x2)]) hx hb dX1_workOut_26 hl (by decide) rfl (fun ls hl => ?_)
    refine lv_iload hx hb dX1_workOut_28 (lv_at hl 0 rfl) ?_
    refine lv_iconst (v := 4) hx hb dX1_workOut_30 (by decide) ?_
    refine lv_icmp_ne (tgt := 60) hx hb dX1_workOut_31 (by decide) (fun c6 => ?_) (fun c6 => ?_)
    · rw [if_neg c6] at h
      refine lv_iload hx hb dX1_workOut_60 (lv_at hl 0 rfl) ?_
      refine lv_bipush (v := 10) hx hb dX1_workOut_62 (by decide) ?_
      refine lv_icmp_ne (tgt := 84) hx hb dX1_workOut_64 (by decide) (fun c7 => ?_) (fun c7 => ?_)
      · rw [if_neg c7] at h
        refine lv_iload hx hb dX1_workOut_84 (lv_at hl 0 rfl) ?_
        refine lv_bipush (v := 11) hx hb dX1_workOut_86 (by decide) ?_
        refine lv_icmp_lt (tgt := 126) hx hb dX1_workOut_88 (by decide) (fun c8 => ?_) (fun c8 => ?_)
        · rw [if_pos c8] at h
          exact g_X1_workOut_126 F hA hRt hu hB2 q x2 y2 y4 h _ (lv_sub hl [2, 3, 4, 1, 0] rfl) _ _ hP hD hS
        · rw [if_neg c8] at h
          refine lv_iload hx hb dX1_workOut_91 (lv_at hl 0 rfl) ?_
          refine lv_bipush (v := 22) hx hb dX1_workOut_93 (by decide) ?_
          refine lv_icmp_gt (tgt := 126) hx hb dX1_workOut_95 (by decide) (fun c33 => ?_) (fun c33 => ?_)
          · rw [if_pos c33] at h
            exact g_X1_workOut_126 F hA hRt hu hB2 q x2 y2 y4 h _ (lv_sub hl [2, 3, 4, 1, 0] rfl) _ _ hP hD hS
          · rw [if_neg c33] at h
            refine lv_aload_n hx hb dX1_workOut_98 rfl (lv_at hl 2 rfl) ?_
            refine lv_iload hx hb dX1_workOut_99 (lv_at hl 0 rfl) ?_
            refine lv_iload_n hx hb dX1_workOut_101 rfl (lv_at hl 1 rfl) ?_
            refine lv_aload_n hx hb dX1_workOut_102 rfl (lv_at hl 2 rfl) ?_
            refine r_get F hP i_X1 45 (xe_45 E q) rfl 1 (by decide) rfl lf_X1_19 rfl dX1_workOut_103 ?_
            refine r_get F hP i_X2 29 (xe_29 E q) rfl 3 (by decide) rfl lf_X1_58 rfl dX1_workOut_106 ?_
            refine lv_iload_n hx hb dX1_workOut_109 rfl (lv_at hl 1 rfl) ?_
            obtain ⟨y34, e35, h⟩ := Option.bind_eq_some_iff.mp h
            refine r_iald F hP 32 (xe_32 E q) e35 dX1_workOut_110 ?_
            refine lv_aload_n hx hb dX1_workOut_111 rfl (lv_at hl 2 rfl) ?_
            refine r_get F hP i_X1 45 (xe_45 E q) rfl 1 (by decide) rfl lf_X1_19 rfl dX1_workOut_112 ?_
            refine r_get F hP i_X2 29 (xe_29 E q) rfl 4 (by decide) rfl lf_X1_65 rfl dX1_workOut_115 ?_
            refine lv_iload_n hx hb dX1_workOut_118 rfl (lv_at hl 1 rfl) ?_
            obtain ⟨y36, e37, h⟩ := Option.bind_eq_some_iff.mp h
            refine r_iald F hP 33 (xe_33 E q) e37 dX1_workOut_119 ?_
            obtain ⟨r38, e39, h⟩ := Option.bind_eq_some_iff.mp h
            refine q_callV (As := [.int y4, .int y2, .int y34, .int y36]) (rest := []) F hA hP hD hS (c_X1_workOutOfTwo (E := E) (l := l) q y4 y2 y34 y36 e39) k_X1_workOutOfTwo in_X1_workOutOfTwo se_X1_workOutOfTwo lm_X1_68 45 (xe_45 E q) rfl ⟨rfl, rfl⟩ ⟨by decide, by decide⟩ rfl hl.1 rfl (Nat.le_of_ble_eq_true rfl) dX1_workOut_120 ⟨by decide, by decide⟩ ?_
            intro H locs hP hD hS
            refine lv_goto (tgt := 260) hx hb dX1_workOut_123 (by decide) ?_
            exact g_X1_workOut_260 F hA hRt hu hB2 r38 x2 h _ (lv_sub hl [2, 3, 4] rfl) _ _ hP hD hS
      · rw [if_pos c7] at h
        refine lv_aload_n hx hb dX1_workOut_67 rfl (lv_at hl 2 rfl) ?_
        refine lv_iload_n hx hb dX1_workOut_68 rfl (lv_at hl 1 rfl) ?_
        refine lv_aload_n hx hb dX1_workOut_69 rfl (lv_at hl 2 rfl) ?_
        refine r_get F hP i_X1 45 (xe_45 E q) rfl 1 (by decide) rfl lf_X1_19 rfl dX1_workOut_70 ?_
        refine r_get F hP i_X2 29 (xe_29 E q) rfl 3 (by decide) rfl lf_X1_58 rfl dX1_workOut_73 ?_
        refine lv_iload_n hx hb dX1_workOut_76 rfl (lv_at hl 1 rfl) ?_
        obtain ⟨y40, e41, h⟩ := Option.bind_eq_some_iff.mp h
        refine r_iald F hP 32 (xe_32 E q) e41 dX1_workOut_77 ?_
        obtain ⟨r42, e43, h⟩ := Option.bind_eq_some_iff.mp h
        refine q_callV (As := [.int y2, .int y40]) (rest := []) F hA hP hD hS (c_X1_negate (E := E) (l := l) q y2 y40 e43) k_X1_negate in_X1_negate se_X1_negate lm_X1_61 45 (xe_45 E q) rfl ⟨rfl, rfl⟩ ⟨by decide, by decide⟩ rfl hl.1 rfl (Nat.le_of_ble_eq_true rfl) dX1_workOut_78 ⟨by decide, by decide⟩ ?_
        intro H locs hP hD hS
        refine lv_goto (tgt := 260) hx hb dX1_workOut_81 (by decide) ?_
        exact g_X1_workOut_260 F hA hRt hu hB2 r42 x2 h _ (lv_sub hl [2, 3, 4] rfl) _ _ hP hD hS
    · rw [if_pos c6] at h
      refine lv_aload_n hx hb dX1_workOut_34 rfl (lv_at hl 2 rfl) ?_
      refine lv_iload_n hx hb dX1_workOut_35 rfl (lv_at hl 1 rfl) ?_
      refine lv_aload_n hx hb dX1_workOut_36 rfl (lv_at hl 2 rfl) ?_
      refine r_get F hP i_X1 45 (xe_45 E q) rfl 1 (by decide) rfl lf_X1_19 rfl dX1_workOut_37 ?_
      refine r_get F hP i_X2 29 (xe_29 E q) rfl 5 (by decide) rfl lf_X1_48 rfl dX1_workOut_40 ?_
      refine lv_iload_n hx hb dX1_workOut_43 rfl (lv_at hl 1 rfl) ?_
      obtain ⟨y44, e45, h⟩ := Option.bind_eq_some_iff.mp h
      refine r_iald F hP 34 (xe_34 E q) e45 dX1_workOut_44 ?_
      refine lv_aload_n hx hb dX1_workOut_45 rfl (lv_at hl 2 rfl) ?_
      refine r_get F hP i_X1 45 (xe_45 E q) rfl 1 (by decide) rfl lf_X1_19 rfl dX1_workOut_46 ?_
      refine r_get F hP i_X2 29 (xe_29 E q) rfl 6 (by decide) rfl lf_X1_51 rfl dX1_workOut_49 ?_
      refine lv_iload_n hx hb dX1_workOut_52 rfl (lv_at hl 1 rfl) ?_
      obtain ⟨y46, e47, h⟩ := Option.bind_eq_some_iff.mp h
      refine r_iald F hP 35 (xe_35 E q) e47 dX1_workOut_53 ?_
      obtain ⟨r48, e49, h⟩ := Option.bind_eq_some_iff.mp h
      refine q_callV (As := [.int y2, .int y44, .int y46]) (rest := []) F hA hP hD hS (c_X1_fetch (E := E) (l := l) q y2 y44 y46 e49) k_X1_fetch in_X1_fetch se_X1_fetch lm_X1_54 45 (xe_45 E q) rfl ⟨rfl, rfl⟩ ⟨by decide, by decide⟩ rfl hl.1 rfl (Nat.le_of_ble_eq_true rfl) dX1_workOut_54 ⟨by decide, by decide⟩ ?_
      intro H locs hP hD hS
      refine lv_goto (tgt := 260) hx hb dX1_workOut_57 (by decide) ?_
      exact g_X1_workOut_260 F hA hRt hu hB2 r48 x2 h _ (lv_sub hl [2, 3, 4] rfl) _ _ hP hD hS
def f_X1_workOut_2 (u : Nat) : Nat → QS → Int32 → Option (QS)
  | 0 => fun _ _ => none
  | n + 1 => f_X1_workOut_2_b u (f_X1_workOut_2 u n)
theorem g_X1_workOut_2 {E : En} {p : Program} {l : Launch} {e : Env} {s : State} {m : MethodId} {args : Array Value} {below : List Frame} {meth : Method} {c : Code} {A : Nat → Prop} {Q : State → Prop} (F : Fx E p s m args meth c (yX1_workOut).cls cX1_workOut 5 none) (hA : ∀ z : Nat, s.heap.size ≤ z → A z) {o : QS} (hRt : RtV (wX E) E p l e rm_X1_workOut s m args below meth c A Q cX1_workOut o) {u : Nat} (hu : u < 3) (n : Nat) : ∀ (q : QS) (x2 : Int32), f_X1_workOut_2 u n q x2 = some o → ∀ ls : Array Slot, lv_has ls 5 [(0, .ref (eA E 45)), (1, .ref (eA E (15 + 3 * u))), (2, .int x2)] → Wq (wX E) E p l e rm_X1_workOut s m args below meth c A 0 0 Q q (F0 m 2 ls []) := by
  induction n with
  | zero => intro q x2 h; cases h
  | succ n ih => intro q x2 h; exact g_X1_workOut_2_b F hA hRt hu ih q x2 h
def f_X1_workOut_0 (u : Nat) (q : QS) : Option (QS) :=
  f_X1_workOut_2 u FU q (0 : Int32)
set_option maxHeartbeats 4000000 in
set_option maxRecDepth 100000 in
theorem g_X1_workOut_0 {E : En} {p : Program} {l : Launch} {e : Env} {s : State} {m : MethodId} {args : Array Value} {below : List Frame} {meth : Method} {c : Code} {A : Nat → Prop} {Q : State → Prop} (F : Fx E p s m args meth c (yX1_workOut).cls cX1_workOut 5 none) (hA : ∀ z : Nat, s.heap.size ≤ z → A z) {o : QS} (hRt : RtV (wX E) E p l e rm_X1_workOut s m args below meth c A Q cX1_workOut o) {u : Nat} (hu : u < 3) (q : QS) (h : f_X1_workOut_0 u q = some o) (ls : Array Slot) (hl : lv_has ls 5 [(0, .ref (eA E 45)), (1, .ref (eA E (15 + 3 * u)))]) : Wq (wX E) E p l e rm_X1_workOut s m args below meth c A 0 0 Q q (F0 m 0 ls []) := by
  intro H locs hP hD hS
  have hx := F.1
  have hb := F.2.1
  unfold f_X1_workOut_0 at h
  refine lv_iconst (v := 0) hx hb dX1_workOut_0 (by decide) ?_
  refine lv_istore_n (lv' := [(2, .int (0 : Int32)), (0, .ref (eA E 45)), (1, .ref (eA E (15 + 3 * u)))]) hx hb dX1_workOut_1 rfl hl (by decide) rfl (fun ls hl => ?_)
  exact g_X1_workOut_2 F hA hRt hu FU q (0 : Int32) h _ (lv_sub hl [1, 2, 0] rfl) _ _ hP hD hS
def f_X1_workOut (u : Nat) (q : QS) : Option (QS) := f_X1_workOut_0 u q
set_option maxRecDepth 100000 in
theorem c_X1_workOut {E : En} {l : Launch} {u : Nat} (hu : u < 3) (q : QS) {o : QS} (h : f_X1_workOut u q = some o) : Ct (wX E) E l yX1_workOut (wy yX1_workOut cX1_workOut 5 none) rm_X1_workOut q o [.ref (eA E 45), .ref (eA E (15 + 3 * u))] none :=
  ct_V (o := o) (by decide +kernel) (fun p e s m below meth c A Q F hA hRt H locs hP hD hS => en_W [.ref (eA E 45), .ref (eA E (15 + 3 * u))] (Nat.le_of_ble_eq_true rfl) (fun ls hl => g_X1_workOut_0 F hA hRt hu q h ls (lv_sub hl [0, 1] rfl) H locs hP hD hS))
def rm_X1_startAggregate : Room := { frames := 1, cells := 0, slots := 0, locals := 23 }
def f_X1_startAggregate_0 (q : QS) (x1 : Int32) : Option (QS) :=
  (rd (qI q 30) 200 x1).bind fun y1 =>
  if y1 = (5 : Int32) then
    (f_X8_setNumber 2 q x1 (0 : Int64)).bind fun r4 =>
    some r4
  else
    if y1 = (6 : Int32) then
      (f_X8_setNumber 2 q x1 (0 : Int64)).bind fun r9 =>
      some r9
    else
      (f_X8_setNull 2 q x1).bind fun r7 =>
      some r7
set_option maxHeartbeats 4000000 in
set_option maxRecDepth 100000 in
theorem g_X1_startAggregate_0 {E : En} {p : Program} {l : Launch} {e : Env} {s : State} {m : MethodId} {args : Array Value} {below : List Frame} {meth : Method} {c : Code} {A : Nat → Prop} {Q : State → Prop} (F : Fx E p s m args meth c (yX1_startAggregate).cls cX1_startAggregate 3 none) (hA : ∀ z : Nat, s.heap.size ≤ z → A z) {o : QS} (hRt : RtV (wX E) E p l e rm_X1_startAggregate s m args below meth c A Q cX1_startAggregate o) (q : QS) (x1 : Int32) (h : f_X1_startAggregate_0 q x1 = some o) (ls : Array Slot) (hl : lv_has ls 3 [(0, .ref (eA E 45)), (1, .int x1)]) : Wq (wX E) E p l e rm_X1_startAggregate s m args below meth c A 0 0 Q q (F0 m 0 ls []) := by
  intro H locs hP hD hS
  have hx := F.1
  have hb := F.2.1
  unfold f_X1_startAggregate_0 at h
  refine lv_aload_n hx hb dX1_startAggregate_0 rfl (lv_at hl 0 rfl) ?_
  refine r_get F hP i_X1 45 (xe_45 E q) rfl 1 (by decide) rfl lf_X1_19 rfl dX1_startAggregate_1 ?_
  refine r_get F hP i_X2 29 (xe_29 E q) rfl 1 (by decide) rfl lf_X1_45 rfl dX1_startAggregate_4 ?_
  refine lv_iload_n hx hb dX1_startAggregate_7 rfl (lv_at hl 1 rfl) ?_
  obtain ⟨y1, e2, h⟩ := Option.bind_eq_some_iff.mp h
  refine r_iald F hP 30 (xe_30 E q) e2 dX1_startAggregate_8 ?_
  refine lv_istore_n (lv' := [(2, .int y1), (0, .ref (eA E 45)), (1, .int x1)]) hx hb dX1_startAggregate_9 rfl hl (by decide) rfl (fun ls hl => ?_)
  refine lv_iload_n hx hb dX1_startAggregate_10 rfl (lv_at hl 0 rfl) ?_
  refine lv_iconst (v := 5) hx hb dX1_startAggregate_11 (by decide) ?_
  refine lv_icmp_eq (tgt := 21) hx hb dX1_startAggregate_12 (by decide) (fun c3 => ?_) (fun c3 => ?_)
  · rw [if_pos c3] at h
    refine lv_aload_n hx hb dX1_startAggregate_21 rfl (lv_at hl 1 rfl) ?_
    refine r_get F hP i_X1 45 (xe_45 E q) rfl 2 (by decide) rfl lf_X1_29 rfl dX1_startAggregate_22 ?_
    refine lv_iload_n hx hb dX1_startAggregate_25 rfl (lv_at hl 2 rfl) ?_
    refine lv_lconst (v := 0) hx hb dX1_startAggregate_26 (by decide) ?_
    obtain ⟨r4, e5, h⟩ := Option.bind_eq_some_iff.mp h
    refine q_callV (As := [.int x1, .long (0 : Int64)]) (rest := []) F hA hP hD hS (c_X8_setNumber (E := E) (l := l) (v := 2) (by decide) q x1 (0 : Int64) e5) k_X8_setNumber in_X8_setNumber se_X8_setNumber lm_X1_110 6 (xe_6 E q) rfl ⟨rfl, rfl⟩ ⟨by decide, by decide⟩ rfl hl.1 rfl (Nat.le_of_ble_eq_true rfl) dX1_startAggregate_27 ⟨by decide, by decide⟩ ?_
    intro H locs hP hD hS
    refine lv_goto (tgt := 41) hx hb dX1_startAggregate_30 (by decide) ?_
    cases h
    exact hRt _ _ dX1_startAggregate_41 _ _ hP hD hS
  · rw [if_neg c3] at h
    refine lv_iload_n hx hb dX1_startAggregate_15 rfl (lv_at hl 0 rfl) ?_
    refine lv_bipush (v := 6) hx hb dX1_startAggregate_16 (by decide) ?_
    refine lv_icmp_ne (tgt := 33) hx hb dX1_startAggregate_18 (by decide) (fun c6 => ?_) (fun c6 => ?_)
    · rw [if_neg c6] at h
      refine lv_aload_n hx hb dX1_startAggregate_33 rfl (lv_at hl 1 rfl) ?_
      refine r_get F hP i_X1 45 (xe_45 E q) rfl 2 (by decide) rfl lf_X1_29 rfl dX1_startAggregate_34 ?_
      refine lv_iload_n hx hb dX1_startAggregate_37 rfl (lv_at hl 2 rfl) ?_
      obtain ⟨r7, e8, h⟩ := Option.bind_eq_some_iff.mp h
      refine q_callV (As := [.int x1]) (rest := []) F hA hP hD hS (c_X8_setNull (E := E) (l := l) (v := 2) (by decide) q x1 e8) k_X8_setNull in_X8_setNull se_X8_setNull lm_X1_102 6 (xe_6 E q) rfl ⟨rfl, rfl⟩ ⟨by decide, by decide⟩ rfl hl.1 rfl (Nat.le_of_ble_eq_true rfl) dX1_startAggregate_38 ⟨by decide, by decide⟩ ?_
      intro H locs hP hD hS
      cases h
      exact hRt _ _ dX1_startAggregate_41 _ _ hP hD hS
    · rw [if_pos c6] at h
      refine lv_aload_n hx hb dX1_startAggregate_21 rfl (lv_at hl 1 rfl) ?_
      refine r_get F hP i_X1 45 (xe_45 E q) rfl 2 (by decide) rfl lf_X1_29 rfl dX1_startAggregate_22 ?_
      refine lv_iload_n hx hb dX1_startAggregate_25 rfl (lv_at hl 2 rfl) ?_
      refine lv_lconst (v := 0) hx hb dX1_startAggregate_26 (by decide) ?_
      obtain ⟨r9, e10, h⟩ := Option.bind_eq_some_iff.mp h
      refine q_callV (As := [.int x1, .long (0 : Int64)]) (rest := []) F hA hP hD hS (c_X8_setNumber (E := E) (l := l) (v := 2) (by decide) q x1 (0 : Int64) e10) k_X8_setNumber in_X8_setNumber se_X8_setNumber lm_X1_110 6 (xe_6 E q) rfl ⟨rfl, rfl⟩ ⟨by decide, by decide⟩ rfl hl.1 rfl (Nat.le_of_ble_eq_true rfl) dX1_startAggregate_27 ⟨by decide, by decide⟩ ?_
      intro H locs hP hD hS
      refine lv_goto (tgt := 41) hx hb dX1_startAggregate_30 (by decide) ?_
      cases h
      exact hRt _ _ dX1_startAggregate_41 _ _ hP hD hS
def f_X1_startAggregate (q : QS) (x1 : Int32) : Option (QS) := f_X1_startAggregate_0 q x1
set_option maxRecDepth 100000 in
theorem c_X1_startAggregate {E : En} {l : Launch} (q : QS) (x1 : Int32) {o : QS} (h : f_X1_startAggregate q x1 = some o) : Ct (wX E) E l yX1_startAggregate (wy yX1_startAggregate cX1_startAggregate 3 none) rm_X1_startAggregate q o [.ref (eA E 45), .int x1] none :=
  ct_V (o := o) (by decide +kernel) (fun p e s m below meth c A Q F hA hRt H locs hP hD hS => en_W [.ref (eA E 45), .int x1] (Nat.le_of_ble_eq_true rfl) (fun ls hl => g_X1_startAggregate_0 F hA hRt q x1 h ls (lv_sub hl [0, 1] rfl) H locs hP hD hS))
def rm_X1_isBetter : Room := { frames := 0, cells := 0, slots := 0, locals := 0 }
def f_X1_isBetter_0 (x0 : Int32) (x1 : Int32) : Option (Int32) :=
  if x0 = (8 : Int32) then
    if 0 ≤ x1 then
      some (0 : Int32)
    else
      some (1 : Int32)
  else
    if x1 ≤ 0 then
      some (0 : Int32)
    else
      some (1 : Int32)
set_option maxHeartbeats 4000000 in
set_option maxRecDepth 100000 in
theorem g_X1_isBetter_0 {E : En} {p : Program} {l : Launch} {e : Env} {s : State} {m : MethodId} {args : Array Value} {below : List Frame} {meth : Method} {c : Code} {A : Nat → Prop} {Q : State → Prop} (F : Fx E p s m args meth c (yX1_isBetter).cls cX1_isBetter 2 (some .boolean)) (hA : ∀ z : Nat, s.heap.size ≤ z → A z) {q : QS} {o : Int32} (hRt : RtZ (wX E) E p l e rm_X1_isBetter s m args below meth c A Q cX1_isBetter (o, q)) (x0 : Int32) (x1 : Int32) (h : f_X1_isBetter_0 x0 x1 = some o) (ls : Array Slot) (hl : lv_has ls 2 [(0, .int x0), (1, .int x1)]) : Wq (wX E) E p l e rm_X1_isBetter s m args below meth c A 0 0 Q q (F0 m 0 ls []) := by
  intro H locs hP hD hS
  have hx := F.1
  have hb := F.2.1
  unfold f_X1_isBetter_0 at h
  refine lv_iload_n hx hb dX1_isBetter_0 rfl (lv_at hl 0 rfl) ?_
  refine lv_bipush (v := 8) hx hb dX1_isBetter_1 (by decide) ?_
  refine lv_icmp_ne (tgt := 18) hx hb dX1_isBetter_3 (by decide) (fun c1 => ?_) (fun c1 => ?_)
  · rw [if_neg c1] at h
    refine lv_iload_n hx hb dX1_isBetter_18 rfl (lv_at hl 1 rfl) ?_
    refine lv_if_le (tgt := 26) hx hb dX1_isBetter_19 (by decide) (fun c2 => ?_) (fun c2 => ?_)
    · rw [if_pos c2] at h
      refine lv_iconst (v := 0) hx hb dX1_isBetter_26 (by decide) ?_
      cases h
      exact hRt _ _ zz_0 dX1_isBetter_27 _ _ hP hD hS
    · rw [if_neg c2] at h
      refine lv_iconst (v := 1) hx hb dX1_isBetter_22 (by decide) ?_
      refine lv_goto (tgt := 27) hx hb dX1_isBetter_23 (by decide) ?_
      cases h
      exact hRt _ _ zz_1 dX1_isBetter_27 _ _ hP hD hS
  · rw [if_pos c1] at h
    refine lv_iload_n hx hb dX1_isBetter_6 rfl (lv_at hl 1 rfl) ?_
    refine lv_if_ge (tgt := 14) hx hb dX1_isBetter_7 (by decide) (fun c3 => ?_) (fun c3 => ?_)
    · rw [if_pos c3] at h
      refine lv_iconst (v := 0) hx hb dX1_isBetter_14 (by decide) ?_
      refine lv_goto (tgt := 27) hx hb dX1_isBetter_15 (by decide) ?_
      cases h
      exact hRt _ _ zz_0 dX1_isBetter_27 _ _ hP hD hS
    · rw [if_neg c3] at h
      refine lv_iconst (v := 1) hx hb dX1_isBetter_10 (by decide) ?_
      refine lv_goto (tgt := 27) hx hb dX1_isBetter_11 (by decide) ?_
      cases h
      exact hRt _ _ zz_1 dX1_isBetter_27 _ _ hP hD hS
def f_X1_isBetter (x0 : Int32) (x1 : Int32) : Option (Int32) := f_X1_isBetter_0 x0 x1
set_option maxRecDepth 100000 in
theorem c_X1_isBetter {E : En} {l : Launch} (q : QS) (x0 : Int32) (x1 : Int32) {o : Int32} (h : f_X1_isBetter x0 x1 = some o) : Ct (wX E) E l yX1_isBetter (wy yX1_isBetter cX1_isBetter 2 (some .boolean)) rm_X1_isBetter q q [.int x0, .int x1] (some (.int o)) :=
  ct_Z (o := (o, q)) (by decide +kernel) (fun p e s m below meth c A Q F hA hRt H locs hP hD hS => en_W [.int x0, .int x1] (Nat.le_of_ble_eq_true rfl) (fun ls hl => g_X1_isBetter_0 F hA hRt x0 x1 h ls (lv_sub hl [0, 1] rfl) H locs hP hD hS))
def rm_X1_feedAggregate : Room := { frames := 2, cells := 0, slots := 0, locals := 46 }
def f_X1_feedAggregate_0 (q : QS) (x1 : Int32) : Option (QS) :=
  (rd (qI q 30) 200 x1).bind fun y1 =>
  if y1 = (5 : Int32) then
    (f_X8_numberOf 2 q x1).bind fun r33 =>
    (f_X8_setNumber 2 q x1 (r33 + (1 : Int64))).bind fun r35 =>
    some r35
  else
    (rd (qI q 32) 200 x1).bind fun y4 =>
    (f_X8_isNull 2 q y4).bind fun r6 =>
    if r6 = 0 then
      if y1 = (6 : Int32) then
        (f_X8_numberOf 2 q x1).bind fun r29 =>
        (f_X8_setNumber 2 q x1 (r29 + (1 : Int64))).bind fun r31 =>
        some r31
      else
        (f_X8_isNull 2 q x1).bind fun r10 =>
        if r10 = 0 then
          if y1 = (7 : Int32) then
            (f_X8_numberOf 2 q x1).bind fun r21 =>
            (f_X8_numberOf 2 q y4).bind fun r23 =>
            (f_X8_setNumber 2 q x1 (r21 + r23)).bind fun r25 =>
            some r25
          else
            (f_X8_compare 2 q y4 x1).bind fun r14 =>
            (f_X1_isBetter y1 r14).bind fun r16 =>
            if r16 = 0 then
              some q
            else
              (f_X8_copy 2 2 q x1 y4).bind fun r19 =>
              some r19
        else
          (f_X8_copy 2 2 q x1 y4).bind fun r27 =>
          some r27
    else
      some q
set_option maxHeartbeats 4000000 in
set_option maxRecDepth 100000 in
theorem g_X1_feedAggregate_0 {E : En} {p : Program} {l : Launch} {e : Env} {s : State} {m : MethodId} {args : Array Value} {below : List Frame} {meth : Method} {c : Code} {A : Nat → Prop} {Q : State → Prop} (F : Fx E p s m args meth c (yX1_feedAggregate).cls cX1_feedAggregate 4 none) (hA : ∀ z : Nat, s.heap.size ≤ z → A z) {o : QS} (hRt : RtV (wX E) E p l e rm_X1_feedAggregate s m args below meth c A Q cX1_feedAggregate o) (q : QS) (x1 : Int32) (h : f_X1_feedAggregate_0 q x1 = some o) (ls : Array Slot) (hl : lv_has ls 4 [(0, .ref (eA E 45)), (1, .int x1)]) : Wq (wX E) E p l e rm_X1_feedAggregate s m args below meth c A 0 0 Q q (F0 m 0 ls []) := by
  intro H locs hP hD hS
  have hx := F.1
  have hb := F.2.1
  unfold f_X1_feedAggregate_0 at h
  refine lv_aload_n hx hb dX1_feedAggregate_0 rfl (lv_at hl 0 rfl) ?_
  refine r_get F hP i_X1 45 (xe_45 E q) rfl 1 (by decide) rfl lf_X1_19 rfl dX1_feedAggregate_1 ?_
  refine r_get F hP i_X2 29 (xe_29 E q) rfl 1 (by decide) rfl lf_X1_45 rfl dX1_feedAggregate_4 ?_
  refine lv_iload_n hx hb dX1_feedAggregate_7 rfl (lv_at hl 1 rfl) ?_
  obtain ⟨y1, e2, h⟩ := Option.bind_eq_some_iff.mp h
  refine r_iald F hP 30 (xe_30 E q) e2 dX1_feedAggregate_8 ?_
  refine lv_istore_n (lv' := [(2, .int y1), (0, .ref (eA E 45)), (1, .int x1)]) hx hb dX1_feedAggregate_9 rfl hl (by decide) rfl (fun ls hl => ?_)
  refine lv_iload_n hx hb dX1_feedAggregate_10 rfl (lv_at hl 0 rfl) ?_
  refine lv_iconst (v := 5) hx hb dX1_feedAggregate_11 (by decide) ?_
  refine lv_icmp_ne (tgt := 34) hx hb dX1_feedAggregate_12 (by decide) (fun c3 => ?_) (fun c3 => ?_)
  · rw [if_neg c3] at h
    refine lv_aload_n hx hb dX1_feedAggregate_34 rfl (lv_at hl 1 rfl) ?_
    refine r_get F hP i_X1 45 (xe_45 E q) rfl 1 (by decide) rfl lf_X1_19 rfl dX1_feedAggregate_35 ?_
    refine r_get F hP i_X2 29 (xe_29 E q) rfl 3 (by decide) rfl lf_X1_58 rfl dX1_feedAggregate_38 ?_
    refine lv_iload_n hx hb dX1_feedAggregate_41 rfl (lv_at hl 2 rfl) ?_
    obtain ⟨y4, e5, h⟩ := Option.bind_eq_some_iff.mp h
    refine r_iald F hP 32 (xe_32 E q) e5 dX1_feedAggregate_42 ?_
    refine lv_istore_n (lv' := [(3, .int y4), (2, .int y1), (0, .ref (eA E 45)), (1, .int x1)]) hx hb dX1_feedAggregate_43 rfl hl (by decide) rfl (fun ls hl => ?_)
    refine lv_aload_n hx hb dX1_feedAggregate_44 rfl (lv_at hl 2 rfl) ?_
    refine r_get F hP i_X1 45 (xe_45 E q) rfl 2 (by decide) rfl lf_X1_29 rfl dX1_feedAggregate_45 ?_
    refine lv_iload_n hx hb dX1_feedAggregate_48 rfl (lv_at hl 0 rfl) ?_
    obtain ⟨r6, e7, h⟩ := Option.bind_eq_some_iff.mp h
    refine q_callV (As := [.int y4]) (rest := []) F hA hP hD hS (c_X8_isNull (E := E) (l := l) (v := 2) (by decide) q y4 e7) k_X8_isNull in_X8_isNull se_X8_isNull lm_X1_72 6 (xe_6 E q) rfl ⟨rfl, rfl⟩ ⟨by decide, by decide⟩ rfl hl.1 rfl (Nat.le_of_ble_eq_true rfl) dX1_feedAggregate_49 ⟨by decide, by decide⟩ ?_
    intro H locs hP hD hS
    refine lv_if_eq (tgt := 56) hx hb dX1_feedAggregate_52 (by decide) (fun c8 => ?_) (fun c8 => ?_)
    · rw [if_pos c8] at h
      refine lv_iload_n hx hb dX1_feedAggregate_56 rfl (lv_at hl 1 rfl) ?_
      refine lv_bipush (v := 6) hx hb dX1_feedAggregate_57 (by decide) ?_
      refine lv_icmp_ne (tgt := 83) hx hb dX1_feedAggregate_59 (by decide) (fun c9 => ?_) (fun c9 => ?_)
      · rw [if_neg c9] at h
        refine lv_aload_n hx hb dX1_feedAggregate_83 rfl (lv_at hl 2 rfl) ?_
        refine r_get F hP i_X1 45 (xe_45 E q) rfl 2 (by decide) rfl lf_X1_29 rfl dX1_feedAggregate_84 ?_
        refine lv_iload_n hx hb dX1_feedAggregate_87 rfl (lv_at hl 3 rfl) ?_
        obtain ⟨r10, e11, h⟩ := Option.bind_eq_some_iff.mp h
        refine q_callV (As := [.int x1]) (rest := []) F hA hP hD hS (c_X8_isNull (E := E) (l := l) (v := 2) (by decide) q x1 e11) k_X8_isNull in_X8_isNull se_X8_isNull lm_X1_72 6 (xe_6 E q) rfl ⟨rfl, rfl⟩ ⟨by decide, by decide⟩ rfl hl.1 rfl (Nat.le_of_ble_eq_true rfl) dX1_feedAggregate_88 ⟨by decide, by decide⟩ ?_
        intro H locs hP hD hS
        refine lv_if_eq (tgt := 110) hx hb dX1_feedAggregate_91 (by decide) (fun c12 => ?_) (fun c12 => ?_)
        · rw [if_pos c12] at h
          refine lv_iload_n hx hb dX1_feedAggregate_110 rfl (lv_at hl 1 rfl) ?_
          refine lv_bipush (v := 7) hx hb dX1_feedAggregate_111 (by decide) ?_
          refine lv_icmp_ne (tgt := 144) hx hb dX1_feedAggregate_113 (by decide) (fun c13 => ?_) (fun c13 => ?_)
          · rw [if_neg c13] at h
            refine lv_iload_n hx hb dX1_feedAggregate_144 rfl (lv_at hl 1 rfl) ?_
            refine lv_aload_n hx hb dX1_feedAggregate_145 rfl (lv_at hl 2 rfl) ?_
            refine r_get F hP i_X1 45 (xe_45 E q) rfl 2 (by decide) rfl lf_X1_29 rfl dX1_feedAggregate_146 ?_
            refine lv_iload_n hx hb dX1_feedAggregate_149 rfl (lv_at hl 0 rfl) ?_
            refine lv_iload_n hx hb dX1_feedAggregate_150 rfl (lv_at hl 3 rfl) ?_
            obtain ⟨r14, e15, h⟩ := Option.bind_eq_some_iff.mp h
            refine q_callV (As := [.int y4, .int x1]) (rest := [.int y1]) F hA hP hD hS (c_X8_compare (E := E) (l := l) (v := 2) (by decide) q y4 x1 e15) k_X8_compare in_X8_compare se_X8_compare lm_X1_121 6 (xe_6 E q) rfl ⟨rfl, rfl⟩ ⟨by decide, by decide⟩ rfl hl.1 rfl (Nat.le_of_ble_eq_true rfl) dX1_feedAggregate_151 ⟨by decide, by decide⟩ ?_
            intro H locs hP hD hS
            obtain ⟨r16, e17, h⟩ := Option.bind_eq_some_iff.mp h
            refine q_callS (As := [.int y1, .int r14]) (rest := []) F hA hP hD hS (c_X1_isBetter (E := E) (l := l) q y1 r14 e17) k_X1_isBetter st_X1_isBetter lm_X1_132 ⟨rfl, rfl⟩ ⟨by decide, by decide⟩ rfl hl.1 rfl (Nat.le_of_ble_eq_true rfl) dX1_feedAggregate_154 ⟨by decide, by decide⟩ ?_
            intro H locs hP hD hS
            refine lv_if_eq (tgt := 173) hx hb dX1_feedAggregate_157 (by decide) (fun c18 => ?_) (fun c18 => ?_)
            · rw [if_pos c18] at h
              cases h
              exact hRt _ _ dX1_feedAggregate_173 _ _ hP hD hS
            · rw [if_neg c18] at h
              refine lv_aload_n hx hb dX1_feedAggregate_160 rfl (lv_at hl 2 rfl) ?_
              refine r_get F hP i_X1 45 (xe_45 E q) rfl 2 (by decide) rfl lf_X1_29 rfl dX1_feedAggregate_161 ?_
              refine lv_iload_n hx hb dX1_feedAggregate_164 rfl (lv_at hl 3 rfl) ?_
              refine lv_aload_n hx hb dX1_feedAggregate_165 rfl (lv_at hl 2 rfl) ?_
              refine r_get F hP i_X1 45 (xe_45 E q) rfl 2 (by decide) rfl lf_X1_29 rfl dX1_feedAggregate_166 ?_
              refine lv_iload_n hx hb dX1_feedAggregate_169 rfl (lv_at hl 0 rfl) ?_
              obtain ⟨r19, e20, h⟩ := Option.bind_eq_some_iff.mp h
              refine q_callV (As := [.int x1, .ref (eA E 6), .int y4]) (rest := []) F hA hP hD hS (c_X8_copy (E := E) (l := l) (v := 2) (by decide) (u := 2) (by decide) q x1 y4 e20) k_X8_copy in_X8_copy se_X8_copy lm_X1_98 6 (xe_6 E q) rfl ⟨rfl, rfl⟩ ⟨by decide, by decide⟩ rfl hl.1 rfl (Nat.le_of_ble_eq_true rfl) dX1_feedAggregate_170 ⟨by decide, by decide⟩ ?_
              intro H locs hP hD hS
              cases h
              exact hRt _ _ dX1_feedAggregate_173 _ _ hP hD hS
          · rw [if_pos c13] at h
            refine lv_aload_n hx hb dX1_feedAggregate_116 rfl (lv_at hl 2 rfl) ?_
            refine r_get F hP i_X1 45 (xe_45 E q) rfl 2 (by decide) rfl lf_X1_29 rfl dX1_feedAggregate_117 ?_
            refine lv_iload_n hx hb dX1_feedAggregate_120 rfl (lv_at hl 3 rfl) ?_
            refine lv_aload_n hx hb dX1_feedAggregate_121 rfl (lv_at hl 2 rfl) ?_
            refine r_get F hP i_X1 45 (xe_45 E q) rfl 2 (by decide) rfl lf_X1_29 rfl dX1_feedAggregate_122 ?_
            refine lv_iload_n hx hb dX1_feedAggregate_125 rfl (lv_at hl 3 rfl) ?_
            obtain ⟨r21, e22, h⟩ := Option.bind_eq_some_iff.mp h
            refine q_callV (As := [.int x1]) (rest := [.int x1, .ref (eA E 6)]) F hA hP hD hS (c_X8_numberOf (E := E) (l := l) (v := 2) (by decide) q x1 e22) k_X8_numberOf in_X8_numberOf se_X8_numberOf lm_X1_106 6 (xe_6 E q) rfl ⟨rfl, rfl⟩ ⟨by decide, by decide⟩ rfl hl.1 rfl (Nat.le_of_ble_eq_true rfl) dX1_feedAggregate_126 ⟨by decide, by decide⟩ ?_
            intro H locs hP hD hS
            refine lv_aload_n hx hb dX1_feedAggregate_129 rfl (lv_at hl 2 rfl) ?_
            refine r_get F hP i_X1 45 (xe_45 E q) rfl 2 (by decide) rfl lf_X1_29 rfl dX1_feedAggregate_130 ?_
            refine lv_iload_n hx hb dX1_feedAggregate_133 rfl (lv_at hl 0 rfl) ?_
            obtain ⟨r23, e24, h⟩ := Option.bind_eq_some_iff.mp h
            refine q_callV (As := [.int y4]) (rest := [.long r21, .int x1, .ref (eA E 6)]) F hA hP hD hS (c_X8_numberOf (E := E) (l := l) (v := 2) (by decide) q y4 e24) k_X8_numberOf in_X8_numberOf se_X8_numberOf lm_X1_106 6 (xe_6 E q) rfl ⟨rfl, rfl⟩ ⟨by decide, by decide⟩ rfl hl.1 rfl (Nat.le_of_ble_eq_true rfl) dX1_feedAggregate_134 ⟨by decide, by decide⟩ ?_
            intro H locs hP hD hS
            refine lv_ladd hx hb dX1_feedAggregate_137 ?_
            obtain ⟨r25, e26, h⟩ := Option.bind_eq_some_iff.mp h
            refine q_callV (As := [.int x1, .long (r21 + r23)]) (rest := []) F hA hP hD hS (c_X8_setNumber (E := E) (l := l) (v := 2) (by decide) q x1 (r21 + r23) e26) k_X8_setNumber in_X8_setNumber se_X8_setNumber lm_X1_110 6 (xe_6 E q) rfl ⟨rfl, rfl⟩ ⟨by decide, by decide⟩ rfl hl.1 rfl (Nat.le_of_ble_eq_true rfl) dX1_feedAggregate_138 ⟨by decide, by decide⟩ ?_
            intro H locs hP hD hS
            refine lv_goto (tgt := 173) hx hb dX1_feedAggregate_141 (by decide) ?_
            cases h
            exact hRt _ _ dX1_feedAggregate_173 _ _ hP hD hS
        · rw [if_neg c12] at h
          refine lv_aload_n hx hb dX1_feedAggregate_94 rfl (lv_at hl 2 rfl) ?_
          refine r_get F hP i_X1 45 (xe_45 E q) rfl 2 (by decide) rfl lf_X1_29 rfl dX1_feedAggregate_95 ?_
          refine lv_iload_n hx hb dX1_feedAggregate_98 rfl (lv_at hl 3 rfl) ?_
          refine lv_aload_n hx hb dX1_feedAggregate_99 rfl (lv_at hl 2 rfl) ?_
          refine r_get F hP i_X1 45 (xe_45 E q) rfl 2 (by decide) rfl lf_X1_29 rfl dX1_feedAggregate_100 ?_
          refine lv_iload_n hx hb dX1_feedAggregate_103 rfl (lv_at hl 0 rfl) ?_
          obtain ⟨r27, e28, h⟩ := Option.bind_eq_some_iff.mp h
          refine q_callV (As := [.int x1, .ref (eA E 6), .int y4]) (rest := []) F hA hP hD hS (c_X8_copy (E := E) (l := l) (v := 2) (by decide) (u := 2) (by decide) q x1 y4 e28) k_X8_copy in_X8_copy se_X8_copy lm_X1_98 6 (xe_6 E q) rfl ⟨rfl, rfl⟩ ⟨by decide, by decide⟩ rfl hl.1 rfl (Nat.le_of_ble_eq_true rfl) dX1_feedAggregate_104 ⟨by decide, by decide⟩ ?_
          intro H locs hP hD hS
          refine lv_goto (tgt := 173) hx hb dX1_feedAggregate_107 (by decide) ?_
          cases h
          exact hRt _ _ dX1_feedAggregate_173 _ _ hP hD hS
      · rw [if_pos c9] at h
        refine lv_aload_n hx hb dX1_feedAggregate_62 rfl (lv_at hl 2 rfl) ?_
        refine r_get F hP i_X1 45 (xe_45 E q) rfl 2 (by decide) rfl lf_X1_29 rfl dX1_feedAggregate_63 ?_
        refine lv_iload_n hx hb dX1_feedAggregate_66 rfl (lv_at hl 3 rfl) ?_
        refine lv_aload_n hx hb dX1_feedAggregate_67 rfl (lv_at hl 2 rfl) ?_
        refine r_get F hP i_X1 45 (xe_45 E q) rfl 2 (by decide) rfl lf_X1_29 rfl dX1_feedAggregate_68 ?_
        refine lv_iload_n hx hb dX1_feedAggregate_71 rfl (lv_at hl 3 rfl) ?_
        obtain ⟨r29, e30, h⟩ := Option.bind_eq_some_iff.mp h
        refine q_callV (As := [.int x1]) (rest := [.int x1, .ref (eA E 6)]) F hA hP hD hS (c_X8_numberOf (E := E) (l := l) (v := 2) (by decide) q x1 e30) k_X8_numberOf in_X8_numberOf se_X8_numberOf lm_X1_106 6 (xe_6 E q) rfl ⟨rfl, rfl⟩ ⟨by decide, by decide⟩ rfl hl.1 rfl (Nat.le_of_ble_eq_true rfl) dX1_feedAggregate_72 ⟨by decide, by decide⟩ ?_
        intro H locs hP hD hS
        refine lv_lconst (v := 1) hx hb dX1_feedAggregate_75 (by decide) ?_
        refine lv_ladd hx hb dX1_feedAggregate_76 ?_
        obtain ⟨r31, e32, h⟩ := Option.bind_eq_some_iff.mp h
        refine q_callV (As := [.int x1, .long (r29 + (1 : Int64))]) (rest := []) F hA hP hD hS (c_X8_setNumber (E := E) (l := l) (v := 2) (by decide) q x1 (r29 + (1 : Int64)) e32) k_X8_setNumber in_X8_setNumber se_X8_setNumber lm_X1_110 6 (xe_6 E q) rfl ⟨rfl, rfl⟩ ⟨by decide, by decide⟩ rfl hl.1 rfl (Nat.le_of_ble_eq_true rfl) dX1_feedAggregate_77 ⟨by decide, by decide⟩ ?_
        intro H locs hP hD hS
        refine lv_goto (tgt := 173) hx hb dX1_feedAggregate_80 (by decide) ?_
        cases h
        exact hRt _ _ dX1_feedAggregate_173 _ _ hP hD hS
    · rw [if_neg c8] at h
      cases h
      exact hRt _ _ dX1_feedAggregate_55 _ _ hP hD hS
  · rw [if_pos c3] at h
    refine lv_aload_n hx hb dX1_feedAggregate_15 rfl (lv_at hl 1 rfl) ?_
    refine r_get F hP i_X1 45 (xe_45 E q) rfl 2 (by decide) rfl lf_X1_29 rfl dX1_feedAggregate_16 ?_
    refine lv_iload_n hx hb dX1_feedAggregate_19 rfl (lv_at hl 2 rfl) ?_
    refine lv_aload_n hx hb dX1_feedAggregate_20 rfl (lv_at hl 1 rfl) ?_
    refine r_get F hP i_X1 45 (xe_45 E q) rfl 2 (by decide) rfl lf_X1_29 rfl dX1_feedAggregate_21 ?_
    refine lv_iload_n hx hb dX1_feedAggregate_24 rfl (lv_at hl 2 rfl) ?_
    obtain ⟨r33, e34, h⟩ := Option.bind_eq_some_iff.mp h
    refine q_callV (As := [.int x1]) (rest := [.int x1, .ref (eA E 6)]) F hA hP hD hS (c_X8_numberOf (E := E) (l := l) (v := 2) (by decide) q x1 e34) k_X8_numberOf in_X8_numberOf se_X8_numberOf lm_X1_106 6 (xe_6 E q) rfl ⟨rfl, rfl⟩ ⟨by decide, by decide⟩ rfl hl.1 rfl (Nat.le_of_ble_eq_true rfl) dX1_feedAggregate_25 ⟨by decide, by decide⟩ ?_
    intro H locs hP hD hS
    refine lv_lconst (v := 1) hx hb dX1_feedAggregate_28 (by decide) ?_
    refine lv_ladd hx hb dX1_feedAggregate_29 ?_
    obtain ⟨r35, e36, h⟩ := Option.bind_eq_some_iff.mp h
    refine q_callV (As := [.int x1, .long (r33 + (1 : Int64))]) (rest := []) F hA hP hD hS (c_X8_setNumber (E := E) (l := l) (v := 2) (by decide) q x1 (r33 + (1 : Int64)) e36) k_X8_setNumber in_X8_setNumber se_X8_setNumber lm_X1_110 6 (xe_6 E q) rfl ⟨rfl, rfl⟩ ⟨by decide, by decide⟩ rfl hl.1 rfl (Nat.le_of_ble_eq_true rfl) dX1_feedAggregate_30 ⟨by decide, by decide⟩ ?_
    intro H locs hP hD hS
    cases h
    exact hRt _ _ dX1_feedAggregate_33 _ _ hP hD hS
def f_X1_feedAggregate (q : QS) (x1 : Int32) : Option (QS) := f_X1_feedAggregate_0 q x1
set_option maxRecDepth 100000 in
theorem c_X1_feedAggregate {E : En} {l : Launch} (q : QS) (x1 : Int32) {o : QS} (h : f_X1_feedAggregate q x1 = some o) : Ct (wX E) E l yX1_feedAggregate (wy yX1_feedAggregate cX1_feedAggregate 4 none) rm_X1_feedAggregate q o [.ref (eA E 45), .int x1] none :=
  ct_V (o := o) (by decide +kernel) (fun p e s m below meth c A Q F hA hRt H locs hP hD hS => en_W [.ref (eA E 45), .int x1] (Nat.le_of_ble_eq_true rfl) (fun ls hl => g_X1_feedAggregate_0 F hA hRt q x1 h ls (lv_sub hl [0, 1] rfl) H locs hP hD hS))
