def rm_X6_planItems : Room := { frames := 3, cells := 0, slots := 0, locals := 63 }
def f_X6_planItems_9_b (K42 : QS → Option (QS)) (B9 : QS → Int32 → Option (QS)) (q : QS) (x1 : Int32) : Option (QS) :=
  if (qF q 6) ≤ x1 then
    K42 q
  else
    (rd (qI q 39) 8 x1).bind fun y4 =>
    (f_X3_need 2 q y4).bind fun r6 =>
    B9 r6 (x1 + (1 : Int32))
set_option maxHeartbeats 4000000 in
set_option maxRecDepth 100000 in
theorem g_X6_planItems_9_b {E : En} {p : Program} {l : Launch} {e : Env} {s : State} {m : MethodId} {args : Array Value} {below : List Frame} {meth : Method} {c : Code} {A : Nat → Prop} {Q : State → Prop} (F : Fx E p s m args meth c (yX6_planItems).cls cX6_planItems 3 none) (hA : ∀ z : Nat, s.heap.size ≤ z → A z) {o : QS} (hRt : RtV (wX E) E p l e rm_X6_planItems s m args below meth c A Q cX6_planItems o) {K42 : QS → Option (QS)} {B9 : QS → Int32 → Option (QS)} (hK42 : ∀ (q : QS), K42 q = some o → ∀ ls : Array Slot, lv_has ls 3 [(0, .ref (eA E 47))] → Wq (wX E) E p l e rm_X6_planItems s m args below meth c A 0 0 Q q (F0 m 42 ls [])) (hB9 : ∀ (q : QS) (x1 : Int32), B9 q x1 = some o → ∀ ls : Array Slot, lv_has ls 3 [(0, .ref (eA E 47)), (1, .int x1)] → Wq (wX E) E p l e rm_X6_planItems s m args below meth c A 0 0 Q q (F0 m 9 ls [])) (q : QS) (x1 : Int32) (h : f_X6_planItems_9_b K42 B9 q x1 = some o) (ls : Array Slot) (hl : lv_has ls 3 [(0, .ref (eA E 47)), (1, .int x1)]) : Wq (wX E) E p l e rm_X6_planItems s m args below meth c A 0 0 Q q (F0 m 9 ls []) := by
  intro H locs hP hD hS
  have hx := F.1
  have hb := F.2.1
  unfold f_X6_planItems_9_b at h
  refine lv_iload_n hx hb dX6_planItems_9 rfl (lv_at hl 1 rfl) ?_
  refine lv_aload_n hx hb dX6_planItems_10 rfl (lv_at hl 0 rfl) ?_
  refine r_get F hP i_X6 47 (xe_47 E q) rfl 2 (by decide) rfl lf_X6_36 rfl dX6_planItems_11 ?_
  refine r_get F hP i_X4 38 (xe_38 E q) rfl 0 (by decide) rfl lf_X6_77 rfl dX6_planItems_14 ?_
  refine lv_icmp_ge (tgt := 42) hx hb dX6_planItems_17 (by decide) (fun c3 => ?_) (fun c3 => ?_)
  · rw [if_pos c3] at h
    exact hK42 q h _ (lv_sub hl [0] rfl) _ _ hP hD hS
  · rw [if_neg c3] at h
    refine lv_aload_n hx hb dX6_planItems_20 rfl (lv_at hl 0 rfl) ?_
    refine r_get F hP i_X6 47 (xe_47 E q) rfl 6 (by decide) rfl lf_X6_21 rfl dX6_planItems_21 ?_
    refine lv_aload_n hx hb dX6_planItems_24 rfl (lv_at hl 0 rfl) ?_
    refine r_get F hP i_X6 47 (xe_47 E q) rfl 2 (by decide) rfl lf_X6_36 rfl dX6_planItems_25 ?_
    refine r_get F hP i_X4 38 (xe_38 E q) rfl 6 (by decide) rfl lf_X6_80 rfl dX6_planItems_28 ?_
    refine lv_iload_n hx hb dX6_planItems_31 rfl (lv_at hl 1 rfl) ?_
    obtain ⟨y4, e5, h⟩ := Option.bind_eq_some_iff.mp h
    refine r_iald F hP 39 (xe_39 E q) e5 dX6_planItems_32 ?_
    obtain ⟨r6, e7, h⟩ := Option.bind_eq_some_iff.mp h
    refine q_callV (As := [.int y4]) (rest := []) F hA hP hD hS (c_X3_need (E := E) (l := l) (v := 2) (by decide) q y4 e7) k_X3_need in_X3_need se_X3_need lm_X6_70 21 (xe_21 E q) rfl ⟨rfl, rfl⟩ ⟨by decide, by decide⟩ rfl hl.1 rfl (Nat.le_of_ble_eq_true rfl) dX6_planItems_33 ⟨by decide, by decide⟩ ?_
    intro H locs hP hD hS
    refine lv_iinc (v := (x1 + (1 : Int32))) (lv' := [(1, .int (x1 + (1 : Int32))), (0, .ref (eA E 47))]) hx hb dX6_planItems_36 hl (k := 1) rfl rfl (by decide) rfl (fun ls hl => ?_)
    refine lv_goto (tgt := 9) hx hb dX6_planItems_39 (by decide) ?_
    exact hB9 r6 (x1 + (1 : Int32)) h _ (lv_sub hl [1, 0] rfl) _ _ hP hD hS
def f_X6_planItems_9 (K42 : QS → Option (QS)) : Nat → QS → Int32 → Option (QS)
  | 0 => fun _ _ => none
  | n + 1 => f_X6_planItems_9_b K42 (f_X6_planItems_9 K42 n)
theorem g_X6_planItems_9 {E : En} {p : Program} {l : Launch} {e : Env} {s : State} {m : MethodId} {args : Array Value} {below : List Frame} {meth : Method} {c : Code} {A : Nat → Prop} {Q : State → Prop} (F : Fx E p s m args meth c (yX6_planItems).cls cX6_planItems 3 none) (hA : ∀ z : Nat, s.heap.size ≤ z → A z) {o : QS} (hRt : RtV (wX E) E p l e rm_X6_planItems s m args below meth c A Q cX6_planItems o) {K42 : QS → Option (QS)} (hK42 : ∀ (q : QS), K42 q = some o → ∀ ls : Array Slot, lv_has ls 3 [(0, .ref (eA E 47))] → Wq (wX E) E p l e rm_X6_planItems s m args below meth c A 0 0 Q q (F0 m 42 ls [])) (n : Nat) : ∀ (q : QS) (x1 : Int32), f_X6_planItems_9 K42 n q x1 = some o → ∀ ls : Array Slot, lv_has ls 3 [(0, .ref (eA E 47)), (1, .int x1)] → Wq (wX E) E p l e rm_X6_planItems s m args below meth c A 0 0 Q q (F0 m 9 ls []) := by
  induction n with
  | zero => intro q x1 h; cases h
  | succ n ih => intro q x1 h; exact g_X6_planItems_9_b F hA hRt hK42 ih q x1 h
def f_X6_planItems_135 (B67 : QS → Int32 → Option (QS)) (q : QS) (x1 : Int32) : Option (QS) :=
  B67 q (x1 + (1 : Int32))
set_option maxHeartbeats 4000000 in
set_option maxRecDepth 100000 in
theorem g_X6_planItems_135 {E : En} {p : Program} {l : Launch} {e : Env} {s : State} {m : MethodId} {args : Array Value} {below : List Frame} {meth : Method} {c : Code} {A : Nat → Prop} {Q : State → Prop} (F : Fx E p s m args meth c (yX6_planItems).cls cX6_planItems 3 none) (hA : ∀ z : Nat, s.heap.size ≤ z → A z) {o : QS} (hRt : RtV (wX E) E p l e rm_X6_planItems s m args below meth c A Q cX6_planItems o) {B67 : QS → Int32 → Option (QS)} (hB67 : ∀ (q : QS) (x1 : Int32), B67 q x1 = some o → ∀ ls : Array Slot, lv_has ls 3 [(0, .ref (eA E 47)), (1, .int x1)] → Wq (wX E) E p l e rm_X6_planItems s m args below meth c A 0 0 Q q (F0 m 67 ls [])) (q : QS) (x1 : Int32) (h : f_X6_planItems_135 B67 q x1 = some o) (ls : Array Slot) (hl : lv_has ls 3 [(0, .ref (eA E 47)), (1, .int x1)]) : Wq (wX E) E p l e rm_X6_planItems s m args below meth c A 0 0 Q q (F0 m 135 ls []) := by
  intro H locs hP hD hS
  have hx := F.1
  have hb := F.2.1
  unfold f_X6_planItems_135 at h
  refine lv_iinc (v := (x1 + (1 : Int32))) (lv' := [(1, .int (x1 + (1 : Int32))), (0, .ref (eA E 47))]) hx hb dX6_planItems_135 hl (k := 1) rfl rfl (by decide) rfl (fun ls hl => ?_)
  refine lv_goto (tgt := 67) hx hb dX6_planItems_138 (by decide) ?_
  exact hB67 q (x1 + (1 : Int32)) h _ (lv_sub hl [1, 0] rfl) _ _ hP hD hS
def f_X6_planItems_67_b (B67 : QS → Int32 → Option (QS)) (q : QS) (x1 : Int32) : Option (QS) :=
  if (qF q 5) ≤ x1 then
    (f_X3_complete 1 q).bind fun r13 =>
    some r13
  else
    (rd (qI q 23) 200 x1).bind fun y15 =>
    (f_X2_isAggregate q y15).bind fun r17 =>
    if r17 = 0 then
      f_X6_planItems_135 B67 q x1
    else
      (wI q 48 200 (qF q 13) y15).bind fun q20 =>
      (rd (qI (uF q20 13 ((qF q20 13) + (1 : Int32))) 32) 200 y15).bind fun y22 =>
      (f_X3_need 1 (uF q20 13 ((qF q20 13) + (1 : Int32))) y22).bind fun r24 =>
      f_X6_planItems_135 B67 r24 x1
set_option maxHeartbeats 4000000 in
set_option maxRecDepth 100000 in
theorem g_X6_planItems_67_b {E : En} {p : Program} {l : Launch} {e : Env} {s : State} {m : MethodId} {args : Array Value} {below : List Frame} {meth : Method} {c : Code} {A : Nat → Prop} {Q : State → Prop} (F : Fx E p s m args meth c (yX6_planItems).cls cX6_planItems 3 none) (hA : ∀ z : Nat, s.heap.size ≤ z → A z) {o : QS} (hRt : RtV (wX E) E p l e rm_X6_planItems s m args below meth c A Q cX6_planItems o) {B67 : QS → Int32 → Option (QS)} (hB67 : ∀ (q : QS) (x1 : Int32), B67 q x1 = some o → ∀ ls : Array Slot, lv_has ls 3 [(0, .ref (eA E 47)), (1, .int x1)] → Wq (wX E) E p l e rm_X6_planItems s m args below meth c A 0 0 Q q (F0 m 67 ls [])) (q : QS) (x1 : Int32) (h : f_X6_planItems_67_b B67 q x1 = some o) (ls : Array Slot) (hl : lv_has ls 3 [(0, .ref (eA E 47)), (1, .int x1)]) : Wq (wX E) E p l e rm_X6_planItems s m args below meth c A 0 0 Q q (F0 m 67 ls []) := by
  intro H locs hP hD hS
  have hx := F.1
  have hb := F.2.1
  unfold f_X6_planItems_67_b at h
  refine lv_iload_n hx hb dX6_planItems_67 rfl (lv_at hl 1 rfl) ?_
  refine lv_aload_n hx hb dX6_planItems_68 rfl (lv_at hl 0 rfl) ?_
  refine r_get F hP i_X6 47 (xe_47 E q) rfl 6 (by decide) rfl lf_X6_21 rfl dX6_planItems_69 ?_
  refine r_get F hP i_X3 21 (xe_21 E q) rfl 2 (by decide) rfl lf_X6_86 rfl dX6_planItems_72 ?_
  refine lv_icmp_ge (tgt := 141) hx hb dX6_planItems_75 (by decide) (fun c12 => ?_) (fun c12 => ?_)
  · rw [if_pos c12] at h
    refine lv_aload_n hx hb dX6_planItems_141 rfl (lv_at hl 0 rfl) ?_
    refine r_get F hP i_X6 47 (xe_47 E q) rfl 5 (by decide) rfl lf_X6_18 rfl dX6_planItems_142 ?_
    refine lv_aload_n hx hb dX6_planItems_145 rfl (lv_at hl 0 rfl) ?_
    refine r_get F hP i_X6 47 (xe_47 E q) rfl 1 (by decide) rfl lf_X6_32 rfl dX6_planItems_146 ?_
    obtain ⟨r13, e14, h⟩ := Option.bind_eq_some_iff.mp h
    refine q_callV (As := [.ref (eA E 29)]) (rest := []) F hA hP hD hS (c_X3_complete (E := E) (l := l) (v := 1) (by decide) q e14) k_X3_complete in_X3_complete se_X3_complete lm_X6_73 18 (xe_18 E q) rfl ⟨rfl, rfl⟩ ⟨by decide, by decide⟩ rfl hl.1 rfl (Nat.le_of_ble_eq_true rfl) dX6_planItems_149 ⟨by decide, by decide⟩ ?_
    intro H locs hP hD hS
    cases h
    exact hRt _ _ dX6_planItems_152 _ _ hP hD hS
  · rw [if_neg c12] at h
    refine lv_aload_n hx hb dX6_planItems_78 rfl (lv_at hl 0 rfl) ?_
    refine r_get F hP i_X6 47 (xe_47 E q) rfl 6 (by decide) rfl lf_X6_21 rfl dX6_planItems_79 ?_
    refine r_get F hP i_X3 21 (xe_21 E q) rfl 1 (by decide) rfl lf_X6_89 rfl dX6_planItems_82 ?_
    refine lv_iload_n hx hb dX6_planItems_85 rfl (lv_at hl 1 rfl) ?_
    obtain ⟨y15, e16, h⟩ := Option.bind_eq_some_iff.mp h
    refine r_iald F hP 23 (xe_23 E q) e16 dX6_planItems_86 ?_
    refine lv_istore_n (lv' := [(2, .int y15), (0, .ref (eA E 47)), (1, .int x1)]) hx hb dX6_planItems_87 rfl hl (by decide) rfl (fun ls hl => ?_)
    refine lv_aload_n hx hb dX6_planItems_88 rfl (lv_at hl 1 rfl) ?_
    refine r_get F hP i_X6 47 (xe_47 E q) rfl 1 (by decide) rfl lf_X6_32 rfl dX6_planItems_89 ?_
    refine lv_iload_n hx hb dX6_planItems_92 rfl (lv_at hl 0 rfl) ?_
    obtain ⟨r17, e18, h⟩ := Option.bind_eq_some_iff.mp h
    refine q_callV (As := [.int y15]) (rest := []) F hA hP hD hS (c_X2_isAggregate (E := E) (l := l) q y15 e18) k_X2_isAggregate in_X2_isAggregate se_X2_isAggregate lm_X6_92 29 (xe_29 E q) rfl ⟨rfl, rfl⟩ ⟨by decide, by decide⟩ rfl hl.1 rfl (Nat.le_of_ble_eq_true rfl) dX6_planItems_93 ⟨by decide, by decide⟩ ?_
    intro H locs hP hD hS
    refine lv_if_eq (tgt := 135) hx hb dX6_planItems_96 (by decide) (fun c19 => ?_) (fun c19 => ?_)
    · rw [if_pos c19] at h
      exact g_X6_planItems_135 F hA hRt hB67 q x1 h _ (lv_sub hl [1, 2] rfl) _ _ hP hD hS
    · rw [if_neg c19] at h
      refine lv_aload_n hx hb dX6_planItems_99 rfl (lv_at hl 1 rfl) ?_
      refine r_get F hP i_X6 47 (xe_47 E q) rfl 7 (by decide) rfl lf_X6_24 rfl dX6_planItems_100 ?_
      refine lv_aload_n hx hb dX6_planItems_103 rfl (lv_at hl 1 rfl) ?_
      refine r_get F hP i_X6 47 (xe_47 E q) rfl 8 (by decide) rfl lf_X6_83 rfl dX6_planItems_104 ?_
      refine lv_iload_n hx hb dX6_planItems_107 rfl (lv_at hl 0 rfl) ?_
      obtain ⟨q20, e21, h⟩ := Option.bind_eq_some_iff.mp h
      refine r_iast F hP hD hS 48 (xe_48 E q) (xs_48 E q) e21 dX6_planItems_108 ?_
      intro H locs hP hD hS
      refine lv_aload_n hx hb dX6_planItems_109 rfl (lv_at hl 1 rfl) ?_
      refine lv_dup hx hb dX6_planItems_110 rfl ?_
      refine r_get F hP i_X6 47 (xe_47 E q20) rfl 8 (by decide) rfl lf_X6_83 rfl dX6_planItems_111 ?_
      refine lv_iconst (v := 1) hx hb dX6_planItems_114 (by decide) ?_
      refine lv_iadd hx hb dX6_planItems_115 ?_
      refine r_put (ty := .int) (q1 := (uF q20 13 ((qF q20 13) + (1 : Int32)))) F hP hD hS i_X6 tyX6_ok nmX6 47 (xe_47 E q20) rfl 8 (by decide) rfl lf_X6_83 rfl (by decide +kernel) rfl rfl (Nat.le_of_ble_eq_true rfl) (xf_47_13 E q20 ((qF q20 13) + (1 : Int32))) dX6_planItems_116 ?_
      intro H locs hP hD hS
      refine lv_aload_n hx hb dX6_planItems_119 rfl (lv_at hl 1 rfl) ?_
      refine r_get F hP i_X6 47 (xe_47 E (uF q20 13 ((qF q20 13) + (1 : Int32)))) rfl 5 (by decide) rfl lf_X6_18 rfl dX6_planItems_120 ?_
      refine lv_aload_n hx hb dX6_planItems_123 rfl (lv_at hl 1 rfl) ?_
      refine r_get F hP i_X6 47 (xe_47 E (uF q20 13 ((qF q20 13) + (1 : Int32)))) rfl 1 (by decide) rfl lf_X6_32 rfl dX6_planItems_124 ?_
      refine r_get F hP i_X2 29 (xe_29 E (uF q20 13 ((qF q20 13) + (1 : Int32)))) rfl 3 (by decide) rfl lf_X6_98 rfl dX6_planItems_127 ?_
      refine lv_iload_n hx hb dX6_planItems_130 rfl (lv_at hl 0 rfl) ?_
      obtain ⟨y22, e23, h⟩ := Option.bind_eq_some_iff.mp h
      refine r_iald F hP 32 (xe_32 E (uF q20 13 ((qF q20 13) + (1 : Int32)))) e23 dX6_planItems_131 ?_
      obtain ⟨r24, e25, h⟩ := Option.bind_eq_some_iff.mp h
      refine q_callV (As := [.int y22]) (rest := []) F hA hP hD hS (c_X3_need (E := E) (l := l) (v := 1) (by decide) (uF q20 13 ((qF q20 13) + (1 : Int32))) y22 e25) k_X3_need in_X3_need se_X3_need lm_X6_70 18 (xe_18 E (uF q20 13 ((qF q20 13) + (1 : Int32)))) rfl ⟨rfl, rfl⟩ ⟨by decide, by decide⟩ rfl hl.1 rfl (Nat.le_of_ble_eq_true rfl) dX6_planItems_132 ⟨by decide, by decide⟩ ?_
      intro H locs hP hD hS
      exact g_X6_planItems_135 F hA hRt hB67 r24 x1 h _ (lv_sub hl [1, 2] rfl) _ _ hP hD hS
def f_X6_planItems_67 : Nat → QS → Int32 → Option (QS)
  | 0 => fun _ _ => none
  | n + 1 => f_X6_planItems_67_b (f_X6_planItems_67 n)
theorem g_X6_planItems_67 {E : En} {p : Program} {l : Launch} {e : Env} {s : State} {m : MethodId} {args : Array Value} {below : List Frame} {meth : Method} {c : Code} {A : Nat → Prop} {Q : State → Prop} (F : Fx E p s m args meth c (yX6_planItems).cls cX6_planItems 3 none) (hA : ∀ z : Nat, s.heap.size ≤ z → A z) {o : QS} (hRt : RtV (wX E) E p l e rm_X6_planItems s m args below meth c A Q cX6_planItems o) (n : Nat) : ∀ (q : QS) (x1 : Int32), f_X6_planItems_67 n q x1 = some o → ∀ ls : Array Slot, lv_has ls 3 [(0, .ref (eA E 47)), (1, .int x1)] → Wq (wX E) E p l e rm_X6_planItems s m args below meth c A 0 0 Q q (F0 m 67 ls []) := by
  induction n with
  | zero => intro q x1 h; cases h
  | succ n ih => intro q x1 h; exact g_X6_planItems_67_b F hA hRt ih q x1 h
def f_X6_planItems_42 (q : QS) : Option (QS) :=
  (f_X3_complete 2 q).bind fun r8 =>
  (f_X3_begin 1 r8).bind fun r10 =>
  f_X6_planItems_67 FU (uF r10 13 (0 : Int32)) (0 : Int32)
set_option maxHeartbeats 4000000 in
set_option maxRecDepth 100000 in
theorem g_X6_planItems_42 {E : En} {p : Program} {l : Launch} {e : Env} {s : State} {m : MethodId} {args : Array Value} {below : List Frame} {meth : Method} {c : Code} {A : Nat → Prop} {Q : State → Prop} (F : Fx E p s m args meth c (yX6_planItems).cls cX6_planItems 3 none) (hA : ∀ z : Nat, s.heap.size ≤ z → A z) {o : QS} (hRt : RtV (wX E) E p l e rm_X6_planItems s m args below meth c A Q cX6_planItems o) (q : QS) (h : f_X6_planItems_42 q = some o) (ls : Array Slot) (hl : lv_has ls 3 [(0, .ref (eA E 47))]) : Wq (wX E) E p l e rm_X6_planItems s m args below meth c A 0 0 Q q (F0 m 42 ls []) := by
  intro H locs hP hD hS
  have hx := F.1
  have hb := F.2.1
  unfold f_X6_planItems_42 at h
  refine lv_aload_n hx hb dX6_planItems_42 rfl (lv_at hl 0 rfl) ?_
  refine r_get F hP i_X6 47 (xe_47 E q) rfl 6 (by decide) rfl lf_X6_21 rfl dX6_planItems_43 ?_
  refine lv_aload_n hx hb dX6_planItems_46 rfl (lv_at hl 0 rfl) ?_
  refine r_get F hP i_X6 47 (xe_47 E q) rfl 1 (by decide) rfl lf_X6_32 rfl dX6_planItems_47 ?_
  obtain ⟨r8, e9, h⟩ := Option.bind_eq_some_iff.mp h
  refine q_callV (As := [.ref (eA E 29)]) (rest := []) F hA hP hD hS (c_X3_complete (E := E) (l := l) (v := 2) (by decide) q e9) k_X3_complete in_X3_complete se_X3_complete lm_X6_73 21 (xe_21 E q) rfl ⟨rfl, rfl⟩ ⟨by decide, by decide⟩ rfl hl.1 rfl (Nat.le_of_ble_eq_true rfl) dX6_planItems_50 ⟨by decide, by decide⟩ ?_
  intro H locs hP hD hS
  refine lv_aload_n hx hb dX6_planItems_53 rfl (lv_at hl 0 rfl) ?_
  refine r_get F hP i_X6 47 (xe_47 E r8) rfl 5 (by decide) rfl lf_X6_18 rfl dX6_planItems_54 ?_
  obtain ⟨r10, e11, h⟩ := Option.bind_eq_some_iff.mp h
  refine q_callV (As := []) (rest := []) F hA hP hD hS (c_X3_begin (E := E) (l := l) (v := 1) (by decide) r8 e11) k_X3_begin in_X3_begin se_X3_begin lm_X6_61 18 (xe_18 E r8) rfl ⟨rfl, rfl⟩ ⟨by decide, by decide⟩ rfl hl.1 rfl (Nat.le_of_ble_eq_true rfl) dX6_planItems_57 ⟨by decide, by decide⟩ ?_
  intro H locs hP hD hS
  refine lv_aload_n hx hb dX6_planItems_60 rfl (lv_at hl 0 rfl) ?_
  refine lv_iconst (v := 0) hx hb dX6_planItems_61 (by decide) ?_
  refine r_put (ty := .int) (q1 := (uF r10 13 (0 : Int32))) F hP hD hS i_X6 tyX6_ok nmX6 47 (xe_47 E r10) rfl 8 (by decide) rfl lf_X6_83 rfl (by decide +kernel) rfl rfl (Nat.le_of_ble_eq_true rfl) (xf_47_13 E r10 (0 : Int32)) dX6_planItems_62 ?_
  intro H locs hP hD hS
  refine lv_iconst (v := 0) hx hb dX6_planItems_65 (by decide) ?_
  refine lv_istore_n (lv' := [(1, .int (0 : Int32)), (0, .ref (eA E 47))]) hx hb dX6_planItems_66 rfl hl (by decide) rfl (fun ls hl => ?_)
  exact g_X6_planItems_67 F hA hRt FU (uF r10 13 (0 : Int32)) (0 : Int32) h _ (lv_sub hl [1, 0] rfl) _ _ hP hD hS
def f_X6_planItems_0 (q : QS) : Option (QS) :=
  (f_X3_begin 2 q).bind fun r1 =>
  f_X6_planItems_9 (f_X6_planItems_42) FU r1 (0 : Int32)
set_option maxHeartbeats 4000000 in
set_option maxRecDepth 100000 in
theorem g_X6_planItems_0 {E : En} {p : Program} {l : Launch} {e : Env} {s : State} {m : MethodId} {args : Array Value} {below : List Frame} {meth : Method} {c : Code} {A : Nat → Prop} {Q : State → Prop} (F : Fx E p s m args meth c (yX6_planItems).cls cX6_planItems 3 none) (hA : ∀ z : Nat, s.heap.size ≤ z → A z) {o : QS} (hRt : RtV (wX E) E p l e rm_X6_planItems s m args below meth c A Q cX6_planItems o) (q : QS) (h : f_X6_planItems_0 q = some o) (ls : Array Slot) (hl : lv_has ls 3 [(0, .ref (eA E 47))]) : Wq (wX E) E p l e rm_X6_planItems s m args below meth c A 0 0 Q q (F0 m 0 ls []) := by
  intro H locs hP hD hS
  have hx := F.1
  have hb := F.2.1
  unfold f_X6_planItems_0 at h
  refine lv_aload_n hx hb dX6_planItems_0 rfl (lv_at hl 0 rfl) ?_
  refine r_get F hP i_X6 47 (xe_47 E q) rfl 6 (by decide) rfl lf_X6_21 rfl dX6_planItems_1 ?_
  obtain ⟨r1, e2, h⟩ := Option.bind_eq_some_iff.mp h
  refine q_callV (As := []) (rest := []) F hA hP hD hS (c_X3_begin (E := E) (l := l) (v := 2) (by decide) q e2) k_X3_begin in_X3_begin se_X3_begin lm_X6_61 21 (xe_21 E q) rfl ⟨rfl, rfl⟩ ⟨by decide, by decide⟩ rfl hl.1 rfl (Nat.le_of_ble_eq_true rfl) dX6_planItems_4 ⟨by decide, by decide⟩ ?_
  intro H locs hP hD hS
  refine lv_iconst (v := 0) hx hb dX6_planItems_7 (by decide) ?_
  refine lv_istore_n (lv' := [(1, .int (0 : Int32)), (0, .ref (eA E 47))]) hx hb dX6_planItems_8 rfl hl (by decide) rfl (fun ls hl => ?_)
  exact g_X6_planItems_9 F hA hRt (g_X6_planItems_42 F hA hRt) FU r1 (0 : Int32) h _ (lv_sub hl [1, 0] rfl) _ _ hP hD hS
def f_X6_planItems (q : QS) : Option (QS) := f_X6_planItems_0 q
set_option maxRecDepth 100000 in
theorem c_X6_planItems {E : En} {l : Launch} (q : QS) {o : QS} (h : f_X6_planItems q = some o) : Ct (wX E) E l yX6_planItems (wy yX6_planItems cX6_planItems 3 none) rm_X6_planItems q o [.ref (eA E 47)] none :=
  ct_V (o := o) (by decide +kernel) (fun p e s m below meth c A Q F hA hRt H locs hP hD hS => en_W [.ref (eA E 47)] (Nat.le_of_ble_eq_true rfl) (fun ls hl => g_X6_planItems_0 F hA hRt q h ls (lv_sub hl [0] rfl) H locs hP hD hS))
def rm_X6_plan : Room := { frames := 4, cells := 0, slots := 0, locals := 85 }
def f_X6_plan_0 (q : QS) : Option (QS) :=
  (f_X6_planItems q).bind fun r1 =>
  (f_X3_begin 0 r1).bind fun r3 =>
  (f_X3_need 0 r3 (qF r3 9)).bind fun r5 =>
  (f_X3_complete 0 r5).bind fun r7 =>
  some r7
set_option maxHeartbeats 4000000 in
set_option maxRecDepth 100000 in
theorem g_X6_plan_0 {E : En} {p : Program} {l : Launch} {e : Env} {s : State} {m : MethodId} {args : Array Value} {below : List Frame} {meth : Method} {c : Code} {A : Nat → Prop} {Q : State → Prop} (F : Fx E p s m args meth c (yX6_plan).cls cX6_plan 1 none) (hA : ∀ z : Nat, s.heap.size ≤ z → A z) {o : QS} (hRt : RtV (wX E) E p l e rm_X6_plan s m args below meth c A Q cX6_plan o) (q : QS) (h : f_X6_plan_0 q = some o) (ls : Array Slot) (hl : lv_has ls 1 [(0, .ref (eA E 47))]) : Wq (wX E) E p l e rm_X6_plan s m args below meth c A 0 0 Q q (F0 m 0 ls []) := by
  intro H locs hP hD hS
  have hx := F.1
  have hb := F.2.1
  unfold f_X6_plan_0 at h
  refine lv_aload_n hx hb dX6_plan_0 rfl (lv_at hl 0 rfl) ?_
  obtain ⟨r1, e2, h⟩ := Option.bind_eq_some_iff.mp h
  refine q_callV (As := []) (rest := []) F hA hP hD hS (c_X6_planItems (E := E) (l := l) q e2) k_X6_planItems in_X6_planItems se_X6_planItems lm_X6_58 47 (xe_47 E q) rfl ⟨rfl, rfl⟩ ⟨by decide, by decide⟩ rfl hl.1 rfl (Nat.le_of_ble_eq_true rfl) dX6_plan_1 ⟨by decide, by decide⟩ ?_
  intro H locs hP hD hS
  refine lv_aload_n hx hb dX6_plan_4 rfl (lv_at hl 0 rfl) ?_
  refine r_get F hP i_X6 47 (xe_47 E r1) rfl 4 (by decide) rfl lf_X6_12 rfl dX6_plan_5 ?_
  obtain ⟨r3, e4, h⟩ := Option.bind_eq_some_iff.mp h
  refine q_callV (As := []) (rest := []) F hA hP hD hS (c_X3_begin (E := E) (l := l) (v := 0) (by decide) r1 e4) k_X3_begin in_X3_begin se_X3_begin lm_X6_61 15 (xe_15 E r1) rfl ⟨rfl, rfl⟩ ⟨by decide, by decide⟩ rfl hl.1 rfl (Nat.le_of_ble_eq_true rfl) dX6_plan_8 ⟨by decide, by decide⟩ ?_
  intro H locs hP hD hS
  refine lv_aload_n hx hb dX6_plan_11 rfl (lv_at hl 0 rfl) ?_
  refine r_get F hP i_X6 47 (xe_47 E r3) rfl 4 (by decide) rfl lf_X6_12 rfl dX6_plan_12 ?_
  refine lv_aload_n hx hb dX6_plan_15 rfl (lv_at hl 0 rfl) ?_
  refine r_get F hP i_X6 47 (xe_47 E r3) rfl 2 (by decide) rfl lf_X6_36 rfl dX6_plan_16 ?_
  refine r_get F hP i_X4 38 (xe_38 E r3) rfl 3 (by decide) rfl lf_X6_64 rfl dX6_plan_19 ?_
  obtain ⟨r5, e6, h⟩ := Option.bind_eq_some_iff.mp h
  refine q_callV (As := [.int (qF r3 9)]) (rest := []) F hA hP hD hS (c_X3_need (E := E) (l := l) (v := 0) (by decide) r3 (qF r3 9) e6) k_X3_need in_X3_need se_X3_need lm_X6_70 15 (xe_15 E r3) rfl ⟨rfl, rfl⟩ ⟨by decide, by decide⟩ rfl hl.1 rfl (Nat.le_of_ble_eq_true rfl) dX6_plan_22 ⟨by decide, by decide⟩ ?_
  intro H locs hP hD hS
  refine lv_aload_n hx hb dX6_plan_25 rfl (lv_at hl 0 rfl) ?_
  refine r_get F hP i_X6 47 (xe_47 E r5) rfl 4 (by decide) rfl lf_X6_12 rfl dX6_plan_26 ?_
  refine lv_aload_n hx hb dX6_plan_29 rfl (lv_at hl 0 rfl) ?_
  refine r_get F hP i_X6 47 (xe_47 E r5) rfl 1 (by decide) rfl lf_X6_32 rfl dX6_plan_30 ?_
  obtain ⟨r7, e8, h⟩ := Option.bind_eq_some_iff.mp h
  refine q_callV (As := [.ref (eA E 29)]) (rest := []) F hA hP hD hS (c_X3_complete (E := E) (l := l) (v := 0) (by decide) r5 e8) k_X3_complete in_X3_complete se_X3_complete lm_X6_73 15 (xe_15 E r5) rfl ⟨rfl, rfl⟩ ⟨by decide, by decide⟩ rfl hl.1 rfl (Nat.le_of_ble_eq_true rfl) dX6_plan_33 ⟨by decide, by decide⟩ ?_
  intro H locs hP hD hS
  cases h
  exact hRt _ _ dX6_plan_36 _ _ hP hD hS
def f_X6_plan (q : QS) : Option (QS) := f_X6_plan_0 q
set_option maxRecDepth 100000 in
theorem c_X6_plan {E : En} {l : Launch} (q : QS) {o : QS} (h : f_X6_plan q = some o) : Ct (wX E) E l yX6_plan (wy yX6_plan cX6_plan 1 none) rm_X6_plan q o [.ref (eA E 47)] none :=
  ct_V (o := o) (by decide +kernel) (fun p e s m below meth c A Q F hA hRt H locs hP hD hS => en_W [.ref (eA E 47)] (Nat.le_of_ble_eq_true rfl) (fun ls hl => g_X6_plan_0 F hA hRt q h ls (lv_sub hl [0] rfl) H locs hP hD hS))
def rm_X6_isGrouped : Room := { frames := 0, cells := 0, slots := 0, locals := 0 }
def f_X6_isGrouped_0 (q : QS) : Option (Int32) :=
  if 0 < (qF q 7) then
    some (1 : Int32)
  else
    if (qF q 13) ≤ 0 then
      some (0 : Int32)
    else
      some (1 : Int32)
set_option maxHeartbeats 4000000 in
set_option maxRecDepth 100000 in
theorem g_X6_isGrouped_0 {E : En} {p : Program} {l : Launch} {e : Env} {s : State} {m : MethodId} {args : Array Value} {below : List Frame} {meth : Method} {c : Code} {A : Nat → Prop} {Q : State → Prop} (F : Fx E p s m args meth c (yX6_isGrouped).cls cX6_isGrouped 1 (some .boolean)) (hA : ∀ z : Nat, s.heap.size ≤ z → A z) {q : QS} {o : Int32} (hRt : RtZ (wX E) E p l e rm_X6_isGrouped s m args below meth c A Q cX6_isGrouped (o, q)) (h : f_X6_isGrouped_0 q = some o) (ls : Array Slot) (hl : lv_has ls 1 [(0, .ref (eA E 47))]) : Wq (wX E) E p l e rm_X6_isGrouped s m args below meth c A 0 0 Q q (F0 m 0 ls []) := by
  intro H locs hP hD hS
  have hx := F.1
  have hb := F.2.1
  unfold f_X6_isGrouped_0 at h
  refine lv_aload_n hx hb dX6_isGrouped_0 rfl (lv_at hl 0 rfl) ?_
  refine r_get F hP i_X6 47 (xe_47 E q) rfl 2 (by decide) rfl lf_X6_36 rfl dX6_isGrouped_1 ?_
  refine r_get F hP i_X4 38 (xe_38 E q) rfl 1 (by decide) rfl lf_X6_101 rfl dX6_isGrouped_4 ?_
  refine lv_if_gt (tgt := 17) hx hb dX6_isGrouped_7 (by decide) (fun c1 => ?_) (fun c1 => ?_)
  · rw [if_pos c1] at h
    refine lv_iconst (v := 1) hx hb dX6_isGrouped_17 (by decide) ?_
    refine lv_goto (tgt := 22) hx hb dX6_isGrouped_18 (by decide) ?_
    cases h
    exact hRt _ _ zz_1 dX6_isGrouped_22 _ _ hP hD hS
  · rw [if_neg c1] at h
    refine lv_aload_n hx hb dX6_isGrouped_10 rfl (lv_at hl 0 rfl) ?_
    refine r_get F hP i_X6 47 (xe_47 E q) rfl 8 (by decide) rfl lf_X6_83 rfl dX6_isGrouped_11 ?_
    refine lv_if_le (tgt := 21) hx hb dX6_isGrouped_14 (by decide) (fun c2 => ?_) (fun c2 => ?_)
    · rw [if_pos c2] at h
      refine lv_iconst (v := 0) hx hb dX6_isGrouped_21 (by decide) ?_
      cases h
      exact hRt _ _ zz_0 dX6_isGrouped_22 _ _ hP hD hS
    · rw [if_neg c2] at h
      refine lv_iconst (v := 1) hx hb dX6_isGrouped_17 (by decide) ?_
      refine lv_goto (tgt := 22) hx hb dX6_isGrouped_18 (by decide) ?_
      cases h
      exact hRt _ _ zz_1 dX6_isGrouped_22 _ _ hP hD hS
def f_X6_isGrouped (q : QS) : Option (Int32) := f_X6_isGrouped_0 q
set_option maxRecDepth 100000 in
theorem c_X6_isGrouped {E : En} {l : Launch} (q : QS) {o : Int32} (h : f_X6_isGrouped q = some o) : Ct (wX E) E l yX6_isGrouped (wy yX6_isGrouped cX6_isGrouped 1 (some .boolean)) rm_X6_isGrouped q q [.ref (eA E 47)] (some (.int o)) :=
  ct_Z (o := (o, q)) (by decide +kernel) (fun p e s m below meth c A Q F hA hRt H locs hP hD hS => en_W [.ref (eA E 47)] (Nat.le_of_ble_eq_true rfl) (fun ls hl => g_X6_isGrouped_0 F hA hRt h ls (lv_sub hl [0] rfl) H locs hP hD hS))
def rm_X6_hasLooseColumn : Room := { frames := 1, cells := 0, slots := 0, locals := 23 }
def f_X6_hasLooseColumn_75 (q : QS) (B11 : Int32 → Option (Int32)) (x1 : Int32) : Option (Int32) :=
  B11 (x1 + (1 : Int32))
set_option maxHeartbeats 4000000 in
set_option maxRecDepth 100000 in
theorem g_X6_hasLooseColumn_75 {E : En} {p : Program} {l : Launch} {e : Env} {s : State} {m : MethodId} {args : Array Value} {below : List Frame} {meth : Method} {c : Code} {A : Nat → Prop} {Q : State → Prop} (F : Fx E p s m args meth c (yX6_hasLooseColumn).cls cX6_hasLooseColumn 3 (some .boolean)) (hA : ∀ z : Nat, s.heap.size ≤ z → A z) {q : QS} {o : Int32} (hRt : RtZ (wX E) E p l e rm_X6_hasLooseColumn s m args below meth c A Q cX6_hasLooseColumn (o, q)) {B11 : Int32 → Option (Int32)} (hB11 : ∀ (x1 : Int32), B11 x1 = some o → ∀ ls : Array Slot, lv_has ls 3 [(0, .ref (eA E 47)), (1, .int x1)] → Wq (wX E) E p l e rm_X6_hasLooseColumn s m args below meth c A 0 0 Q q (F0 m 11 ls [])) (x1 : Int32) (h : f_X6_hasLooseColumn_75 q B11 x1 = some o) (ls : Array Slot) (hl : lv_has ls 3 [(0, .ref (eA E 47)), (1, .int x1)]) : Wq (wX E) E p l e rm_X6_hasLooseColumn s m args below meth c A 0 0 Q q (F0 m 75 ls []) := by
  intro H locs hP hD hS
  have hx := F.1
  have hb := F.2.1
  unfold f_X6_hasLooseColumn_75 at h
  refine lv_iinc (v := (x1 + (1 : Int32))) (lv' := [(1, .int (x1 + (1 : Int32))), (0, .ref (eA E 47))]) hx hb dX6_hasLooseColumn_75 hl (k := 1) rfl rfl (by decide) rfl (fun ls hl => ?_)
  refine lv_goto (tgt := 11) hx hb dX6_hasLooseColumn_78 (by decide) ?_
  exact hB11 (x1 + (1 : Int32)) h _ (lv_sub hl [1, 0] rfl) _ _ hP hD hS
def f_X6_hasLooseColumn_11_b (q : QS) (B11 : Int32 → Option (Int32)) (x1 : Int32) : Option (Int32) :=
  if (qF q 5) ≤ x1 then
    some (0 : Int32)
  else
    (rd (qI q 23) 200 x1).bind fun y5 =>
    (rd (qI q 30) 200 y5).bind fun y7 =>
    if y7 = (4 : Int32) then
      (rd (qI q 34) 200 y5).bind fun y10 =>
      (rd (qI q 35) 200 y5).bind fun y12 =>
      (f_X4_groupsBy q y10 y12).bind fun r14 =>
      if r14 = 0 then
        some (1 : Int32)
      else
        f_X6_hasLooseColumn_75 q B11 x1
    else
      f_X6_hasLooseColumn_75 q B11 x1
set_option maxHeartbeats 4000000 in
set_option maxRecDepth 100000 in
theorem g_X6_hasLooseColumn_11_b {E : En} {p : Program} {l : Launch} {e : Env} {s : State} {m : MethodId} {args : Array Value} {below : List Frame} {meth : Method} {c : Code} {A : Nat → Prop} {Q : State → Prop} (F : Fx E p s m args meth c (yX6_hasLooseColumn).cls cX6_hasLooseColumn 3 (some .boolean)) (hA : ∀ z : Nat, s.heap.size ≤ z → A z) {q : QS} {o : Int32} (hRt : RtZ (wX E) E p l e rm_X6_hasLooseColumn s m args below meth c A Q cX6_hasLooseColumn (o, q)) {B11 : Int32 → Option (Int32)} (hB11 : ∀ (x1 : Int32), B11 x1 = some o → ∀ ls : Array Slot, lv_has ls 3 [(0, .ref (eA E 47)), (1, .int x1)] → Wq (wX E) E p l e rm_X6_hasLooseColumn s m args below meth c A 0 0 Q q (F0 m 11 ls [])) (x1 : Int32) (h : f_X6_hasLooseColumn_11_b q B11 x1 = some o) (ls : Array Slot) (hl : lv_has ls 3 [(0, .ref (eA E 47)), (1, .int x1)]) : Wq (wX E) E p l e rm_X6_hasLooseColumn s m args below meth c A 0 0 Q q (F0 m 11 ls []) := by
  intro H locs hP hD hS
  have hx := F.1
  have hb := F.2.1
  unfold f_X6_hasLooseColumn_11_b at h
  refine lv_iload_n hx hb dX6_hasLooseColumn_11 rfl (lv_at hl 1 rfl) ?_
  refine lv_aload_n hx hb dX6_hasLooseColumn_12 rfl (lv_at hl 0 rfl) ?_
  refine r_get F hP i_X6 47 (xe_47 E q) rfl 6 (by decide) rfl lf_X6_21 rfl dX6_hasLooseColumn_13 ?_
  refine r_get F hP i_X3 21 (xe_21 E q) rfl 2 (by decide) rfl lf_X6_86 rfl dX6_hasLooseColumn_16 ?_
  refine lv_icmp_ge (tgt := 81) hx hb dX6_hasLooseColumn_19 (by decide) (fun c4 => ?_) (fun c4 => ?_)
  · rw [if_pos c4] at h
    refine lv_iconst (v := 0) hx hb dX6_hasLooseColumn_81 (by decide) ?_
    cases h
    exact hRt _ _ zz_0 dX6_hasLooseColumn_82 _ _ hP hD hS
  · rw [if_neg c4] at h
    refine lv_aload_n hx hb dX6_hasLooseColumn_22 rfl (lv_at hl 0 rfl) ?_
    refine r_get F hP i_X6 47 (xe_47 E q) rfl 6 (by decide) rfl lf_X6_21 rfl dX6_hasLooseColumn_23 ?_
    refine r_get F hP i_X3 21 (xe_21 E q) rfl 1 (by decide) rfl lf_X6_89 rfl dX6_hasLooseColumn_26 ?_
    refine lv_iload_n hx hb dX6_hasLooseColumn_29 rfl (lv_at hl 1 rfl) ?_
    obtain ⟨y5, e6, h⟩ := Option.bind_eq_some_iff.mp h
    refine r_iald F hP 23 (xe_23 E q) e6 dX6_hasLooseColumn_30 ?_
    refine lv_istore_n (lv' := [(2, .int y5), (0, .ref (eA E 47)), (1, .int x1)]) hx hb dX6_hasLooseColumn_31 rfl hl (by decide) rfl (fun ls hl => ?_)
    refine lv_aload_n hx hb dX6_hasLooseColumn_32 rfl (lv_at hl 1 rfl) ?_
    refine r_get F hP i_X6 47 (xe_47 E q) rfl 1 (by decide) rfl lf_X6_32 rfl dX6_hasLooseColumn_33 ?_
    refine r_get F hP i_X2 29 (xe_29 E q) rfl 1 (by decide) rfl lf_X6_108 rfl dX6_hasLooseColumn_36 ?_
    refine lv_iload_n hx hb dX6_hasLooseColumn_39 rfl (lv_at hl 0 rfl) ?_
    obtain ⟨y7, e8, h⟩ := Option.bind_eq_some_iff.mp h
    refine r_iald F hP 30 (xe_30 E q) e8 dX6_hasLooseColumn_40 ?_
    refine lv_iconst (v := 4) hx hb dX6_hasLooseColumn_41 (by decide) ?_
    refine lv_icmp_ne (tgt := 75) hx hb dX6_hasLooseColumn_42 (by decide) (fun c9 => ?_) (fun c9 => ?_)
    · rw [if_neg c9] at h
      exact g_X6_hasLooseColumn_75 F hA hRt hB11 x1 h _ (lv_sub hl [1, 2] rfl) _ _ hP hD hS
    · rw [if_pos c9] at h
      refine lv_aload_n hx hb dX6_hasLooseColumn_45 rfl (lv_at hl 1 rfl) ?_
      refine r_get F hP i_X6 47 (xe_47 E q) rfl 2 (by decide) rfl lf_X6_36 rfl dX6_hasLooseColumn_46 ?_
      refine lv_aload_n hx hb dX6_hasLooseColumn_49 rfl (lv_at hl 1 rfl) ?_
      refine r_get F hP i_X6 47 (xe_47 E q) rfl 1 (by decide) rfl lf_X6_32 rfl dX6_hasLooseColumn_50 ?_
      refine r_get F hP i_X2 29 (xe_29 E q) rfl 5 (by decide) rfl lf_X6_111 rfl dX6_hasLooseColumn_53 ?_
      refine lv_iload_n hx hb dX6_hasLooseColumn_56 rfl (lv_at hl 0 rfl) ?_
      obtain ⟨y10, e11, h⟩ := Option.bind_eq_some_iff.mp h
      refine r_iald F hP 34 (xe_34 E q) e11 dX6_hasLooseColumn_57 ?_
      refine lv_aload_n hx hb dX6_hasLooseColumn_58 rfl (lv_at hl 1 rfl) ?_
      refine r_get F hP i_X6 47 (xe_47 E q) rfl 1 (by decide) rfl lf_X6_32 rfl dX6_hasLooseColumn_59 ?_
      refine r_get F hP i_X2 29 (xe_29 E q) rfl 6 (by decide) rfl lf_X6_114 rfl dX6_hasLooseColumn_62 ?_
      refine lv_iload_n hx hb dX6_hasLooseColumn_65 rfl (lv_at hl 0 rfl) ?_
      obtain ⟨y12, e13, h⟩ := Option.bind_eq_some_iff.mp h
      refine r_iald F hP 35 (xe_35 E q) e13 dX6_hasLooseColumn_66 ?_
      obtain ⟨r14, e15, h⟩ := Option.bind_eq_some_iff.mp h
      refine q_callV (As := [.int y10, .int y12]) (rest := []) F hA hP hD hS (c_X4_groupsBy (E := E) (l := l) q y10 y12 e15) k_X4_groupsBy in_X4_groupsBy se_X4_groupsBy lm_X6_117 38 (xe_38 E q) rfl ⟨rfl, rfl⟩ ⟨by decide, by decide⟩ rfl hl.1 rfl (Nat.le_of_ble_eq_true rfl) dX6_hasLooseColumn_67 ⟨by decide, by decide⟩ ?_
      intro H locs hP hD hS
      refine lv_if_ne (tgt := 75) hx hb dX6_hasLooseColumn_70 (by decide) (fun c16 => ?_) (fun c16 => ?_)
      · rw [if_neg c16] at h
        exact g_X6_hasLooseColumn_75 F hA hRt hB11 x1 h _ (lv_sub hl [1, 2] rfl) _ _ hP hD hS
      · rw [if_pos c16] at h
        refine lv_iconst (v := 1) hx hb dX6_hasLooseColumn_73 (by decide) ?_
        cases h
        exact hRt _ _ zz_1 dX6_hasLooseColumn_74 _ _ hP hD hS
def f_X6_hasLooseColumn_11 (q : QS) : Nat → Int32 → Option (Int32)
  | 0 => fun _ => none
  | n + 1 => f_X6_hasLooseColumn_11_b q (f_X6_hasLooseColumn_11 q n)
theorem g_X6_hasLooseColumn_11 {E : En} {p : Program} {l : Launch} {e : Env} {s : State} {m : MethodId} {args : Array Value} {below : List Frame} {meth : Method} {c : Code} {A : Nat → Prop} {Q : State → Prop} (F : Fx E p s m args meth c (yX6_hasLooseColumn).cls cX6_hasLooseColumn 3 (some .boolean)) (hA : ∀ z : Nat, s.heap.size ≤ z → A z) {q : QS} {o : Int32} (hRt : RtZ (wX E) E p l e rm_X6_hasLooseColumn s m args below meth c A Q cX6_hasLooseColumn (o, q)) (n : Nat) : ∀ (x1 : Int32), f_X6_hasLooseColumn_11 q n x1 = some o → ∀ ls : Array Slot, lv_has ls 3 [(0, .ref (eA E 47)), (1, .int x1)] → Wq (wX E) E p l e rm_X6_hasLooseColumn s m args below meth c A 0 0 Q q (F0 m 11 ls []) := by
  induction n with
  | zero => intro x1 h; cases h
  | succ n ih => intro x1 h; exact g_X6_hasLooseColumn_11_b F hA hRt ih x1 h
def f_X6_hasLooseColumn_0 (q : QS) : Option (Int32) :=
  (f_X6_isGrouped q).bind fun r1 =>
  if r1 = 0 then
    some (0 : Int32)
  else
    f_X6_hasLooseColumn_11 q FU (0 : Int32)
set_option maxHeartbeats 4000000 in
set_option maxRecDepth 100000 in
theorem g_X6_hasLooseColumn_0 {E : En} {p : Program} {l : Launch} {e : Env} {s : State} {m : MethodId} {args : Array Value} {below : List Frame} {meth : Method} {c : Code} {A : Nat → Prop} {Q : State → Prop} (F : Fx E p s m args meth c (yX6_hasLooseColumn).cls cX6_hasLooseColumn 3 (some .boolean)) (hA : ∀ z : Nat, s.heap.size ≤ z → A z) {q : QS} {o : Int32} (hRt : RtZ (wX E) E p l e rm_X6_hasLooseColumn s m args below meth c A Q cX6_hasLooseColumn (o, q)) (h : f_X6_hasLooseColumn_0 q = some o) (ls : Array Slot) (hl : lv_has ls 3 [(0, .ref (eA E 47))]) : Wq (wX E) E p l e rm_X6_hasLooseColumn s m args below meth c A 0 0 Q q (F0 m 0 ls []) := by
  intro H locs hP hD hS
  have hx := F.1
  have hb := F.2.1
  unfold f_X6_hasLooseColumn_0 at h
  refine lv_aload_n hx hb dX6_hasLooseColumn_0 rfl (lv_at hl 0 rfl) ?_
  obtain ⟨r1, e2, h⟩ := Option.bind_eq_some_iff.mp h
  refine q_callV (As := []) (rest := []) F hA hP hD hS (c_X6_isGrouped (E := E) (l := l) q e2) k_X6_isGrouped in_X6_isGrouped se_X6_isGrouped lm_X6_104 47 (xe_47 E q) rfl ⟨rfl, rfl⟩ ⟨by decide, by decide⟩ rfl hl.1 rfl (Nat.le_of_ble_eq_true rfl) dX6_hasLooseColumn_1 ⟨by decide, by decide⟩ ?_
  intro H locs hP hD hS
  refine lv_if_ne (tgt := 9) hx hb dX6_hasLooseColumn_4 (by decide) (fun c3 => ?_) (fun c3 => ?_)
  · rw [if_neg c3] at h
    refine lv_iconst (v := 0) hx hb dX6_hasLooseColumn_9 (by decide) ?_
    refine lv_istore_n (lv' := [(1, .int (0 : Int32)), (0, .ref (eA E 47))]) hx hb dX6_hasLooseColumn_10 rfl hl (by decide) rfl (fun ls hl => ?_)
    exact g_X6_hasLooseColumn_11 F hA hRt FU (0 : Int32) h _ (lv_sub hl [1, 0] rfl) _ _ hP hD hS
  · rw [if_pos c3] at h
    refine lv_iconst (v := 0) hx hb dX6_hasLooseColumn_7 (by decide) ?_
    cases h
    exact hRt _ _ zz_0 dX6_hasLooseColumn_8 _ _ hP hD hS
def f_X6_hasLooseColumn (q : QS) : Option (Int32) := f_X6_hasLooseColumn_0 q
set_option maxRecDepth 100000 in
theorem c_X6_hasLooseColumn {E : En} {l : Launch} (q : QS) {o : Int32} (h : f_X6_hasLooseColumn q = some o) : Ct (wX E) E l yX6_hasLooseColumn (wy yX6_hasLooseColumn cX6_hasLooseColumn 3 (some .boolean)) rm_X6_hasLooseColumn q q [.ref (eA E 47)] (some (.int o)) :=
  ct_Z (o := (o, q)) (by decide +kernel) (fun p e s m below meth c A Q F hA hRt H locs hP hD hS => en_W [.ref (eA E 47)] (Nat.le_of_ble_eq_true rfl) (fun ls hl => g_X6_hasLooseColumn_0 F hA hRt h ls (lv_sub hl [0] rfl) H locs hP hD hS))
def rm_X6_meetsCondition : Room := { frames := 4, cells := 0, slots := 0, locals := 97 }
def f_X6_meetsCondition_0 (q : QS) (x1 : Int32) : Option (Int32 × QS) :=
  if (qF q 9) = (-1 : Int32) then
    some ((1 : Int32), q)
  else
    (f_X1_goTo q x1).bind fun r2 =>
    (f_X1_workOut 0 r2).bind fun r4 =>
    (f_X8_isTruth 2 r4 (qF r4 9) (1 : Int32)).bind fun r6 =>
    if vp_nar .boolean r6 = r6 then some (r6, r4) else none
set_option maxHeartbeats 4000000 in
set_option maxRecDepth 100000 in
theorem g_X6_meetsCondition_0 {E : En} {p : Program} {l : Launch} {e : Env} {s : State} {m : MethodId} {args : Array Value} {below : List Frame} {meth : Method} {c : Code} {A : Nat → Prop} {Q : State → Prop} (F : Fx E p s m args meth c (yX6_meetsCondition).cls cX6_meetsCondition 2 (some .boolean)) (hA : ∀ z : Nat, s.heap.size ≤ z → A z) {o : Int32 × QS} (hRt : RtZ (wX E) E p l e rm_X6_meetsCondition s m args below meth c A Q cX6_meetsCondition o) (q : QS) (x1 : Int32) (h : f_X6_meetsCondition_0 q x1 = some o) (ls : Array Slot) (hl : lv_has ls 2 [(0, .ref (eA E 47)), (1, .int x1)]) : Wq (wX E) E p l e rm_X6_meetsCondition s m args below meth c A 0 0 Q q (F0 m 0 ls []) := by
  intro H locs hP hD hS
  have hx := F.1
  have hb := F.2.1
  unfold f_X6_meetsCondition_0 at h
  refine lv_aload_n hx hb dX6_meetsCondition_0 rfl (lv_at hl 0 rfl) ?_
  refine r_get F hP i_X6 47 (xe_47 E q) rfl 2 (by decide) rfl lf_X6_36 rfl dX6_meetsCondition_1 ?_
  refine r_get F hP i_X4 38 (xe_38 E q) rfl 3 (by decide) rfl lf_X6_64 rfl dX6_meetsCondition_4 ?_
  refine lv_iconst (v := (-1)) hx hb dX6_meetsCondition_7 (by decide) ?_
  refine lv_icmp_ne (tgt := 13) hx hb dX6_meetsCondition_8 (by decide) (fun c1 => ?_) (fun c1 => ?_)
  · rw [if_neg c1] at h
    refine lv_aload_n hx hb dX6_meetsCondition_13 rfl (lv_at hl 0 rfl) ?_
    refine r_get F hP i_X6 47 (xe_47 E q) rfl 3 (by decide) rfl lf_X6_45 rfl dX6_meetsCondition_14 ?_
    refine lv_iload_n hx hb dX6_meetsCondition_17 rfl (lv_at hl 1 rfl) ?_
    obtain ⟨r2, e3, h⟩ := Option.bind_eq_some_iff.mp h
    refine q_callV (As := [.int x1]) (rest := []) F hA hP hD hS (c_X1_goTo (E := E) (l := l) q x1 e3) k_X1_goTo in_X1_goTo se_X1_goTo lm_X6_156 45 (xe_45 E q) rfl ⟨rfl, rfl⟩ ⟨by decide, by decide⟩ rfl hl.1 rfl (Nat.le_of_ble_eq_true rfl) dX6_meetsCondition_18 ⟨by decide, by decide⟩ ?_
    intro H locs hP hD hS
    refine lv_aload_n hx hb dX6_meetsCondition_21 rfl (lv_at hl 0 rfl) ?_
    refine r_get F hP i_X6 47 (xe_47 E r2) rfl 3 (by decide) rfl lf_X6_45 rfl dX6_meetsCondition_22 ?_
    refine lv_aload_n hx hb dX6_meetsCondition_25 rfl (lv_at hl 0 rfl) ?_
    refine r_get F hP i_X6 47 (xe_47 E r2) rfl 4 (by decide) rfl lf_X6_12 rfl dX6_meetsCondition_26 ?_
    obtain ⟨r4, e5, h⟩ := Option.bind_eq_some_iff.mp h
    refine q_callV (As := [.ref (eA E 15)]) (rest := []) F hA hP hD hS (c_X1_workOut (E := E) (l := l) (u := 0) (by decide) r2 e5) k_X1_workOut in_X1_workOut se_X1_workOut lm_X6_159 45 (xe_45 E r2) rfl ⟨rfl, rfl⟩ ⟨by decide, by decide⟩ rfl hl.1 rfl (Nat.le_of_ble_eq_true rfl) dX6_meetsCondition_29 ⟨by decide, by decide⟩ ?_
    intro H locs hP hD hS
    refine lv_aload_n hx hb dX6_meetsCondition_32 rfl (lv_at hl 0 rfl) ?_
    refine r_get F hP i_X6 47 (xe_47 E r4) rfl 1 (by decide) rfl lf_X6_32 rfl dX6_meetsCondition_33 ?_
    refine r_get F hP i_X2 29 (xe_29 E r4) rfl 9 (by decide) rfl lf_X6_163 rfl dX6_meetsCondition_36 ?_
    refine lv_aload_n hx hb dX6_meetsCondition_39 rfl (lv_at hl 0 rfl) ?_
    refine r_get F hP i_X6 47 (xe_47 E r4) rfl 2 (by decide) rfl lf_X6_36 rfl dX6_meetsCondition_40 ?_
    refine r_get F hP i_X4 38 (xe_38 E r4) rfl 3 (by decide) rfl lf_X6_64 rfl dX6_meetsCondition_43 ?_
    refine lv_iconst (v := 1) hx hb dX6_meetsCondition_46 (by decide) ?_
    obtain ⟨r6, e7, h⟩ := Option.bind_eq_some_iff.mp h
    refine q_callV (As := [.int (qF r4 9), .int (1 : Int32)]) (rest := []) F hA hP hD hS (c_X8_isTruth (E := E) (l := l) (v := 2) (by decide) r4 (qF r4 9) (1 : Int32) e7) k_X8_isTruth in_X8_isTruth se_X8_isTruth lm_X6_167 6 (xe_6 E r4) rfl ⟨rfl, rfl⟩ ⟨by decide, by decide⟩ rfl hl.1 rfl (Nat.le_of_ble_eq_true rfl) dX6_meetsCondition_47 ⟨by decide, by decide⟩ ?_
    intro H locs hP hD hS
    by_cases z8 : vp_nar .boolean r6 = r6
    rotate_left
    · rw [if_neg z8] at h; cases h
    rw [if_pos z8] at h
    cases h
    exact hRt _ _ z8 dX6_meetsCondition_50 _ _ hP hD hS
  · rw [if_pos c1] at h
    refine lv_iconst (v := 1) hx hb dX6_meetsCondition_11 (by decide) ?_
    cases h
    exact hRt _ _ zz_1 dX6_meetsCondition_12 _ _ hP hD hS
def f_X6_meetsCondition (q : QS) (x1 : Int32) : Option (Int32 × QS) := f_X6_meetsCondition_0 q x1
set_option maxRecDepth 100000 in
theorem c_X6_meetsCondition {E : En} {l : Launch} (q : QS) (x1 : Int32) {o : Int32 × QS} (h : f_X6_meetsCondition q x1 = some o) : Ct (wX E) E l yX6_meetsCondition (wy yX6_meetsCondition cX6_meetsCondition 2 (some .boolean)) rm_X6_meetsCondition q o.2 [.ref (eA E 47), .int x1] (some (.int o.1)) :=
  ct_Z (o := o) (by decide +kernel) (fun p e s m below meth c A Q F hA hRt H locs hP hD hS => en_W [.ref (eA E 47), .int x1] (Nat.le_of_ble_eq_true rfl) (fun ls hl => g_X6_meetsCondition_0 F hA hRt q x1 h ls (lv_sub hl [0, 1] rfl) H locs hP hD hS))
def rm_X6_makeRowForEach : Room := { frames := 1, cells := 0, slots := 0, locals := 22 }
def f_X6_makeRowForEach_2_b (B2 : QS → Int32 → Int32 → Option (Int32 × QS)) (q : QS) (x1 : Int32) (x2 : Int32) : Option (Int32 × QS) :=
  if x1 ≤ x2 then
    some (x1, q)
  else
    (f_X5_startRow q x2 x2).bind fun r2 =>
    B2 r2 x1 (x2 + (1 : Int32))
set_option maxHeartbeats 4000000 in
set_option maxRecDepth 100000 in
theorem g_X6_makeRowForEach_2_b {E : En} {p : Program} {l : Launch} {e : Env} {s : State} {m : MethodId} {args : Array Value} {below : List Frame} {meth : Method} {c : Code} {A : Nat → Prop} {Q : State → Prop} (F : Fx E p s m args meth c (yX6_makeRowForEach).cls cX6_makeRowForEach 3 (some .int)) (hA : ∀ z : Nat, s.heap.size ≤ z → A z) {o : Int32 × QS} (hRt : RtI (wX E) E p l e rm_X6_makeRowForEach s m args below meth c A Q cX6_makeRowForEach o) {B2 : QS → Int32 → Int32 → Option (Int32 × QS)} (hB2 : ∀ (q : QS) (x1 : Int32) (x2 : Int32), B2 q x1 x2 = some o → ∀ ls : Array Slot, lv_has ls 3 [(0, .ref (eA E 47)), (1, .int x1), (2, .int x2)] → Wq (wX E) E p l e rm_X6_makeRowForEach s m args below meth c A 0 0 Q q (F0 m 2 ls [])) (q : QS) (x1 : Int32) (x2 : Int32) (h : f_X6_makeRowForEach_2_b B2 q x1 x2 = some o) (ls : Array Slot) (hl : lv_has ls 3 [(0, .ref (eA E 47)), (1, .int x1), (2, .int x2)]) : Wq (wX E) E p l e rm_X6_makeRowForEach s m args below meth c A 0 0 Q q (F0 m 2 ls []) := by
  intro H locs hP hD hS
  have hx := F.1
  have hb := F.2.1
  unfold f_X6_makeRowForEach_2_b at h
  refine lv_iload_n hx hb dX6_makeRowForEach_2 rfl (lv_at hl 2 rfl) ?_
  refine lv_iload_n hx hb dX6_makeRowForEach_3 rfl (lv_at hl 1 rfl) ?_
  refine lv_icmp_ge (tgt := 22) hx hb dX6_makeRowForEach_4 (by decide) (fun c1 => ?_) (fun c1 => ?_)
  · rw [if_pos c1] at h
    refine lv_iload_n hx hb dX6_makeRowForEach_22 rfl (lv_at hl 1 rfl) ?_
    cases h
    exact hRt _ _ dX6_makeRowForEach_23 _ _ hP hD hS
  · rw [if_neg c1] at h
    refine lv_aload_n hx hb dX6_makeRowForEach_7 rfl (lv_at hl 0 rfl) ?_
    refine r_get F hP i_X6 47 (xe_47 E q) rfl 9 (by decide) rfl lf_X6_54 rfl dX6_makeRowForEach_8 ?_
    refine lv_iload_n hx hb dX6_makeRowForEach_11 rfl (lv_at hl 2 rfl) ?_
    refine lv_iload_n hx hb dX6_makeRowForEach_12 rfl (lv_at hl 2 rfl) ?_
    obtain ⟨r2, e3, h⟩ := Option.bind_eq_some_iff.mp h
    refine q_callV (As := [.int x2, .int x2]) (rest := []) F hA hP hD hS (c_X5_startRow (E := E) (l := l) q x2 x2 e3) k_X5_startRow in_X5_startRow se_X5_startRow lm_X6_182 49 (xe_49 E q) rfl ⟨rfl, rfl⟩ ⟨by decide, by decide⟩ rfl hl.1 rfl (Nat.le_of_ble_eq_true rfl) dX6_makeRowForEach_13 ⟨by decide, by decide⟩ ?_
    intro H locs hP hD hS
    refine lv_iinc (v := (x2 + (1 : Int32))) (lv' := [(2, .int (x2 + (1 : Int32))), (0, .ref (eA E 47)), (1, .int x1)]) hx hb dX6_makeRowForEach_16 hl (k := 2) rfl rfl (by decide) rfl (fun ls hl => ?_)
    refine lv_goto (tgt := 2) hx hb dX6_makeRowForEach_19 (by decide) ?_
    exact hB2 r2 x1 (x2 + (1 : Int32)) h _ (lv_sub hl [1, 2, 0] rfl) _ _ hP hD hS
def f_X6_makeRowForEach_2 : Nat → QS → Int32 → Int32 → Option (Int32 × QS)
  | 0 => fun _ _ _ => none
  | n + 1 => f_X6_makeRowForEach_2_b (f_X6_makeRowForEach_2 n)
theorem g_X6_makeRowForEach_2 {E : En} {p : Program} {l : Launch} {e : Env} {s : State} {m : MethodId} {args : Array Value} {below : List Frame} {meth : Method} {c : Code} {A : Nat → Prop} {Q : State → Prop} (F : Fx E p s m args meth c (yX6_makeRowForEach).cls cX6_makeRowForEach 3 (some .int)) (hA : ∀ z : Nat, s.heap.size ≤ z → A z) {o : Int32 × QS} (hRt : RtI (wX E) E p l e rm_X6_makeRowForEach s m args below meth c A Q cX6_makeRowForEach o) (n : Nat) : ∀ (q : QS) (x1 : Int32) (x2 : Int32), f_X6_makeRowForEach_2 n q x1 x2 = some o → ∀ ls : Array Slot, lv_has ls 3 [(0, .ref (eA E 47)), (1, .int x1), (2, .int x2)] → Wq (wX E) E p l e rm_X6_makeRowForEach s m args below meth c A 0 0 Q q (F0 m 2 ls []) := by
  induction n with
  | zero => intro q x1 x2 h; cases h
  | succ n ih => intro q x1 x2 h; exact g_X6_makeRowForEach_2_b F hA hRt ih q x1 x2 h
def f_X6_makeRowForEach_0 (q : QS) (x1 : Int32) : Option (Int32 × QS) :=
  f_X6_makeRowForEach_2 FU q x1 (0 : Int32)
set_option maxHeartbeats 4000000 in
set_option maxRecDepth 100000 in
theorem g_X6_makeRowForEach_0 {E : En} {p : Program} {l : Launch} {e : Env} {s : State} {m : MethodId} {args : Array Value} {below : List Frame} {meth : Method} {c : Code} {A : Nat → Prop} {Q : State → Prop} (F : Fx E p s m args meth c (yX6_makeRowForEach).cls cX6_makeRowForEach 3 (some .int)) (hA : ∀ z : Nat, s.heap.size ≤ z → A z) {o : Int32 × QS} (hRt : RtI (wX E) E p l e rm_X6_makeRowForEach s m args below meth c A Q cX6_makeRowForEach o) (q : QS) (x1 : Int32) (h : f_X6_makeRowForEach_0 q x1 = some o) (ls : Array Slot) (hl : lv_has ls 3 [(0, .ref (eA E 47)), (1, .int x1)]) : Wq (wX E) E p l e rm_X6_makeRowForEach s m args below meth c A 0 0 Q q (F0 m 0 ls []) := by
  intro H locs hP hD hS
  have hx := F.1
  have hb := F.2.1
  unfold f_X6_makeRowForEach_0 at h
  refine lv_iconst (v := 0) hx hb dX6_makeRowForEach_0 (by decide) ?_
  refine lv_istore_n (lv' := [(2, .int (0 : Int32)), (0, .ref (eA E 47)), (1, .int x1)]) hx hb dX6_makeRowForEach_1 rfl hl (by decide) rfl (fun ls hl => ?_)
  exact g_X6_makeRowForEach_2 F hA hRt FU q x1 (0 : Int32) h _ (lv_sub hl [1, 2, 0] rfl) _ _ hP hD hS
def f_X6_makeRowForEach (q : QS) (x1 : Int32) : Option (Int32 × QS) := f_X6_makeRowForEach_0 q x1
set_option maxRecDepth 100000 in
theorem c_X6_makeRowForEach {E : En} {l : Launch} (q : QS) (x1 : Int32) {o : Int32 × QS} (h : f_X6_makeRowForEach q x1 = some o) : Ct (wX E) E l yX6_makeRowForEach (wy yX6_makeRowForEach cX6_makeRowForEach 3 (some .int)) rm_X6_makeRowForEach q o.2 [.ref (eA E 47), .int x1] (some (.int o.1)) :=
  ct_I (o := o) (by decide +kernel) rfl (fun p e s m below meth c A Q F hA hRt H locs hP hD hS => en_W [.ref (eA E 47), .int x1] (Nat.le_of_ble_eq_true rfl) (fun ls hl => g_X6_makeRowForEach_0 F hA hRt q x1 h ls (lv_sub hl [0, 1] rfl) H locs hP hD hS))
def rm_X6_makeOneRow : Room := { frames := 1, cells := 0, slots := 0, locals := 22 }
def f_X6_makeOneRow_19_b (B19 : QS → Int32 → Int32 → Option (Int32 × QS)) (q : QS) (x1 : Int32) (x2 : Int32) : Option (Int32 × QS) :=
  if x1 ≤ x2 then
    some ((1 : Int32), q)
  else
    (f_X5_extendRow q (0 : Int32) x2).bind fun r5 =>
    B19 r5 x1 (x2 + (1 : Int32))
set_option maxHeartbeats 4000000 in
set_option maxRecDepth 100000 in
theorem g_X6_makeOneRow_19_b {E : En} {p : Program} {l : Launch} {e : Env} {s : State} {m : MethodId} {args : Array Value} {below : List Frame} {meth : Method} {c : Code} {A : Nat → Prop} {Q : State → Prop} (F : Fx E p s m args meth c (yX6_makeOneRow).cls cX6_makeOneRow 3 (some .int)) (hA : ∀ z : Nat, s.heap.size ≤ z → A z) {o : Int32 × QS} (hRt : RtI (wX E) E p l e rm_X6_makeOneRow s m args below meth c A Q cX6_makeOneRow o) {B19 : QS → Int32 → Int32 → Option (Int32 × QS)} (hB19 : ∀ (q : QS) (x1 : Int32) (x2 : Int32), B19 q x1 x2 = some o → ∀ ls : Array Slot, lv_has ls 3 [(0, .ref (eA E 47)), (1, .int x1), (2, .int x2)] → Wq (wX E) E p l e rm_X6_makeOneRow s m args below meth c A 0 0 Q q (F0 m 19 ls [])) (q : QS) (x1 : Int32) (x2 : Int32) (h : f_X6_makeOneRow_19_b B19 q x1 x2 = some o) (ls : Array Slot) (hl : lv_has ls 3 [(0, .ref (eA E 47)), (1, .int x1), (2, .int x2)]) : Wq (wX E) E p l e rm_X6_makeOneRow s m args below meth c A 0 0 Q q (F0 m 19 ls []) := by
  intro H locs hP hD hS
  have hx := F.1
  have hb := F.2.1
  unfold f_X6_makeOneRow_19_b at h
  refine lv_iload_n hx hb dX6_makeOneRow_19 rfl (lv_at hl 2 rfl) ?_
  refine lv_iload_n hx hb dX6_makeOneRow_20 rfl (lv_at hl 1 rfl) ?_
  refine lv_icmp_ge (tgt := 39) hx hb dX6_makeOneRow_21 (by decide) (fun c4 => ?_) (fun c4 => ?_)
  · rw [if_pos c4] at h
    refine lv_iconst (v := 1) hx hb dX6_makeOneRow_39 (by decide) ?_
    cases h
    exact hRt _ _ dX6_makeOneRow_40 _ _ hP hD hS
  · rw [if_neg c4] at h
    refine lv_aload_n hx hb dX6_makeOneRow_24 rfl (lv_at hl 0 rfl) ?_
    refine r_get F hP i_X6 47 (xe_47 E q) rfl 9 (by decide) rfl lf_X6_54 rfl dX6_makeOneRow_25 ?_
    refine lv_iconst (v := 0) hx hb dX6_makeOneRow_28 (by decide) ?_
    refine lv_iload_n hx hb dX6_makeOneRow_29 rfl (lv_at hl 2 rfl) ?_
    obtain ⟨r5, e6, h⟩ := Option.bind_eq_some_iff.mp h
    refine q_callV (As := [.int (0 : Int32), .int x2]) (rest := []) F hA hP hD hS (c_X5_extendRow (E := E) (l := l) q (0 : Int32) x2 e6) k_X5_extendRow in_X5_extendRow se_X5_extendRow lm_X6_186 49 (xe_49 E q) rfl ⟨rfl, rfl⟩ ⟨by decide, by decide⟩ rfl hl.1 rfl (Nat.le_of_ble_eq_true rfl) dX6_makeOneRow_30 ⟨by decide, by decide⟩ ?_
    intro H locs hP hD hS
    refine lv_iinc (v := (x2 + (1 : Int32))) (lv' := [(2, .int (x2 + (1 : Int32))), (0, .ref (eA E 47)), (1, .int x1)]) hx hb dX6_makeOneRow_33 hl (k := 2) rfl rfl (by decide) rfl (fun ls hl => ?_)
    refine lv_goto (tgt := 19) hx hb dX6_makeOneRow_36 (by decide) ?_
    exact hB19 r5 x1 (x2 + (1 : Int32)) h _ (lv_sub hl [1, 2, 0] rfl) _ _ hP hD hS
def f_X6_makeOneRow_19 : Nat → QS → Int32 → Int32 → Option (Int32 × QS)
  | 0 => fun _ _ _ => none
  | n + 1 => f_X6_makeOneRow_19_b (f_X6_makeOneRow_19 n)
theorem g_X6_makeOneRow_19 {E : En} {p : Program} {l : Launch} {e : Env} {s : State} {m : MethodId} {args : Array Value} {below : List Frame} {meth : Method} {c : Code} {A : Nat → Prop} {Q : State → Prop} (F : Fx E p s m args meth c (yX6_makeOneRow).cls cX6_makeOneRow 3 (some .int)) (hA : ∀ z : Nat, s.heap.size ≤ z → A z) {o : Int32 × QS} (hRt : RtI (wX E) E p l e rm_X6_makeOneRow s m args below meth c A Q cX6_makeOneRow o) (n : Nat) : ∀ (q : QS) (x1 : Int32) (x2 : Int32), f_X6_makeOneRow_19 n q x1 x2 = some o → ∀ ls : Array Slot, lv_has ls 3 [(0, .ref (eA E 47)), (1, .int x1), (2, .int x2)] → Wq (wX E) E p l e rm_X6_makeOneRow s m args below meth c A 0 0 Q q (F0 m 19 ls []) := by
  induction n with
  | zero => intro q x1 x2 h; cases h
  | succ n ih => intro q x1 x2 h; exact g_X6_makeOneRow_19_b F hA hRt ih q x1 x2 h
def f_X6_makeOneRow_14 (q : QS) (x1 : Int32) (t1 : Int32) (t2 : Int32) : Option (Int32 × QS) :=
  (f_X5_startRow q t1 t2).bind fun r2 =>
  f_X6_makeOneRow_19 FU r2 x1 (1 : Int32)
set_option maxHeartbeats 4000000 in
set_option maxRecDepth 100000 in
theorem g_X6_makeOneRow_14 {E : En} {p : Program} {l : Launch} {e : Env} {s : State} {m : MethodId} {args : Array Value} {below : List Frame} {meth : Method} {c : Code} {A : Nat → Prop} {Q : State → Prop} (F : Fx E p s m args meth c (yX6_makeOneRow).cls cX6_makeOneRow 3 (some .int)) (hA : ∀ z : Nat, s.heap.size ≤ z → A z) {o : Int32 × QS} (hRt : RtI (wX E) E p l e rm_X6_makeOneRow s m args below meth c A Q cX6_makeOneRow o) (q : QS) (x1 : Int32) (t1 : Int32) (t2 : Int32) (h : f_X6_makeOneRow_14 q x1 t1 t2 = some o) (ls : Array Slot) (hl : lv_has ls 3 [(0, .ref (eA E 47)), (1, .int x1)]) : Wq (wX E) E p l e rm_X6_makeOneRow s m args below meth c A 0 0 Q q (F0 m 14 ls [.int t2, .int t1, .ref (eA E 49)]) := by
  intro H locs hP hD hS
  have hx := F.1
  have hb := F.2.1
  unfold f_X6_makeOneRow_14 at h
  obtain ⟨r2, e3, h⟩ := Option.bind_eq_some_iff.mp h
  refine q_callV (As := [.int t1, .int t2]) (rest := []) F hA hP hD hS (c_X5_startRow (E := E) (l := l) q t1 t2 e3) k_X5_startRow in_X5_startRow se_X5_startRow lm_X6_182 49 (xe_49 E q) rfl ⟨rfl, rfl⟩ ⟨by decide, by decide⟩ rfl hl.1 rfl (Nat.le_of_ble_eq_true rfl) dX6_makeOneRow_14 ⟨by decide, by decide⟩ ?_
  intro H locs hP hD hS
  refine lv_iconst (v := 1) hx hb dX6_makeOneRow_17 (by decide) ?_
  refine lv_istore_n (lv' := [(2, .int (1 : Int32)), (0, .ref (eA E 47)), (1, .int x1)]) hx hb dX6_makeOneRow_18 rfl hl (by decide) rfl (fun ls hl => ?_)
  exact g_X6_makeOneRow_19 F hA hRt FU r2 x1 (1 : Int32) h _ (lv_sub hl [1, 2, 0] rfl) _ _ hP hD hS
def f_X6_makeOneRow_0 (q : QS) (x1 : Int32) : Option (Int32 × QS) :=
  if x1 = 0 then
    f_X6_makeOneRow_14 q x1 (0 : Int32) (-1 : Int32)
  else
    f_X6_makeOneRow_14 q x1 (0 : Int32) (0 : Int32)
set_option maxHeartbeats 4000000 in
set_option maxRecDepth 100000 in
theorem g_X6_makeOneRow_0 {E : En} {p : Program} {l : Launch} {e : Env} {s : State} {m : MethodId} {args : Array Value} {below : List Frame} {meth : Method} {c : Code} {A : Nat → Prop} {Q : State → Prop} (F : Fx E p s m args meth c (yX6_makeOneRow).cls cX6_makeOneRow 3 (some .int)) (hA : ∀ z : Nat, s.heap.size ≤ z → A z) {o : Int32 × QS} (hRt : RtI (wX E) E p l e rm_X6_makeOneRow s m args below meth c A Q cX6_makeOneRow o) (q : QS) (x1 : Int32) (h : f_X6_makeOneRow_0 q x1 = some o) (ls : Array Slot) (hl : lv_has ls 3 [(0, .ref (eA E 47)), (1, .int x1)]) : Wq (wX E) E p l e rm_X6_makeOneRow s m args below meth c A 0 0 Q q (F0 m 0 ls []) := by
  intro H locs hP hD hS
  have hx := F.1
  have hb := F.2.1
  unfold f_X6_makeOneRow_0 at h
  refine lv_aload_n hx hb dX6_makeOneRow_0 rfl (lv_at hl 0 rfl) ?_
  refine r_get F hP i_X6 47 (xe_47 E q) rfl 9 (by decide) rfl lf_X6_54 rfl dX6_makeOneRow_1 ?_
  refine lv_iconst (v := 0) hx hb dX6_makeOneRow_4 (by decide) ?_
  refine lv_iload_n hx hb dX6_makeOneRow_5 rfl (lv_at hl 1 rfl) ?_
  refine lv_if_ne (tgt := 13) hx hb dX6_makeOneRow_6 (by decide) (fun c1 => ?_) (fun c1 => ?_)
  · rw [if_neg c1] at h
    refine lv_iconst (v := 0) hx hb dX6_makeOneRow_13 (by decide) ?_
    exact g_X6_makeOneRow_14 F hA hRt q x1 (0 : Int32) (0 : Int32) h _ (lv_sub hl [0, 1] rfl) _ _ hP hD hS
  · rw [if_pos c1] at h
    refine lv_iconst (v := (-1)) hx hb dX6_makeOneRow_9 (by decide) ?_
    refine lv_goto (tgt := 14) hx hb dX6_makeOneRow_10 (by decide) ?_
    exact g_X6_makeOneRow_14 F hA hRt q x1 (0 : Int32) (-1 : Int32) h _ (lv_sub hl [0, 1] rfl) _ _ hP hD hS
def f_X6_makeOneRow (q : QS) (x1 : Int32) : Option (Int32 × QS) := f_X6_makeOneRow_0 q x1
set_option maxRecDepth 100000 in
theorem c_X6_makeOneRow {E : En} {l : Launch} (q : QS) (x1 : Int32) {o : Int32 × QS} (h : f_X6_makeOneRow q x1 = some o) : Ct (wX E) E l yX6_makeOneRow (wy yX6_makeOneRow cX6_makeOneRow 3 (some .int)) rm_X6_makeOneRow q o.2 [.ref (eA E 47), .int x1] (some (.int o.1)) :=
  ct_I (o := o) (by decide +kernel) rfl (fun p e s m below meth c A Q F hA hRt H locs hP hD hS => en_W [.ref (eA E 47), .int x1] (Nat.le_of_ble_eq_true rfl) (fun ls hl => g_X6_makeOneRow_0 F hA hRt q x1 h ls (lv_sub hl [0, 1] rfl) H locs hP hD hS))
def rm_X6_groupPlace : Room := { frames := 1, cells := 0, slots := 0, locals := 23 }
def f_X6_groupPlace_0 (q : QS) (x1 : Int32) (x2 : Int32) : Option (Int32) :=
  (rd (qI q 40) 4 x2).bind fun y1 =>
  (rd (qI q 50) (qC q) x1).bind fun y3 =>
  (f_X5_rowIn y3 y1).bind fun r5 =>
  (rd (qI q 41) 4 x2).bind fun y7 =>
  (f_X7_placeOf y1 r5 y7).bind fun r9 =>
  some r9
set_option maxHeartbeats 4000000 in
set_option maxRecDepth 100000 in
theorem g_X6_groupPlace_0 {E : En} {p : Program} {l : Launch} {e : Env} {s : State} {m : MethodId} {args : Array Value} {below : List Frame} {meth : Method} {c : Code} {A : Nat → Prop} {Q : State → Prop} (F : Fx E p s m args meth c (yX6_groupPlace).cls cX6_groupPlace 5 (some .int)) (hA : ∀ z : Nat, s.heap.size ≤ z → A z) {q : QS} {o : Int32} (hRt : RtI (wX E) E p l e rm_X6_groupPlace s m args below meth c A Q cX6_groupPlace (o, q)) (x1 : Int32) (x2 : Int32) (h : f_X6_groupPlace_0 q x1 x2 = some o) (ls : Array Slot) (hl : lv_has ls 5 [(0, .ref (eA E 47)), (1, .int x1), (2, .int x2)]) : Wq (wX E) E p l e rm_X6_groupPlace s m args below meth c A 0 0 Q q (F0 m 0 ls []) := by
  intro H locs hP hD hS
  have hx := F.1
  have hb := F.2.1
  unfold f_X6_groupPlace_0 at h
  refine lv_aload_n hx hb dX6_groupPlace_0 rfl (lv_at hl 0 rfl) ?_
  refine r_get F hP i_X6 47 (xe_47 E q) rfl 2 (by decide) rfl lf_X6_36 rfl dX6_groupPlace_1 ?_
  refine r_get F hP i_X4 38 (xe_38 E q) rfl 7 (by decide) rfl lf_X6_231 rfl dX6_groupPlace_4 ?_
  refine lv_iload_n hx hb dX6_groupPlace_7 rfl (lv_at hl 2 rfl) ?_
  obtain ⟨y1, e2, h⟩ := Option.bind_eq_some_iff.mp h
  refine r_iald F hP 40 (xe_40 E q) e2 dX6_groupPlace_8 ?_
  refine lv_istore_n (lv' := [(3, .int y1), (0, .ref (eA E 47)), (1, .int x1), (2, .int x2)]) hx hb dX6_groupPlace_9 rfl hl (by decide) rfl (fun ls hl => ?_)
  refine lv_aload_n hx hb dX6_groupPlace_10 rfl (lv_at hl 1 rfl) ?_
  refine r_get F hP i_X6 47 (xe_47 E q) rfl 9 (by decide) rfl lf_X6_54 rfl dX6_groupPlace_11 ?_
  refine r_get F hP i_X5 49 (xe_49 E q) rfl 1 (by decide) rfl lf_X6_153 rfl dX6_groupPlace_14 ?_
  refine lv_iload_n hx hb dX6_groupPlace_17 rfl (lv_at hl 2 rfl) ?_
  obtain ⟨y3, e4, h⟩ := Option.bind_eq_some_iff.mp h
  refine r_iald F hP 50 (xe_50 E q) e4 dX6_groupPlace_18 ?_
  refine lv_iload_n hx hb dX6_groupPlace_19 rfl (lv_at hl 0 rfl) ?_
  obtain ⟨r5, e6, h⟩ := Option.bind_eq_some_iff.mp h
  refine q_callS (As := [.int y3, .int y1]) (rest := []) F hA hP hD hS (c_X5_rowIn (E := E) (l := l) q y3 y1 e6) k_X5_rowIn st_X5_rowIn lm_X6_234 ⟨rfl, rfl⟩ ⟨by decide, by decide⟩ rfl hl.1 rfl (Nat.le_of_ble_eq_true rfl) dX6_groupPlace_20 ⟨by decide, by decide⟩ ?_
  intro H locs hP hD hS
  refine lv_istore (lv' := [(4, .int r5), (3, .int y1), (0, .ref (eA E 47)), (1, .int x1), (2, .int x2)]) hx hb dX6_groupPlace_23 hl (by decide) rfl (fun ls hl => ?_)
  refine lv_aload_n hx hb dX6_groupPlace_25 rfl (lv_at hl 2 rfl) ?_
  refine r_get F hP i_X6 47 (xe_47 E q) rfl 0 (by decide) rfl lf_X6_28 rfl dX6_groupPlace_26 ?_
  refine lv_iload_n hx hb dX6_groupPlace_29 rfl (lv_at hl 1 rfl) ?_
  refine lv_iload hx hb dX6_groupPlace_30 (lv_at hl 0 rfl) ?_
  refine lv_aload_n hx hb dX6_groupPlace_32 rfl (lv_at hl 2 rfl) ?_
  refine r_get F hP i_X6 47 (xe_47 E q) rfl 2 (by decide) rfl lf_X6_36 rfl dX6_groupPlace_33 ?_
  refine r_get F hP i_X4 38 (xe_38 E q) rfl 8 (by decide) rfl lf_X6_237 rfl dX6_groupPlace_36 ?_
  refine lv_iload_n hx hb dX6_groupPlace_39 rfl (lv_at hl 4 rfl) ?_
  obtain ⟨y7, e8, h⟩ := Option.bind_eq_some_iff.mp h
  refine r_iald F hP 41 (xe_41 E q) e8 dX6_groupPlace_40 ?_
  obtain ⟨r9, e10, h⟩ := Option.bind_eq_some_iff.mp h
  refine q_callV (As := [.int y1, .int r5, .int y7]) (rest := []) F hA hP hD hS (c_X7_placeOf (E := E) (l := l) q y1 r5 y7 e10) k_X7_placeOf in_X7_placeOf se_X7_placeOf lm_X6_240 25 (xe_25 E q) rfl ⟨rfl, rfl⟩ ⟨by decide, by decide⟩ rfl hl.1 rfl (Nat.le_of_ble_eq_true rfl) dX6_groupPlace_41 ⟨by decide, by decide⟩ ?_
  intro H locs hP hD hS
  cases h
  exact hRt _ _ dX6_groupPlace_44 _ _ hP hD hS
def f_X6_groupPlace (q : QS) (x1 : Int32) (x2 : Int32) : Option (Int32) := f_X6_groupPlace_0 q x1 x2
set_option maxRecDepth 100000 in
theorem c_X6_groupPlace {E : En} {l : Launch} (q : QS) (x1 : Int32) (x2 : Int32) {o : Int32} (h : f_X6_groupPlace q x1 x2 = some o) : Ct (wX E) E l yX6_groupPlace (wy yX6_groupPlace cX6_groupPlace 5 (some .int)) rm_X6_groupPlace q q [.ref (eA E 47), .int x1, .int x2] (some (.int o)) :=
  ct_I (o := (o, q)) (by decide +kernel) rfl (fun p e s m below meth c A Q F hA hRt H locs hP hD hS => en_W [.ref (eA E 47), .int x1, .int x2] (Nat.le_of_ble_eq_true rfl) (fun ls hl => g_X6_groupPlace_0 F hA hRt x1 x2 h ls (lv_sub hl [0, 1, 2] rfl) H locs hP hD hS))
def rm_X6_hashOfGroup : Room := { frames := 2, cells := 0, slots := 0, locals := 48 }
def f_X6_hashOfGroup_5_b (q : QS) (B5 : Int32 → Int64 → Int32 → Option (Int64)) (x1 : Int32) (x2 : Int64) (x4 : Int32) : Option (Int64) :=
  if (qF q 7) ≤ x4 then
    some x2
  else
    (f_X6_groupPlace q x1 x4).bind fun r2 =>
    (f_X8_hashOnto 1 q x2 r2).bind fun r4 =>
    B5 x1 r4 (x4 + (1 : Int32))
set_option maxHeartbeats 4000000 in
set_option maxRecDepth 100000 in
theorem g_X6_hashOfGroup_5_b {E : En} {p : Program} {l : Launch} {e : Env} {s : State} {m : MethodId} {args : Array Value} {below : List Frame} {meth : Method} {c : Code} {A : Nat → Prop} {Q : State → Prop} (F : Fx E p s m args meth c (yX6_hashOfGroup).cls cX6_hashOfGroup 5 (some .long)) (hA : ∀ z : Nat, s.heap.size ≤ z → A z) {q : QS} {o : Int64} (hRt : RtL (wX E) E p l e rm_X6_hashOfGroup s m args below meth c A Q cX6_hashOfGroup (o, q)) {B5 : Int32 → Int64 → Int32 → Option (Int64)} (hB5 : ∀ (x1 : Int32) (x2 : Int64) (x4 : Int32), B5 x1 x2 x4 = some o → ∀ ls : Array Slot, lv_has ls 5 [(0, .ref (eA E 47)), (1, .int x1), (2, .long x2), (4, .int x4)] → Wq (wX E) E p l e rm_X6_hashOfGroup s m args below meth c A 0 0 Q q (F0 m 5 ls [])) (x1 : Int32) (x2 : Int64) (x4 : Int32) (h : f_X6_hashOfGroup_5_b q B5 x1 x2 x4 = some o) (ls : Array Slot) (hl : lv_has ls 5 [(0, .ref (eA E 47)), (1, .int x1), (2, .long x2), (4, .int x4)]) : Wq (wX E) E p l e rm_X6_hashOfGroup s m args below meth c A 0 0 Q q (F0 m 5 ls []) := by
  intro H locs hP hD hS
  have hx := F.1
  have hb := F.2.1
  unfold f_X6_hashOfGroup_5_b at h
  refine lv_iload hx hb dX6_hashOfGroup_5 (lv_at hl 3 rfl) ?_
  refine lv_aload_n hx hb dX6_hashOfGroup_7 rfl (lv_at hl 0 rfl) ?_
  refine r_get F hP i_X6 47 (xe_47 E q) rfl 2 (by decide) rfl lf_X6_36 rfl dX6_hashOfGroup_8 ?_
  refine r_get F hP i_X4 38 (xe_38 E q) rfl 1 (by decide) rfl lf_X6_101 rfl dX6_hashOfGroup_11 ?_
  refine lv_icmp_ge (tgt := 42) hx hb dX6_hashOfGroup_14 (by decide) (fun c1 => ?_) (fun c1 => ?_)
  · rw [if_pos c1] at h
    refine lv_lload_n hx hb dX6_hashOfGroup_42 rfl (lv_at hl 2 rfl) ?_
    cases h
    exact hRt _ _ dX6_hashOfGroup_43 _ _ hP hD hS
  · rw [if_neg c1] at h
    refine lv_aload_n hx hb dX6_hashOfGroup_17 rfl (lv_at hl 0 rfl) ?_
    refine r_get F hP i_X6 47 (xe_47 E q) rfl 0 (by decide) rfl lf_X6_28 rfl dX6_hashOfGroup_18 ?_
    refine r_get F hP i_X7 25 (xe_25 E q) rfl 4 (by decide) rfl lf_X6_218 rfl dX6_hashOfGroup_21 ?_
    refine lv_lload_n hx hb dX6_hashOfGroup_24 rfl (lv_at hl 2 rfl) ?_
    refine lv_aload_n hx hb dX6_hashOfGroup_25 rfl (lv_at hl 0 rfl) ?_
    refine lv_iload_n hx hb dX6_hashOfGroup_26 rfl (lv_at hl 1 rfl) ?_
    refine lv_iload hx hb dX6_hashOfGroup_27 (lv_at hl 3 rfl) ?_
    obtain ⟨r2, e3, h⟩ := Option.bind_eq_some_iff.mp h
    refine q_callV (As := [.int x1, .int x4]) (rest := [.long x2, .ref (eA E 3)]) F hA hP hD hS (c_X6_groupPlace (E := E) (l := l) q x1 x4 e3) k_X6_groupPlace in_X6_groupPlace se_X6_groupPlace lm_X6_221 47 (xe_47 E q) rfl ⟨rfl, rfl⟩ ⟨by decide, by decide⟩ rfl hl.1 rfl (Nat.le_of_ble_eq_true rfl) dX6_hashOfGroup_29 ⟨by decide, by decide⟩ ?_
    intro H locs hP hD hS
    obtain ⟨r4, e5, h⟩ := Option.bind_eq_some_iff.mp h
    refine q_callV (As := [.long x2, .int r2]) (rest := []) F hA hP hD hS (c_X8_hashOnto (E := E) (l := l) (v := 1) (by decide) q x2 r2 e5) k_X8_hashOnto in_X8_hashOnto se_X8_hashOnto lm_X6_227 3 (xe_3 E q) rfl ⟨rfl, rfl⟩ ⟨by decide, by decide⟩ rfl hl.1 rfl (Nat.le_of_ble_eq_true rfl) dX6_hashOfGroup_32 ⟨by decide, by decide⟩ ?_
    intro H locs hP hD hS
    refine lv_lstore_n (lv' := [(2, .long r4), (0, .ref (eA E 47)), (1, .int x1), (4, .int x4)]) hx hb dX6_hashOfGroup_35 rfl hl (by decide) rfl (fun ls hl => ?_)
    refine lv_iinc (v := (x4 + (1 : Int32))) (lv' := [(4, .int (x4 + (1 : Int32))), (2, .long r4), (0, .ref (eA E 47)), (1, .int x1)]) hx hb dX6_hashOfGroup_36 hl (k := 3) rfl rfl (by decide) rfl (fun ls hl => ?_)
    refine lv_goto (tgt := 5) hx hb dX6_hashOfGroup_39 (by decide) ?_
    exact hB5 x1 r4 (x4 + (1 : Int32)) h _ (lv_sub hl [2, 3, 1, 0] rfl) _ _ hP hD hS
def f_X6_hashOfGroup_5 (q : QS) : Nat → Int32 → Int64 → Int32 → Option (Int64)
  | 0 => fun _ _ _ => none
  | n + 1 => f_X6_hashOfGroup_5_b q (f_X6_hashOfGroup_5 q n)
theorem g_X6_hashOfGroup_5 {E : En} {p : Program} {l : Launch} {e : Env} {s : State} {m : MethodId} {args : Array Value} {below : List Frame} {meth : Method} {c : Code} {A : Nat → Prop} {Q : State → Prop} (F : Fx E p s m args meth c (yX6_hashOfGroup).cls cX6_hashOfGroup 5 (some .long)) (hA : ∀ z : Nat, s.heap.size ≤ z → A z) {q : QS} {o : Int64} (hRt : RtL (wX E) E p l e rm_X6_hashOfGroup s m args below meth c A Q cX6_hashOfGroup (o, q)) (n : Nat) : ∀ (x1 : Int32) (x2 : Int64) (x4 : Int32), f_X6_hashOfGroup_5 q n x1 x2 x4 = some o → ∀ ls : Array Slot, lv_has ls 5 [(0, .ref (eA E 47)), (1, .int x1), (2, .long x2), (4, .int x4)] → Wq (wX E) E p l e rm_X6_hashOfGroup s m args below meth c A 0 0 Q q (F0 m 5 ls []) := by
  induction n with
  | zero => intro x1 x2 x4 h; cases h
  | succ n ih => intro x1 x2 x4 h; exact g_X6_hashOfGroup_5_b F hA hRt ih x1 x2 x4 h
def f_X6_hashOfGroup_0 (q : QS) (x1 : Int32) : Option (Int64) :=
  f_X6_hashOfGroup_5 q FU x1 (0 : Int64) (0 : Int32)
set_option maxHeartbeats 4000000 in
set_option maxRecDepth 100000 in
theorem g_X6_hashOfGroup_0 {E : En} {p : Program} {l : Launch} {e : Env} {s : State} {m : MethodId} {args : Array Value} {below : List Frame} {meth : Method} {c : Code} {A : Nat → Prop} {Q : State → Prop} (F : Fx E p s m args meth c (yX6_hashOfGroup).cls cX6_hashOfGroup 5 (some .long)) (hA : ∀ z : Nat, s.heap.size ≤ z → A z) {q : QS} {o : Int64} (hRt : RtL (wX E) E p l e rm_X6_hashOfGroup s m args below meth c A Q cX6_hashOfGroup (o, q)) (x1 : Int32) (h : f_X6_hashOfGroup_0 q x1 = some o) (ls : Array Slot) (hl : lv_has ls 5 [(0, .ref (eA E 47)), (1, .int x1)]) : Wq (wX E) E p l e rm_X6_hashOfGroup s m args below meth c A 0 0 Q q (F0 m 0 ls []) := by
  intro H locs hP hD hS
  have hx := F.1
  have hb := F.2.1
  unfold f_X6_hashOfGroup_0 at h
  refine lv_lconst (v := 0) hx hb dX6_hashOfGroup_0 (by decide) ?_
  refine lv_lstore_n (lv' := [(2, .long (0 : Int64)), (0, .ref (eA E 47)), (1, .int x1)]) hx hb dX6_hashOfGroup_1 rfl hl (by decide) rfl (fun ls hl => ?_)
  refine lv_iconst (v := 0) hx hb dX6_hashOfGroup_2 (by decide) ?_
  refine lv_istore (lv' := [(4, .int (0 : Int32)), (2, .long (0 : Int64)), (0, .ref (eA E 47)), (1, .int x1)]) hx hb dX6_hashOfGroup_3 hl (by decide) rfl (fun ls hl => ?_)
  exact g_X6_hashOfGroup_5 F hA hRt FU x1 (0 : Int64) (0 : Int32) h _ (lv_sub hl [2, 3, 1, 0] rfl) _ _ hP hD hS
def f_X6_hashOfGroup (q : QS) (x1 : Int32) : Option (Int64) := f_X6_hashOfGroup_0 q x1
set_option maxRecDepth 100000 in
theorem c_X6_hashOfGroup {E : En} {l : Launch} (q : QS) (x1 : Int32) {o : Int64} (h : f_X6_hashOfGroup q x1 = some o) : Ct (wX E) E l yX6_hashOfGroup (wy yX6_hashOfGroup cX6_hashOfGroup 5 (some .long)) rm_X6_hashOfGroup q q [.ref (eA E 47), .int x1] (some (.long o)) :=
  ct_L (o := (o, q)) (by decide +kernel) (fun p e s m below meth c A Q F hA hRt H locs hP hD hS => en_W [.ref (eA E 47), .int x1] (Nat.le_of_ble_eq_true rfl) (fun ls hl => g_X6_hashOfGroup_0 F hA hRt x1 h ls (lv_sub hl [0, 1] rfl) H locs hP hD hS))
def rm_X6_areOfOneGroup : Room := { frames := 2, cells := 0, slots := 0, locals := 47 }
def f_X6_areOfOneGroup_2_b (q : QS) (B2 : Int32 → Int32 → Int32 → Option (Int32)) (x1 : Int32) (x2 : Int32) (x3 : Int32) : Option (Int32) :=
  if (qF q 7) ≤ x3 then
    some (1 : Int32)
  else
    (f_X6_groupPlace q x1 x3).bind fun r2 =>
    (f_X6_groupPlace q x2 x3).bind fun r4 =>
    (f_X8_areLike 1 q r2 r4).bind fun r6 =>
    if r6 = 0 then
      some (0 : Int32)
    else
      B2 x1 x2 (x3 + (1 : Int32))
set_option maxHeartbeats 4000000 in
set_option maxRecDepth 100000 in
theorem g_X6_areOfOneGroup_2_b {E : En} {p : Program} {l : Launch} {e : Env} {s : State} {m : MethodId} {args : Array Value} {below : List Frame} {meth : Method} {c : Code} {A : Nat → Prop} {Q : State → Prop} (F : Fx E p s m args meth c (yX6_areOfOneGroup).cls cX6_areOfOneGroup 4 (some .boolean)) (hA : ∀ z : Nat, s.heap.size ≤ z → A z) {q : QS} {o : Int32} (hRt : RtZ (wX E) E p l e rm_X6_areOfOneGroup s m args below meth c A Q cX6_areOfOneGroup (o, q)) {B2 : Int32 → Int32 → Int32 → Option (Int32)} (hB2 : ∀ (x1 : Int32) (x2 : Int32) (x3 : Int32), B2 x1 x2 x3 = some o → ∀ ls : Array Slot, lv_has ls 4 [(0, .ref (eA E 47)), (1, .int x1), (2, .int x2), (3, .int x3)] → Wq (wX E) E p l e rm_X6_areOfOneGroup s m args below meth c A 0 0 Q q (F0 m 2 ls [])) (x1 : Int32) (x2 : Int32) (x3 : Int32) (h : f_X6_areOfOneGroup_2_b q B2 x1 x2 x3 = some o) (ls : Array Slot) (hl : lv_has ls 4 [(0, .ref (eA E 47)), (1, .int x1), (2, .int x2), (3, .int x3)]) : Wq (wX E) E p l e rm_X6_areOfOneGroup s m args below meth c A 0 0 Q q (F0 m 2 ls []) := by
  intro H locs hP hD hS
  have hx := F.1
  have hb := F.2.1
  unfold f_X6_areOfOneGroup_2_b at h
  refine lv_iload_n hx hb dX6_areOfOneGroup_2 rfl (lv_at hl 3 rfl) ?_
  refine lv_aload_n hx hb dX6_areOfOneGroup_3 rfl (lv_at hl 0 rfl) ?_
  refine r_get F hP i_X6 47 (xe_47 E q) rfl 2 (by decide) rfl lf_X6_36 rfl dX6_areOfOneGroup_4 ?_
  refine r_get F hP i_X4 38 (xe_38 E q) rfl 1 (by decide) rfl lf_X6_101 rfl dX6_areOfOneGroup_7 ?_
  refine lv_icmp_ge (tgt := 46) hx hb dX6_areOfOneGroup_10 (by decide) (fun c1 => ?_) (fun c1 => ?_)
  · rw [if_pos c1] at h
    refine lv_iconst (v := 1) hx hb dX6_areOfOneGroup_46 (by decide) ?_
    cases h
    exact hRt _ _ zz_1 dX6_areOfOneGroup_47 _ _ hP hD hS
  · rw [if_neg c1] at h
    refine lv_aload_n hx hb dX6_areOfOneGroup_13 rfl (lv_at hl 0 rfl) ?_
    refine r_get F hP i_X6 47 (xe_47 E q) rfl 0 (by decide) rfl lf_X6_28 rfl dX6_areOfOneGroup_14 ?_
    refine r_get F hP i_X7 25 (xe_25 E q) rfl 4 (by decide) rfl lf_X6_218 rfl dX6_areOfOneGroup_17 ?_
    refine lv_aload_n hx hb dX6_areOfOneGroup_20 rfl (lv_at hl 0 rfl) ?_
    refine lv_iload_n hx hb dX6_areOfOneGroup_21 rfl (lv_at hl 1 rfl) ?_
    refine lv_iload_n hx hb dX6_areOfOneGroup_22 rfl (lv_at hl 3 rfl) ?_
    obtain ⟨r2, e3, h⟩ := Option.bind_eq_some_iff.mp h
    refine q_callV (As := [.int x1, .int x3]) (rest := [.ref (eA E 3)]) F hA hP hD hS (c_X6_groupPlace (E := E) (l := l) q x1 x3 e3) k_X6_groupPlace in_X6_groupPlace se_X6_groupPlace lm_X6_221 47 (xe_47 E q) rfl ⟨rfl, rfl⟩ ⟨by decide, by decide⟩ rfl hl.1 rfl (Nat.le_of_ble_eq_true rfl) dX6_areOfOneGroup_23 ⟨by decide, by decide⟩ ?_
    intro H locs hP hD hS
    refine lv_aload_n hx hb dX6_areOfOneGroup_26 rfl (lv_at hl 0 rfl) ?_
    refine lv_iload_n hx hb dX6_areOfOneGroup_27 rfl (lv_at hl 2 rfl) ?_
    refine lv_iload_n hx hb dX6_areOfOneGroup_28 rfl (lv_at hl 3 rfl) ?_
    obtain ⟨r4, e5, h⟩ := Option.bind_eq_some_iff.mp h
    refine q_callV (As := [.int x2, .int x3]) (rest := [.int r2, .ref (eA E 3)]) F hA hP hD hS (c_X6_groupPlace (E := E) (l := l) q x2 x3 e5) k_X6_groupPlace in_X6_groupPlace se_X6_groupPlace lm_X6_221 47 (xe_47 E q) rfl ⟨rfl, rfl⟩ ⟨by decide, by decide⟩ rfl hl.1 rfl (Nat.le_of_ble_eq_true rfl) dX6_areOfOneGroup_29 ⟨by decide, by decide⟩ ?_
    intro H locs hP hD hS
    obtain ⟨r6, e7, h⟩ := Option.bind_eq_some_iff.mp h
    refine q_callV (As := [.int r2, .int r4]) (rest := []) F hA hP hD hS (c_X8_areLike (E := E) (l := l) (v := 1) (by decide) q r2 r4 e7) k_X8_areLike in_X8_areLike se_X8_areLike lm_X6_224 3 (xe_3 E q) rfl ⟨rfl, rfl⟩ ⟨by decide, by decide⟩ rfl hl.1 rfl (Nat.le_of_ble_eq_true rfl) dX6_areOfOneGroup_32 ⟨by decide, by decide⟩ ?_
    intro H locs hP hD hS
    refine lv_if_ne (tgt := 40) hx hb dX6_areOfOneGroup_35 (by decide) (fun c8 => ?_) (fun c8 => ?_)
    · rw [if_neg c8] at h
      refine lv_iinc (v := (x3 + (1 : Int32))) (lv' := [(3, .int (x3 + (1 : Int32))), (0, .ref (eA E 47)), (1, .int x1), (2, .int x2)]) hx hb dX6_areOfOneGroup_40 hl (k := 3) rfl rfl (by decide) rfl (fun ls hl => ?_)
      refine lv_goto (tgt := 2) hx hb dX6_areOfOneGroup_43 (by decide) ?_
      exact hB2 x1 x2 (x3 + (1 : Int32)) h _ (lv_sub hl [1, 2, 3, 0] rfl) _ _ hP hD hS
    · rw [if_pos c8] at h
      refine lv_iconst (v := 0) hx hb dX6_areOfOneGroup_38 (by decide) ?_
      cases h
      exact hRt _ _ zz_0 dX6_areOfOneGroup_39 _ _ hP hD hS
def f_X6_areOfOneGroup_2 (q : QS) : Nat → Int32 → Int32 → Int32 → Option (Int32)
  | 0 => fun _ _ _ => none
  | n + 1 => f_X6_areOfOneGroup_2_b q (f_X6_areOfOneGroup_2 q n)
theorem g_X6_areOfOneGroup_2 {E : En} {p : Program} {l : Launch} {e : Env} {s : State} {m : MethodId} {args : Array Value} {below : List Frame} {meth : Method} {c : Code} {A : Nat → Prop} {Q : State → Prop} (F : Fx E p s m args meth c (yX6_areOfOneGroup).cls cX6_areOfOneGroup 4 (some .boolean)) (hA : ∀ z : Nat, s.heap.size ≤ z → A z) {q : QS} {o : Int32} (hRt : RtZ (wX E) E p l e rm_X6_areOfOneGroup s m args below meth c A Q cX6_areOfOneGroup (o, q)) (n : Nat) : ∀ (x1 : Int32) (x2 : Int32) (x3 : Int32), f_X6_areOfOneGroup_2 q n x1 x2 x3 = some o → ∀ ls : Array Slot, lv_has ls 4 [(0, .ref (eA E 47)), (1, .int x1), (2, .int x2), (3, .int x3)] → Wq (wX E) E p l e rm_X6_areOfOneGroup s m args below meth c A 0 0 Q q (F0 m 2 ls []) := by
  induction n with
  | zero => intro x1 x2 x3 h; cases h
  | succ n ih => intro x1 x2 x3 h; exact g_X6_areOfOneGroup_2_b F hA hRt ih x1 x2 x3 h
def f_X6_areOfOneGroup_0 (q : QS) (x1 : Int32) (x2 : Int32) : Option (Int32) :=
  f_X6_areOfOneGroup_2 q FU x1 x2 (0 : Int32)
set_option maxHeartbeats 4000000 in
set_option maxRecDepth 100000 in
theorem g_X6_areOfOneGroup_0 {E : En} {p : Program} {l : Launch} {e : Env} {s : State} {m : MethodId} {args : Array Value} {below : List Frame} {meth : Method} {c : Code} {A : Nat → Prop} {Q : State → Prop} (F : Fx E p s m args meth c (yX6_areOfOneGroup).cls cX6_areOfOneGroup 4 (some .boolean)) (hA : ∀ z : Nat, s.heap.size ≤ z → A z) {q : QS} {o : Int32} (hRt : RtZ (wX E) E p l e rm_X6_areOfOneGroup s m args below meth c A Q cX6_areOfOneGroup (o, q)) (x1 : Int32) (x2 : Int32) (h : f_X6_areOfOneGroup_0 q x1 x2 = some o) (ls : Array Slot) (hl : lv_has ls 4 [(0, .ref (eA E 47)), (1, .int x1), (2, .int x2)]) : Wq (wX E) E p l e rm_X6_areOfOneGroup s m args below meth c A 0 0 Q q (F0 m 0 ls []) := by
  intro H locs hP hD hS
  have hx := F.1
  have hb := F.2.1
  unfold f_X6_areOfOneGroup_0 at h
  refine lv_iconst (v := 0) hx hb dX6_areOfOneGroup_0 (by decide) ?_
  refine lv_istore_n (lv' := [(3, .int (0 : Int32)), (0, .ref (eA E 47)), (1, .int x1), (2, .int x2)]) hx hb dX6_areOfOneGroup_1 rfl hl (by decide) rfl (fun ls hl => ?_)
  exact g_X6_areOfOneGroup_2 F hA hRt FU x1 x2 (0 : Int32) h _ (lv_sub hl [1, 2, 3, 0] rfl) _ _ hP hD hS
def f_X6_areOfOneGroup (q : QS) (x1 : Int32) (x2 : Int32) : Option (Int32) := f_X6_areOfOneGroup_0 q x1 x2
set_option maxRecDepth 100000 in
theorem c_X6_areOfOneGroup {E : En} {l : Launch} (q : QS) (x1 : Int32) (x2 : Int32) {o : Int32} (h : f_X6_areOfOneGroup q x1 x2 = some o) : Ct (wX E) E l yX6_areOfOneGroup (wy yX6_areOfOneGroup cX6_areOfOneGroup 4 (some .boolean)) rm_X6_areOfOneGroup q q [.ref (eA E 47), .int x1, .int x2] (some (.int o)) :=
  ct_Z (o := (o, q)) (by decide +kernel) (fun p e s m below meth c A Q F hA hRt H locs hP hD hS => en_W [.ref (eA E 47), .int x1, .int x2] (Nat.le_of_ble_eq_true rfl) (fun ls hl => g_X6_areOfOneGroup_0 F hA hRt x1 x2 h ls (lv_sub hl [0, 1, 2] rfl) H locs hP hD hS))
def rm_X6_findGroup : Room := { frames := 3, cells := 0, slots := 0, locals := 70 }
def f_X6_findGroup_13_b (q : QS) (B13 : Int32 → Int32 → Int32 → Option (Int32)) (x1 : Int32) (x3 : Int32) (x4 : Int32) : Option (Int32) :=
  if (qF q 12) ≤ x4 then
    some (-1 : Int32)
  else
    if x3 = (-1 : Int32) then
      some (-1 : Int32)
    else
      (rd (qI q 52) (qC q) x3).bind fun y5 =>
      (f_X6_areOfOneGroup q y5 x1).bind fun r7 =>
      if r7 = 0 then
        (rd (qI q 57) (qC q) x3).bind fun y10 =>
        B13 x1 y10 (x4 + (1 : Int32))
      else
        some x3
set_option maxHeartbeats 4000000 in
set_option maxRecDepth 100000 in
theorem g_X6_findGroup_13_b {E : En} {p : Program} {l : Launch} {e : Env} {s : State} {m : MethodId} {args : Array Value} {below : List Frame} {meth : Method} {c : Code} {A : Nat → Prop} {Q : State → Prop} (F : Fx E p s m args meth c (yX6_findGroup).cls cX6_findGroup 5 (some .int)) (hA : ∀ z : Nat, s.heap.size ≤ z → A z) {q : QS} {o : Int32} (hRt : RtI (wX E) E p l e rm_X6_findGroup s m args below meth c A Q cX6_findGroup (o, q)) {B13 : Int32 → Int32 → Int32 → Option (Int32)} (hB13 : ∀ (x1 : Int32) (x3 : Int32) (x4 : Int32), B13 x1 x3 x4 = some o → ∀ ls : Array Slot, lv_has ls 5 [(0, .ref (eA E 47)), (1, .int x1), (3, .int x3), (4, .int x4)] → Wq (wX E) E p l e rm_X6_findGroup s m args below meth c A 0 0 Q q (F0 m 13 ls [])) (x1 : Int32) (x3 : Int32) (x4 : Int32) (h : f_X6_findGroup_13_b q B13 x1 x3 x4 = some o) (ls : Array Slot) (hl : lv_has ls 5 [(0, .ref (eA E 47)), (1, .int x1), (3, .int x3), (4, .int x4)]) : Wq (wX E) E p l e rm_X6_findGroup s m args below meth c A 0 0 Q q (F0 m 13 ls []) := by
  intro H locs hP hD hS
  have hx := F.1
  have hb := F.2.1
  unfold f_X6_findGroup_13_b at h
  refine lv_iload hx hb dX6_findGroup_13 (lv_at hl 3 rfl) ?_
  refine lv_aload_n hx hb dX6_findGroup_15 rfl (lv_at hl 0 rfl) ?_
  refine r_get F hP i_X6 47 (xe_47 E q) rfl 9 (by decide) rfl lf_X6_54 rfl dX6_findGroup_16 ?_
  refine r_get F hP i_X5 49 (xe_49 E q) rfl 0 (by decide) rfl lf_X6_121 rfl dX6_findGroup_19 ?_
  refine lv_icmp_ge (tgt := 65) hx hb dX6_findGroup_22 (by decide) (fun c3 => ?_) (fun c3 => ?_)
  · rw [if_pos c3] at h
    refine lv_iconst (v := (-1)) hx hb dX6_findGroup_65 (by decide) ?_
    cases h
    exact hRt _ _ dX6_findGroup_66 _ _ hP hD hS
  · rw [if_neg c3] at h
    refine lv_iload_n hx hb dX6_findGroup_25 rfl (lv_at hl 2 rfl) ?_
    refine lv_iconst (v := (-1)) hx hb dX6_findGroup_26 (by decide) ?_
    refine lv_icmp_eq (tgt := 65) hx hb dX6_findGroup_27 (by decide) (fun c4 => ?_) (fun c4 => ?_)
    · rw [if_pos c4] at h
      refine lv_iconst (v := (-1)) hx hb dX6_findGroup_65 (by decide) ?_
      cases h
      exact hRt _ _ dX6_findGroup_66 _ _ hP hD hS
    · rw [if_neg c4] at h
      refine lv_aload_n hx hb dX6_findGroup_30 rfl (lv_at hl 0 rfl) ?_
      refine lv_aload_n hx hb dX6_findGroup_31 rfl (lv_at hl 0 rfl) ?_
      refine r_get F hP i_X6 47 (xe_47 E q) rfl 9 (by decide) rfl lf_X6_54 rfl dX6_findGroup_32 ?_
      refine r_get F hP i_X5 49 (xe_49 E q) rfl 3 (by decide) rfl lf_X6_209 rfl dX6_findGroup_35 ?_
      refine lv_iload_n hx hb dX6_findGroup_38 rfl (lv_at hl 2 rfl) ?_
      obtain ⟨y5, e6, h⟩ := Option.bind_eq_some_iff.mp h
      refine r_iald F hP 52 (xe_52 E q) e6 dX6_findGroup_39 ?_
      refine lv_iload_n hx hb dX6_findGroup_40 rfl (lv_at hl 1 rfl) ?_
      obtain ⟨r7, e8, h⟩ := Option.bind_eq_some_iff.mp h
      refine q_callV (As := [.int y5, .int x1]) (rest := []) F hA hP hD hS (c_X6_areOfOneGroup (E := E) (l := l) q y5 x1 e8) k_X6_areOfOneGroup in_X6_areOfOneGroup se_X6_areOfOneGroup lm_X6_212 47 (xe_47 E q) rfl ⟨rfl, rfl⟩ ⟨by decide, by decide⟩ rfl hl.1 rfl (Nat.le_of_ble_eq_true rfl) dX6_findGroup_41 ⟨by decide, by decide⟩ ?_
      intro H locs hP hD hS
      refine lv_if_eq (tgt := 49) hx hb dX6_findGroup_44 (by decide) (fun c9 => ?_) (fun c9 => ?_)
      · rw [if_pos c9] at h
        refine lv_aload_n hx hb dX6_findGroup_49 rfl (lv_at hl 0 rfl) ?_
        refine r_get F hP i_X6 47 (xe_47 E q) rfl 9 (by decide) rfl lf_X6_54 rfl dX6_findGroup_50 ?_
        refine r_get F hP i_X5 49 (xe_49 E q) rfl 8 (by decide) rfl lf_X6_215 rfl dX6_findGroup_53 ?_
        refine lv_iload_n hx hb dX6_findGroup_56 rfl (lv_at hl 2 rfl) ?_
        obtain ⟨y10, e11, h⟩ := Option.bind_eq_some_iff.mp h
        refine r_iald F hP 57 (xe_57 E q) e11 dX6_findGroup_57 ?_
        refine lv_istore_n (lv' := [(3, .int y10), (0, .ref (eA E 47)), (1, .int x1), (4, .int x4)]) hx hb dX6_findGroup_58 rfl hl (by decide) rfl (fun ls hl => ?_)
        refine lv_iinc (v := (x4 + (1 : Int32))) (lv' := [(4, .int (x4 + (1 : Int32))), (3, .int y10), (0, .ref (eA E 47)), (1, .int x1)]) hx hb dX6_findGroup_59 hl (k := 3) rfl rfl (by decide) rfl (fun ls hl => ?_)
        refine lv_goto (tgt := 13) hx hb dX6_findGroup_62 (by decide) ?_
        exact hB13 x1 y10 (x4 + (1 : Int32)) h _ (lv_sub hl [2, 3, 1, 0] rfl) _ _ hP hD hS
      · rw [if_neg c9] at h
        refine lv_iload_n hx hb dX6_findGroup_47 rfl (lv_at hl 2 rfl) ?_
        cases h
        exact hRt _ _ dX6_findGroup_48 _ _ hP hD hS
def f_X6_findGroup_13 (q : QS) : Nat → Int32 → Int32 → Int32 → Option (Int32)
  | 0 => fun _ _ _ => none
  | n + 1 => f_X6_findGroup_13_b q (f_X6_findGroup_13 q n)
theorem g_X6_findGroup_13 {E : En} {p : Program} {l : Launch} {e : Env} {s : State} {m : MethodId} {args : Array Value} {below : List Frame} {meth : Method} {c : Code} {A : Nat → Prop} {Q : State → Prop} (F : Fx E p s m args meth c (yX6_findGroup).cls cX6_findGroup 5 (some .int)) (hA : ∀ z : Nat, s.heap.size ≤ z → A z) {q : QS} {o : Int32} (hRt : RtI (wX E) E p l e rm_X6_findGroup s m args below meth c A Q cX6_findGroup (o, q)) (n : Nat) : ∀ (x1 : Int32) (x3 : Int32) (x4 : Int32), f_X6_findGroup_13 q n x1 x3 x4 = some o → ∀ ls : Array Slot, lv_has ls 5 [(0, .ref (eA E 47)), (1, .int x1), (3, .int x3), (4, .int x4)] → Wq (wX E) E p l e rm_X6_findGroup s m args below meth c A 0 0 Q q (F0 m 13 ls []) := by
  induction n with
  | zero => intro x1 x3 x4 h; cases h
  | succ n ih => intro x1 x3 x4 h; exact g_X6_findGroup_13_b F hA hRt ih x1 x3 x4 h
def f_X6_findGroup_0 (q : QS) (x1 : Int32) (x2 : Int32) : Option (Int32) :=
  (rd (qI q 56) (qC q) x2).bind fun y1 =>
  f_X6_findGroup_13 q FU x1 y1 (0 : Int32)
set_option maxHeartbeats 4000000 in
set_option maxRecDepth 100000 in
theorem g_X6_findGroup_0 {E : En} {p : Program} {l : Launch} {e : Env} {s : State} {m : MethodId} {args : Array Value} {below : List Frame} {meth : Method} {c : Code} {A : Nat → Prop} {Q : State → Prop} (F : Fx E p s m args meth c (yX6_findGroup).cls cX6_findGroup 5 (some .int)) (hA : ∀ z : Nat, s.heap.size ≤ z → A z) {q : QS} {o : Int32} (hRt : RtI (wX E) E p l e rm_X6_findGroup s m args below meth c A Q cX6_findGroup (o, q)) (x1 : Int32) (x2 : Int32) (h : f_X6_findGroup_0 q x1 x2 = some o) (ls : Array Slot) (hl : lv_has ls 5 [(0, .ref (eA E 47)), (1, .int x1), (2, .int x2)]) : Wq (wX E) E p l e rm_X6_findGroup s m args below meth c A 0 0 Q q (F0 m 0 ls []) := by
  intro H locs hP hD hS
  have hx := F.1
  have hb := F.2.1
  unfold f_X6_findGroup_0 at h
  refine lv_aload_n hx hb dX6_findGroup_0 rfl (lv_at hl 0 rfl) ?_
  refine r_get F hP i_X6 47 (xe_47 E q) rfl 9 (by decide) rfl lf_X6_54 rfl dX6_findGroup_1 ?_
  refine r_get F hP i_X5 49 (xe_49 E q) rfl 7 (by decide) rfl lf_X6_206 rfl dX6_findGroup_4 ?_
  refine lv_iload_n hx hb dX6_findGroup_7 rfl (lv_at hl 2 rfl) ?_
  obtain ⟨y1, e2, h⟩ := Option.bind_eq_some_iff.mp h
  refine r_iald F hP 56 (xe_56 E q) e2 dX6_findGroup_8 ?_
  refine lv_istore_n (lv' := [(3, .int y1), (0, .ref (eA E 47)), (1, .int x1), (2, .int x2)]) hx hb dX6_findGroup_9 rfl hl (by decide) rfl (fun ls hl => ?_)
  refine lv_iconst (v := 0) hx hb dX6_findGroup_10 (by decide) ?_
  refine lv_istore (lv' := [(4, .int (0 : Int32)), (3, .int y1), (0, .ref (eA E 47)), (1, .int x1), (2, .int x2)]) hx hb dX6_findGroup_11 hl (by decide) rfl (fun ls hl => ?_)
  exact g_X6_findGroup_13 F hA hRt FU x1 y1 (0 : Int32) h _ (lv_sub hl [2, 3, 1, 0] rfl) _ _ hP hD hS
def f_X6_findGroup (q : QS) (x1 : Int32) (x2 : Int32) : Option (Int32) := f_X6_findGroup_0 q x1 x2
set_option maxRecDepth 100000 in
theorem c_X6_findGroup {E : En} {l : Launch} (q : QS) (x1 : Int32) (x2 : Int32) {o : Int32} (h : f_X6_findGroup q x1 x2 = some o) : Ct (wX E) E l yX6_findGroup (wy yX6_findGroup cX6_findGroup 5 (some .int)) rm_X6_findGroup q q [.ref (eA E 47), .int x1, .int x2] (some (.int o)) :=
  ct_I (o := (o, q)) (by decide +kernel) rfl (fun p e s m below meth c A Q F hA hRt H locs hP hD hS => en_W [.ref (eA E 47), .int x1, .int x2] (Nat.le_of_ble_eq_true rfl) (fun ls hl => g_X6_findGroup_0 F hA hRt x1 x2 h ls (lv_sub hl [0, 1, 2] rfl) H locs hP hD hS))
def rm_X6_makeRowForEachGroup : Room := { frames := 4, cells := 0, slots := 0, locals := 94 }
def f_X6_makeRowForEachGroup_80 (B11 : QS → Int32 → Int32 → Int32 → Option (Int32 × QS)) (q : QS) (x1 : Int32) (x2 : Int32) (x3 : Int32) : Option (Int32 × QS) :=
  B11 q x1 x2 (x3 + (1 : Int32))
set_option maxHeartbeats 4000000 in
set_option maxRecDepth 100000 in
theorem g_X6_makeRowForEachGroup_80 {E : En} {p : Program} {l : Launch} {e : Env} {s : State} {m : MethodId} {args : Array Value} {below : List Frame} {meth : Method} {c : Code} {A : Nat → Prop} {Q : State → Prop} (F : Fx E p s m args meth c (yX6_makeRowForEachGroup).cls cX6_makeRowForEachGroup 6 (some .int)) (hA : ∀ z : Nat, s.heap.size ≤ z → A z) {o : Int32 × QS} (hRt : RtI (wX E) E p l e rm_X6_makeRowForEachGroup s m args below meth c A Q cX6_makeRowForEachGroup o) {B11 : QS → Int32 → Int32 → Int32 → Option (Int32 × QS)} (hB11 : ∀ (q : QS) (x1 : Int32) (x2 : Int32) (x3 : Int32), B11 q x1 x2 x3 = some o → ∀ ls : Array Slot, lv_has ls 6 [(0, .ref (eA E 47)), (1, .int x1), (2, .int x2), (3, .int x3)] → Wq (wX E) E p l e rm_X6_makeRowForEachGroup s m args below meth c A 0 0 Q q (F0 m 11 ls [])) (q : QS) (x1 : Int32) (x2 : Int32) (x3 : Int32) (h : f_X6_makeRowForEachGroup_80 B11 q x1 x2 x3 = some o) (ls : Array Slot) (hl : lv_has ls 6 [(0, .ref (eA E 47)), (1, .int x1), (2, .int x2), (3, .int x3)]) : Wq (wX E) E p l e rm_X6_makeRowForEachGroup s m args below meth c A 0 0 Q q (F0 m 80 ls []) := by
  intro H locs hP hD hS
  have hx := F.1
  have hb := F.2.1
  unfold f_X6_makeRowForEachGroup_80 at h
  refine lv_iinc (v := (x3 + (1 : Int32))) (lv' := [(3, .int (x3 + (1 : Int32))), (0, .ref (eA E 47)), (1, .int x1), (2, .int x2)]) hx hb dX6_makeRowForEachGroup_80 hl (k := 3) rfl rfl (by decide) rfl (fun ls hl => ?_)
  refine lv_goto (tgt := 11) hx hb dX6_makeRowForEachGroup_83 (by decide) ?_
  exact hB11 q x1 x2 (x3 + (1 : Int32)) h _ (lv_sub hl [1, 2, 3, 0] rfl) _ _ hP hD hS
def f_X6_makeRowForEachGroup_11_b (B11 : QS → Int32 → Int32 → Int32 → Option (Int32 × QS)) (q : QS) (x1 : Int32) (x2 : Int32) (x3 : Int32) : Option (Int32 × QS) :=
  if x1 ≤ x3 then
    some (x2, q)
  else
    (f_X6_hashOfGroup q x3).bind fun r4 =>
    (f_X5_bucketOf q r4).bind fun r6 =>
    (f_X6_findGroup q x3 r6).bind fun r8 =>
    if r8 = (-1 : Int32) then
      (f_X5_startRow q x2 x3).bind fun r13 =>
      (f_X5_putInBucket r13 x2 r6).bind fun r15 =>
      f_X6_makeRowForEachGroup_80 B11 r15 x1 (x2 + (1 : Int32)) x3
    else
      (f_X5_extendRow q r8 x3).bind fun r11 =>
      f_X6_makeRowForEachGroup_80 B11 r11 x1 x2 x3
set_option maxHeartbeats 4000000 in
set_option maxRecDepth 100000 in
theorem g_X6_makeRowForEachGroup_11_b {E : En} {p : Program} {l : Launch} {e : Env} {s : State} {m : MethodId} {args : Array Value} {below : List Frame} {meth : Method} {c : Code} {A : Nat → Prop} {Q : State → Prop} (F : Fx E p s m args meth c (yX6_makeRowForEachGroup).cls cX6_makeRowForEachGroup 6 (some .int)) (hA : ∀ z : Nat, s.heap.size ≤ z → A z) {o : Int32 × QS} (hRt : RtI (wX E) E p l e rm_X6_makeRowForEachGroup s m args below meth c A Q cX6_makeRowForEachGroup o) {B11 : QS → Int32 → Int32 → Int32 → Option (Int32 × QS)} (hB11 : ∀ (q : QS) (x1 : Int32) (x2 : Int32) (x3 : Int32), B11 q x1 x2 x3 = some o → ∀ ls : Array Slot, lv_has ls 6 [(0, .ref (eA E 47)), (1, .int x1), (2, .int x2), (3, .int x3)] → Wq (wX E) E p l e rm_X6_makeRowForEachGroup s m args below meth c A 0 0 Q q (F0 m 11 ls [])) (q : QS) (x1 : Int32) (x2 : Int32) (x3 : Int32) (h : f_X6_makeRowForEachGroup_11_b B11 q x1 x2 x3 = some o) (ls : Array Slot) (hl : lv_has ls 6 [(0, .ref (eA E 47)), (1, .int x1), (2, .int x2), (3, .int x3)]) : Wq (wX E) E p l e rm_X6_makeRowForEachGroup s m args below meth c A 0 0 Q q (F0 m 11 ls []) := by
  intro H locs hP hD hS
  have hx := F.1
  have hb := F.2.1
  unfold f_X6_makeRowForEachGroup_11_b at h
  refine lv_iload_n hx hb dX6_makeRowForEachGroup_11 rfl (lv_at hl 3 rfl) ?_
  refine lv_iload_n hx hb dX6_makeRowForEachGroup_12 rfl (lv_at hl 1 rfl) ?_
  refine lv_icmp_ge (tgt := 86) hx hb dX6_makeRowForEachGroup_13 (by decide) (fun c3 => ?_) (fun c3 => ?_)
  · rw [if_pos c3] at h
    refine lv_iload_n hx hb dX6_makeRowForEachGroup_86 rfl (lv_at hl 2 rfl) ?_
    cases h
    exact hRt _ _ dX6_makeRowForEachGroup_87 _ _ hP hD hS
  · rw [if_neg c3] at h
    refine lv_aload_n hx hb dX6_makeRowForEachGroup_16 rfl (lv_at hl 0 rfl) ?_
    refine r_get F hP i_X6 47 (xe_47 E q) rfl 9 (by decide) rfl lf_X6_54 rfl dX6_makeRowForEachGroup_17 ?_
    refine lv_aload_n hx hb dX6_makeRowForEachGroup_20 rfl (lv_at hl 0 rfl) ?_
    refine lv_iload_n hx hb dX6_makeRowForEachGroup_21 rfl (lv_at hl 3 rfl) ?_
    obtain ⟨r4, e5, h⟩ := Option.bind_eq_some_iff.mp h
    refine q_callV (As := [.int x3]) (rest := [.ref (eA E 49)]) F hA hP hD hS (c_X6_hashOfGroup (E := E) (l := l) q x3 e5) k_X6_hashOfGroup in_X6_hashOfGroup se_X6_hashOfGroup lm_X6_192 47 (xe_47 E q) rfl ⟨rfl, rfl⟩ ⟨by decide, by decide⟩ rfl hl.1 rfl (Nat.le_of_ble_eq_true rfl) dX6_makeRowForEachGroup_22 ⟨by decide, by decide⟩ ?_
    intro H locs hP hD hS
    obtain ⟨r6, e7, h⟩ := Option.bind_eq_some_iff.mp h
    refine q_callV (As := [.long r4]) (rest := []) F hA hP hD hS (c_X5_bucketOf (E := E) (l := l) q r4 e7) k_X5_bucketOf in_X5_bucketOf se_X5_bucketOf lm_X6_196 49 (xe_49 E q) rfl ⟨rfl, rfl⟩ ⟨by decide, by decide⟩ rfl hl.1 rfl (Nat.le_of_ble_eq_true rfl) dX6_makeRowForEachGroup_25 ⟨by decide, by decide⟩ ?_
    intro H locs hP hD hS
    refine lv_istore (lv' := [(4, .int r6), (0, .ref (eA E 47)), (1, .int x1), (2, .int x2), (3, .int x3)]) hx hb dX6_makeRowForEachGroup_28 hl (by decide) rfl (fun ls hl => ?_)
    refine lv_aload_n hx hb dX6_makeRowForEachGroup_30 rfl (lv_at hl 1 rfl) ?_
    refine lv_iload_n hx hb dX6_makeRowForEachGroup_31 rfl (lv_at hl 4 rfl) ?_
    refine lv_iload hx hb dX6_makeRowForEachGroup_32 (lv_at hl 0 rfl) ?_
    obtain ⟨r8, e9, h⟩ := Option.bind_eq_some_iff.mp h
    refine q_callV (As := [.int x3, .int r6]) (rest := []) F hA hP hD hS (c_X6_findGroup (E := E) (l := l) q x3 r6 e9) k_X6_findGroup in_X6_findGroup se_X6_findGroup lm_X6_200 47 (xe_47 E q) rfl ⟨rfl, rfl⟩ ⟨by decide, by decide⟩ rfl hl.1 rfl (Nat.le_of_ble_eq_true rfl) dX6_makeRowForEachGroup_34 ⟨by decide, by decide⟩ ?_
    intro H locs hP hD hS
    refine lv_istore (lv' := [(5, .int r8), (4, .int r6), (0, .ref (eA E 47)), (1, .int x1), (2, .int x2), (3, .int x3)]) hx hb dX6_makeRowForEachGroup_37 hl (by decide) rfl (fun ls hl => ?_)
    refine lv_iload hx hb dX6_makeRowForEachGroup_39 (lv_at hl 0 rfl) ?_
    refine lv_iconst (v := (-1)) hx hb dX6_makeRowForEachGroup_41 (by decide) ?_
    refine lv_icmp_ne (tgt := 70) hx hb dX6_makeRowForEachGroup_42 (by decide) (fun c10 => ?_) (fun c10 => ?_)
    · rw [if_neg c10] at h
      refine lv_aload_n hx hb dX6_makeRowForEachGroup_70 rfl (lv_at hl 2 rfl) ?_
      refine r_get F hP i_X6 47 (xe_47 E q) rfl 9 (by decide) rfl lf_X6_54 rfl dX6_makeRowForEachGroup_71 ?_
      refine lv_iload hx hb dX6_makeRowForEachGroup_74 (lv_at hl 0 rfl) ?_
      refine lv_iload_n hx hb dX6_makeRowForEachGroup_76 rfl (lv_at hl 5 rfl) ?_
      obtain ⟨r11, e12, h⟩ := Option.bind_eq_some_iff.mp h
      refine q_callV (As := [.int r8, .int x3]) (rest := []) F hA hP hD hS (c_X5_extendRow (E := E) (l := l) q r8 x3 e12) k_X5_extendRow in_X5_extendRow se_X5_extendRow lm_X6_186 49 (xe_49 E q) rfl ⟨rfl, rfl⟩ ⟨by decide, by decide⟩ rfl hl.1 rfl (Nat.le_of_ble_eq_true rfl) dX6_makeRowForEachGroup_77 ⟨by decide, by decide⟩ ?_
      intro H locs hP hD hS
      exact g_X6_makeRowForEachGroup_80 F hA hRt hB11 r11 x1 x2 x3 h _ (lv_sub hl [2, 3, 4, 5] rfl) _ _ hP hD hS
    · rw [if_pos c10] at h
      refine lv_aload_n hx hb dX6_makeRowForEachGroup_45 rfl (lv_at hl 2 rfl) ?_
      refine r_get F hP i_X6 47 (xe_47 E q) rfl 9 (by decide) rfl lf_X6_54 rfl dX6_makeRowForEachGroup_46 ?_
      refine lv_iload_n hx hb dX6_makeRowForEachGroup_49 rfl (lv_at hl 4 rfl) ?_
      refine lv_iload_n hx hb dX6_makeRowForEachGroup_50 rfl (lv_at hl 5 rfl) ?_
      obtain ⟨r13, e14, h⟩ := Option.bind_eq_some_iff.mp h
      refine q_callV (As := [.int x2, .int x3]) (rest := []) F hA hP hD hS (c_X5_startRow (E := E) (l := l) q x2 x3 e14) k_X5_startRow in_X5_startRow se_X5_startRow lm_X6_182 49 (xe_49 E q) rfl ⟨rfl, rfl⟩ ⟨by decide, by decide⟩ rfl hl.1 rfl (Nat.le_of_ble_eq_true rfl) dX6_makeRowForEachGroup_51 ⟨by decide, by decide⟩ ?_
      intro H locs hP hD hS
      refine lv_aload_n hx hb dX6_makeRowForEachGroup_54 rfl (lv_at hl 2 rfl) ?_
      refine r_get F hP i_X6 47 (xe_47 E r13) rfl 9 (by decide) rfl lf_X6_54 rfl dX6_makeRowForEachGroup_55 ?_
      refine lv_iload_n hx hb dX6_makeRowForEachGroup_58 rfl (lv_at hl 4 rfl) ?_
      refine lv_iload hx hb dX6_makeRowForEachGroup_59 (lv_at hl 1 rfl) ?_
      obtain ⟨r15, e16, h⟩ := Option.bind_eq_some_iff.mp h
      refine q_callV (As := [.int x2, .int r6]) (rest := []) F hA hP hD hS (c_X5_putInBucket (E := E) (l := l) r13 x2 r6 e16) k_X5_putInBucket in_X5_putInBucket se_X5_putInBucket lm_X6_203 49 (xe_49 E r13) rfl ⟨rfl, rfl⟩ ⟨by decide, by decide⟩ rfl hl.1 rfl (Nat.le_of_ble_eq_true rfl) dX6_makeRowForEachGroup_61 ⟨by decide, by decide⟩ ?_
      intro H locs hP hD hS
      refine lv_iinc (v := (x2 + (1 : Int32))) (lv' := [(2, .int (x2 + (1 : Int32))), (5, .int r8), (4, .int r6), (0, .ref (eA E 47)), (1, .int x1), (3, .int x3)]) hx hb dX6_makeRowForEachGroup_64 hl (k := 4) rfl rfl (by decide) rfl (fun ls hl => ?_)
      refine lv_goto (tgt := 80) hx hb dX6_makeRowForEachGroup_67 (by decide) ?_
      exact g_X6_makeRowForEachGroup_80 F hA hRt hB11 r15 x1 (x2 + (1 : Int32)) x3 h _ (lv_sub hl [3, 4, 0, 5] rfl) _ _ hP hD hS
def f_X6_makeRowForEachGroup_11 : Nat → QS → Int32 → Int32 → Int32 → Option (Int32 × QS)
  | 0 => fun _ _ _ _ => none
  | n + 1 => f_X6_makeRowForEachGroup_11_b (f_X6_makeRowForEachGroup_11 n)
theorem g_X6_makeRowForEachGroup_11 {E : En} {p : Program} {l : Launch} {e : Env} {s : State} {m : MethodId} {args : Array Value} {below : List Frame} {meth : Method} {c : Code} {A : Nat → Prop} {Q : State → Prop} (F : Fx E p s m args meth c (yX6_makeRowForEachGroup).cls cX6_makeRowForEachGroup 6 (some .int)) (hA : ∀ z : Nat, s.heap.size ≤ z → A z) {o : Int32 × QS} (hRt : RtI (wX E) E p l e rm_X6_makeRowForEachGroup s m args below meth c A Q cX6_makeRowForEachGroup o) (n : Nat) : ∀ (q : QS) (x1 : Int32) (x2 : Int32) (x3 : Int32), f_X6_makeRowForEachGroup_11 n q x1 x2 x3 = some o → ∀ ls : Array Slot, lv_has ls 6 [(0, .ref (eA E 47)), (1, .int x1), (2, .int x2), (3, .int x3)] → Wq (wX E) E p l e rm_X6_makeRowForEachGroup s m args below meth c A 0 0 Q q (F0 m 11 ls []) := by
  induction n with
  | zero => intro q x1 x2 x3 h; cases h
  | succ n ih => intro q x1 x2 x3 h; exact g_X6_makeRowForEachGroup_11_b F hA hRt ih q x1 x2 x3 h
def f_X6_makeRowForEachGroup_0 (q : QS) (x1 : Int32) : Option (Int32 × QS) :=
  (f_X5_emptyBuckets q).bind fun r1 =>
  f_X6_makeRowForEachGroup_11 FU r1 x1 (0 : Int32) (0 : Int32)
set_option maxHeartbeats 4000000 in
set_option maxRecDepth 100000 in
theorem g_X6_makeRowForEachGroup_0 {E : En} {p : Program} {l : Launch} {e : Env} {s : State} {m : MethodId} {args : Array Value} {below : List Frame} {meth : Method} {c : Code} {A : Nat → Prop} {Q : State → Prop} (F : Fx E p s m args meth c (yX6_makeRowForEachGroup).cls cX6_makeRowForEachGroup 6 (some .int)) (hA : ∀ z : Nat, s.heap.size ≤ z → A z) {o : Int32 × QS} (hRt : RtI (wX E) E p l e rm_X6_makeRowForEachGroup s m args below meth c A Q cX6_makeRowForEachGroup o) (q : QS) (x1 : Int32) (h : f_X6_makeRowForEachGroup_0 q x1 = some o) (ls : Array Slot) (hl : lv_has ls 6 [(0, .ref (eA E 47)), (1, .int x1)]) : Wq (wX E) E p l e rm_X6_makeRowForEachGroup s m args below meth c A 0 0 Q q (F0 m 0 ls []) := by
  intro H locs hP hD hS
  have hx := F.1
  have hb := F.2.1
  unfold f_X6_makeRowForEachGroup_0 at h
  refine lv_aload_n hx hb dX6_makeRowForEachGroup_0 rfl (lv_at hl 0 rfl) ?_
  refine r_get F hP i_X6 47 (xe_47 E q) rfl 9 (by decide) rfl lf_X6_54 rfl dX6_makeRowForEachGroup_1 ?_
  obtain ⟨r1, e2, h⟩ := Option.bind_eq_some_iff.mp h
  refine q_callV (As := []) (rest := []) F hA hP hD hS (c_X5_emptyBuckets (E := E) (l := l) q e2) k_X5_emptyBuckets in_X5_emptyBuckets se_X5_emptyBuckets lm_X6_189 49 (xe_49 E q) rfl ⟨rfl, rfl⟩ ⟨by decide, by decide⟩ rfl hl.1 rfl (Nat.le_of_ble_eq_true rfl) dX6_makeRowForEachGroup_4 ⟨by decide, by decide⟩ ?_
  intro H locs hP hD hS
  refine lv_iconst (v := 0) hx hb dX6_makeRowForEachGroup_7 (by decide) ?_
  refine lv_istore_n (lv' := [(2, .int (0 : Int32)), (0, .ref (eA E 47)), (1, .int x1)]) hx hb dX6_makeRowForEachGroup_8 rfl hl (by decide) rfl (fun ls hl => ?_)
  refine lv_iconst (v := 0) hx hb dX6_makeRowForEachGroup_9 (by decide) ?_
  refine lv_istore_n (lv' := [(3, .int (0 : Int32)), (2, .int (0 : Int32)), (0, .ref (eA E 47)), (1, .int x1)]) hx hb dX6_makeRowForEachGroup_10 rfl hl (by decide) rfl (fun ls hl => ?_)
  exact g_X6_makeRowForEachGroup_11 F hA hRt FU r1 x1 (0 : Int32) (0 : Int32) h _ (lv_sub hl [2, 3, 1, 0] rfl) _ _ hP hD hS
def f_X6_makeRowForEachGroup (q : QS) (x1 : Int32) : Option (Int32 × QS) := f_X6_makeRowForEachGroup_0 q x1
set_option maxRecDepth 100000 in
theorem c_X6_makeRowForEachGroup {E : En} {l : Launch} (q : QS) (x1 : Int32) {o : Int32 × QS} (h : f_X6_makeRowForEachGroup q x1 = some o) : Ct (wX E) E l yX6_makeRowForEachGroup (wy yX6_makeRowForEachGroup cX6_makeRowForEachGroup 6 (some .int)) rm_X6_makeRowForEachGroup q o.2 [.ref (eA E 47), .int x1] (some (.int o.1)) :=
  ct_I (o := o) (by decide +kernel) rfl (fun p e s m below meth c A Q F hA hRt H locs hP hD hS => en_W [.ref (eA E 47), .int x1] (Nat.le_of_ble_eq_true rfl) (fun ls hl => g_X6_makeRowForEachGroup_0 F hA hRt q x1 h ls (lv_sub hl [0, 1] rfl) H locs hP hD hS))
def rm_X6_makeRows : Room := { frames := 5, cells := 0, slots := 0, locals := 119 }
def f_X6_makeRows_0 (q : QS) (x1 : Int32) : Option (Int32 × QS) :=
  (f_X6_isGrouped q).bind fun r1 =>
  if r1 = 0 then
    (f_X6_makeRowForEach q x1).bind fun r9 =>
    some (r9.1, r9.2)
  else
    if (qF q 7) = 0 then
      (f_X6_makeOneRow q x1).bind fun r7 =>
      some (r7.1, r7.2)
    else
      (f_X6_makeRowForEachGroup q x1).bind fun r5 =>
      some (r5.1, r5.2)
set_option maxHeartbeats 4000000 in
set_option maxRecDepth 100000 in
theorem g_X6_makeRows_0 {E : En} {p : Program} {l : Launch} {e : Env} {s : State} {m : MethodId} {args : Array Value} {below : List Frame} {meth : Method} {c : Code} {A : Nat → Prop} {Q : State → Prop} (F : Fx E p s m args meth c (yX6_makeRows).cls cX6_makeRows 2 (some .int)) (hA : ∀ z : Nat, s.heap.size ≤ z → A z) {o : Int32 × QS} (hRt : RtI (wX E) E p l e rm_X6_makeRows s m args below meth c A Q cX6_makeRows o) (q : QS) (x1 : Int32) (h : f_X6_makeRows_0 q x1 = some o) (ls : Array Slot) (hl : lv_has ls 2 [(0, .ref (eA E 47)), (1, .int x1)]) : Wq (wX E) E p l e rm_X6_makeRows s m args below meth c A 0 0 Q q (F0 m 0 ls []) := by
  intro H locs hP hD hS
  have hx := F.1
  have hb := F.2.1
  unfold f_X6_makeRows_0 at h
  refine lv_aload_n hx hb dX6_makeRows_0 rfl (lv_at hl 0 rfl) ?_
  obtain ⟨r1, e2, h⟩ := Option.bind_eq_some_iff.mp h
  refine q_callV (As := []) (rest := []) F hA hP hD hS (c_X6_isGrouped (E := E) (l := l) q e2) k_X6_isGrouped in_X6_isGrouped se_X6_isGrouped lm_X6_104 47 (xe_47 E q) rfl ⟨rfl, rfl⟩ ⟨by decide, by decide⟩ rfl hl.1 rfl (Nat.le_of_ble_eq_true rfl) dX6_makeRows_1 ⟨by decide, by decide⟩ ?_
  intro H locs hP hD hS
  refine lv_if_ne (tgt := 13) hx hb dX6_makeRows_4 (by decide) (fun c3 => ?_) (fun c3 => ?_)
  · rw [if_neg c3] at h
    refine lv_aload_n hx hb dX6_makeRows_13 rfl (lv_at hl 0 rfl) ?_
    refine r_get F hP i_X6 47 (xe_47 E q) rfl 2 (by decide) rfl lf_X6_36 rfl dX6_makeRows_14 ?_
    refine r_get F hP i_X4 38 (xe_38 E q) rfl 1 (by decide) rfl lf_X6_101 rfl dX6_makeRows_17 ?_
    refine lv_if_ne (tgt := 31) hx hb dX6_makeRows_20 (by decide) (fun c4 => ?_) (fun c4 => ?_)
    · rw [if_neg c4] at h
      refine lv_aload_n hx hb dX6_makeRows_31 rfl (lv_at hl 0 rfl) ?_
      refine lv_iload_n hx hb dX6_makeRows_32 rfl (lv_at hl 1 rfl) ?_
      obtain ⟨r5, e6, h⟩ := Option.bind_eq_some_iff.mp h
      refine q_callV (As := [.int x1]) (rest := []) F hA hP hD hS (c_X6_makeRowForEachGroup (E := E) (l := l) q x1 e6) k_X6_makeRowForEachGroup in_X6_makeRowForEachGroup se_X6_makeRowForEachGroup lm_X6_179 47 (xe_47 E q) rfl ⟨rfl, rfl⟩ ⟨by decide, by decide⟩ rfl hl.1 rfl (Nat.le_of_ble_eq_true rfl) dX6_makeRows_33 ⟨by decide, by decide⟩ ?_
      intro H locs hP hD hS
      cases h
      exact hRt _ _ dX6_makeRows_36 _ _ hP hD hS
    · rw [if_pos c4] at h
      refine lv_aload_n hx hb dX6_makeRows_23 rfl (lv_at hl 0 rfl) ?_
      refine lv_iload_n hx hb dX6_makeRows_24 rfl (lv_at hl 1 rfl) ?_
      obtain ⟨r7, e8, h⟩ := Option.bind_eq_some_iff.mp h
      refine q_callV (As := [.int x1]) (rest := []) F hA hP hD hS (c_X6_makeOneRow (E := E) (l := l) q x1 e8) k_X6_makeOneRow in_X6_makeOneRow se_X6_makeOneRow lm_X6_176 47 (xe_47 E q) rfl ⟨rfl, rfl⟩ ⟨by decide, by decide⟩ rfl hl.1 rfl (Nat.le_of_ble_eq_true rfl) dX6_makeRows_25 ⟨by decide, by decide⟩ ?_
      intro H locs hP hD hS
      refine lv_goto (tgt := 36) hx hb dX6_makeRows_28 (by decide) ?_
      cases h
      exact hRt _ _ dX6_makeRows_36 _ _ hP hD hS
  · rw [if_pos c3] at h
    refine lv_aload_n hx hb dX6_makeRows_7 rfl (lv_at hl 0 rfl) ?_
    refine lv_iload_n hx hb dX6_makeRows_8 rfl (lv_at hl 1 rfl) ?_
    obtain ⟨r9, e10, h⟩ := Option.bind_eq_some_iff.mp h
    refine q_callV (As := [.int x1]) (rest := []) F hA hP hD hS (c_X6_makeRowForEach (E := E) (l := l) q x1 e10) k_X6_makeRowForEach in_X6_makeRowForEach se_X6_makeRowForEach lm_X6_173 47 (xe_47 E q) rfl ⟨rfl, rfl⟩ ⟨by decide, by decide⟩ rfl hl.1 rfl (Nat.le_of_ble_eq_true rfl) dX6_makeRows_9 ⟨by decide, by decide⟩ ?_
    intro H locs hP hD hS
    cases h
    exact hRt _ _ dX6_makeRows_12 _ _ hP hD hS
def f_X6_makeRows (q : QS) (x1 : Int32) : Option (Int32 × QS) := f_X6_makeRows_0 q x1
set_option maxRecDepth 100000 in
theorem c_X6_makeRows {E : En} {l : Launch} (q : QS) (x1 : Int32) {o : Int32 × QS} (h : f_X6_makeRows q x1 = some o) : Ct (wX E) E l yX6_makeRows (wy yX6_makeRows cX6_makeRows 2 (some .int)) rm_X6_makeRows q o.2 [.ref (eA E 47), .int x1] (some (.int o.1)) :=
  ct_I (o := o) (by decide +kernel) rfl (fun p e s m below meth c A Q F hA hRt H locs hP hD hS => en_W [.ref (eA E 47), .int x1] (Nat.le_of_ble_eq_true rfl) (fun ls hl => g_X6_makeRows_0 F hA hRt q x1 h ls (lv_sub hl [0, 1] rfl) H locs hP hD hS))
def rm_X6_workOutAggregates : Room := { frames := 4, cells := 0, slots := 0, locals := 97 }
def f_X6_workOutAggregates_2_b (K29 : QS → Int32 → Option (QS)) (B2 : QS → Int32 → Int32 → Option (QS)) (q : QS) (x1 : Int32) (x2 : Int32) : Option (QS) :=
  if (qF q 13) ≤ x2 then
    K29 q x1
  else
    (rd (qI q 48) 200 x2).bind fun y2 =>
    (f_X1_startAggregate q y2).bind fun r4 =>
    B2 r4 x1 (x2 + (1 : Int32))
set_option maxHeartbeats 4000000 in
set_option maxRecDepth 100000 in
theorem g_X6_workOutAggregates_2_b {E : En} {p : Program} {l : Launch} {e : Env} {s : State} {m : MethodId} {args : Array Value} {below : List Frame} {meth : Method} {c : Code} {A : Nat → Prop} {Q : State → Prop} (F : Fx E p s m args meth c (yX6_workOutAggregates).cls cX6_workOutAggregates 5 none) (hA : ∀ z : Nat, s.heap.size ≤ z → A z) {o : QS} (hRt : RtV (wX E) E p l e rm_X6_workOutAggregates s m args below meth c A Q cX6_workOutAggregates o) {K29 : QS → Int32 → Option (QS)} {B2 : QS → Int32 → Int32 → Option (QS)} (hK29 : ∀ (q : QS) (x1 : Int32), K29 q x1 = some o → ∀ ls : Array Slot, lv_has ls 5 [(0, .ref (eA E 47)), (1, .int x1)] → Wq (wX E) E p l e rm_X6_workOutAggregates s m args below meth c A 0 0 Q q (F0 m 29 ls [])) (hB2 : ∀ (q : QS) (x1 : Int32) (x2 : Int32), B2 q x1 x2 = some o → ∀ ls : Array Slot, lv_has ls 5 [(0, .ref (eA E 47)), (1, .int x1), (2, .int x2)] → Wq (wX E) E p l e rm_X6_workOutAggregates s m args below meth c A 0 0 Q q (F0 m 2 ls [])) (q : QS) (x1 : Int32) (x2 : Int32) (h : f_X6_workOutAggregates_2_b K29 B2 q x1 x2 = some o) (ls : Array Slot) (hl : lv_has ls 5 [(0, .ref (eA E 47)), (1, .int x1), (2, .int x2)]) : Wq (wX E) E p l e rm_X6_workOutAggregates s m args below meth c A 0 0 Q q (F0 m 2 ls []) := by
  intro H locs hP hD hS
  have hx := F.1
  have hb := F.2.1
  unfold f_X6_workOutAggregates_2_b at h
  refine lv_iload_n hx hb dX6_workOutAggregates_2 rfl (lv_at hl 2 rfl) ?_
  refine lv_aload_n hx hb dX6_workOutAggregates_3 rfl (lv_at hl 0 rfl) ?_
  refine r_get F hP i_X6 47 (xe_47 E q) rfl 8 (by decide) rfl lf_X6_83 rfl dX6_workOutAggregates_4 ?_
  refine lv_icmp_ge (tgt := 29) hx hb dX6_workOutAggregates_7 (by decide) (fun c1 => ?_) (fun c1 => ?_)
  · rw [if_pos c1] at h
    exact hK29 q x1 h _ (lv_sub hl [0, 1] rfl) _ _ hP hD hS
  · rw [if_neg c1] at h
    refine lv_aload_n hx hb dX6_workOutAggregates_10 rfl (lv_at hl 0 rfl) ?_
    refine r_get F hP i_X6 47 (xe_47 E q) rfl 3 (by decide) rfl lf_X6_45 rfl dX6_workOutAggregates_11 ?_
    refine lv_aload_n hx hb dX6_workOutAggregates_14 rfl (lv_at hl 0 rfl) ?_
    refine r_get F hP i_X6 47 (xe_47 E q) rfl 7 (by decide) rfl lf_X6_24 rfl dX6_workOutAggregates_15 ?_
    refine lv_iload_n hx hb dX6_workOutAggregates_18 rfl (lv_at hl 2 rfl) ?_
    obtain ⟨y2, e3, h⟩ := Option.bind_eq_some_iff.mp h
    refine r_iald F hP 48 (xe_48 E q) e3 dX6_workOutAggregates_19 ?_
    obtain ⟨r4, e5, h⟩ := Option.bind_eq_some_iff.mp h
    refine q_callV (As := [.int y2]) (rest := []) F hA hP hD hS (c_X1_startAggregate (E := E) (l := l) q y2 e5) k_X1_startAggregate in_X1_startAggregate se_X1_startAggregate lm_X6_253 45 (xe_45 E q) rfl ⟨rfl, rfl⟩ ⟨by decide, by decide⟩ rfl hl.1 rfl (Nat.le_of_ble_eq_true rfl) dX6_workOutAggregates_20 ⟨by decide, by decide⟩ ?_
    intro H locs hP hD hS
    refine lv_iinc (v := (x2 + (1 : Int32))) (lv' := [(2, .int (x2 + (1 : Int32))), (0, .ref (eA E 47)), (1, .int x1)]) hx hb dX6_workOutAggregates_23 hl (k := 2) rfl rfl (by decide) rfl (fun ls hl => ?_)
    refine lv_goto (tgt := 2) hx hb dX6_workOutAggregates_26 (by decide) ?_
    exact hB2 r4 x1 (x2 + (1 : Int32)) h _ (lv_sub hl [1, 2, 0] rfl) _ _ hP hD hS
def f_X6_workOutAggregates_2 (K29 : QS → Int32 → Option (QS)) : Nat → QS → Int32 → Int32 → Option (QS)
  | 0 => fun _ _ _ => none
  | n + 1 => f_X6_workOutAggregates_2_b K29 (f_X6_workOutAggregates_2 K29 n)
theorem g_X6_workOutAggregates_2 {E : En} {p : Program} {l : Launch} {e : Env} {s : State} {m : MethodId} {args : Array Value} {below : List Frame} {meth : Method} {c : Code} {A : Nat → Prop} {Q : State → Prop} (F : Fx E p s m args meth c (yX6_workOutAggregates).cls cX6_workOutAggregates 5 none) (hA : ∀ z : Nat, s.heap.size ≤ z → A z) {o : QS} (hRt : RtV (wX E) E p l e rm_X6_workOutAggregates s m args below meth c A Q cX6_workOutAggregates o) {K29 : QS → Int32 → Option (QS)} (hK29 : ∀ (q : QS) (x1 : Int32), K29 q x1 = some o → ∀ ls : Array Slot, lv_has ls 5 [(0, .ref (eA E 47)), (1, .int x1)] → Wq (wX E) E p l e rm_X6_workOutAggregates s m args below meth c A 0 0 Q q (F0 m 29 ls [])) (n : Nat) : ∀ (q : QS) (x1 : Int32) (x2 : Int32), f_X6_workOutAggregates_2 K29 n q x1 x2 = some o → ∀ ls : Array Slot, lv_has ls 5 [(0, .ref (eA E 47)), (1, .int x1), (2, .int x2)] → Wq (wX E) E p l e rm_X6_workOutAggregates s m args below meth c A 0 0 Q q (F0 m 2 ls []) := by
  induction n with
  | zero => intro q x1 x2 h; cases h
  | succ n ih => intro q x1 x2 h; exact g_X6_workOutAggregates_2_b F hA hRt hK29 ih q x1 x2 h
def f_X6_workOutAggregates_79_b (K108 : QS → Int32 → Int32 → Option (QS)) (B79 : QS → Int32 → Int32 → Int32 → Option (QS)) (q : QS) (x2 : Int32) (x3 : Int32) (x4 : Int32) : Option (QS) :=
  if (qF q 13) ≤ x4 then
    K108 q x2 x3
  else
    (rd (qI q 48) 200 x4).bind fun y15 =>
    (f_X1_feedAggregate q y15).bind fun r17 =>
    B79 r17 x2 x3 (x4 + (1 : Int32))
set_option maxHeartbeats 4000000 in
set_option maxRecDepth 100000 in
theorem g_X6_workOutAggregates_79_b {E : En} {p : Program} {l : Launch} {e : Env} {s : State} {m : MethodId} {args : Array Value} {below : List Frame} {meth : Method} {c : Code} {A : Nat → Prop} {Q : State → Prop} (F : Fx E p s m args meth c (yX6_workOutAggregates).cls cX6_workOutAggregates 5 none) (hA : ∀ z : Nat, s.heap.size ≤ z → A z) {o : QS} (hRt : RtV (wX E) E p l e rm_X6_workOutAggregates s m args below meth c A Q cX6_workOutAggregates o) {K108 : QS → Int32 → Int32 → Option (QS)} {B79 : QS → Int32 → Int32 → Int32 → Option (QS)} (hK108 : ∀ (q : QS) (x2 : Int32) (x3 : Int32), K108 q x2 x3 = some o → ∀ ls : Array Slot, lv_has ls 5 [(0, .ref (eA E 47)), (2, .int x2), (3, .int x3)] → Wq (wX E) E p l e rm_X6_workOutAggregates s m args below meth c A 0 0 Q q (F0 m 108 ls [])) (hB79 : ∀ (q : QS) (x2 : Int32) (x3 : Int32) (x4 : Int32), B79 q x2 x3 x4 = some o → ∀ ls : Array Slot, lv_has ls 5 [(0, .ref (eA E 47)), (2, .int x2), (3, .int x3), (4, .int x4)] → Wq (wX E) E p l e rm_X6_workOutAggregates s m args below meth c A 0 0 Q q (F0 m 79 ls [])) (q : QS) (x2 : Int32) (x3 : Int32) (x4 : Int32) (h : f_X6_workOutAggregates_79_b K108 B79 q x2 x3 x4 = some o) (ls : Array Slot) (hl : lv_has ls 5 [(0, .ref (eA E 47)), (2, .int x2), (3, .int x3), (4, .int x4)]) : Wq (wX E) E p l e rm_X6_workOutAggregates s m args below meth c A 0 0 Q q (F0 m 79 ls []) := by
  intro H locs hP hD hS
  have hx := F.1
  have hb := F.2.1
  unfold f_X6_workOutAggregates_79_b at h
  refine lv_iload hx hb dX6_workOutAggregates_79 (lv_at hl 3 rfl) ?_
  refine lv_aload_n hx hb dX6_workOutAggregates_81 rfl (lv_at hl 0 rfl) ?_
  refine r_get F hP i_X6 47 (xe_47 E q) rfl 8 (by decide) rfl lf_X6_83 rfl dX6_workOutAggregates_82 ?_
  refine lv_icmp_ge (tgt := 108) hx hb dX6_workOutAggregates_85 (by decide) (fun c14 => ?_) (fun c14 => ?_)
  · rw [if_pos c14] at h
    exact hK108 q x2 x3 h _ (lv_sub hl [0, 1, 2] rfl) _ _ hP hD hS
  · rw [if_neg c14] at h
    refine lv_aload_n hx hb dX6_workOutAggregates_88 rfl (lv_at hl 0 rfl) ?_
    refine r_get F hP i_X6 47 (xe_47 E q) rfl 3 (by decide) rfl lf_X6_45 rfl dX6_workOutAggregates_89 ?_
    refine lv_aload_n hx hb dX6_workOutAggregates_92 rfl (lv_at hl 0 rfl) ?_
    refine r_get F hP i_X6 47 (xe_47 E q) rfl 7 (by decide) rfl lf_X6_24 rfl dX6_workOutAggregates_93 ?_
    refine lv_iload hx hb dX6_workOutAggregates_96 (lv_at hl 3 rfl) ?_
    obtain ⟨y15, e16, h⟩ := Option.bind_eq_some_iff.mp h
    refine r_iald F hP 48 (xe_48 E q) e16 dX6_workOutAggregates_98 ?_
    obtain ⟨r17, e18, h⟩ := Option.bind_eq_some_iff.mp h
    refine q_callV (As := [.int y15]) (rest := []) F hA hP hD hS (c_X1_feedAggregate (E := E) (l := l) q y15 e18) k_X1_feedAggregate in_X1_feedAggregate se_X1_feedAggregate lm_X6_256 45 (xe_45 E q) rfl ⟨rfl, rfl⟩ ⟨by decide, by decide⟩ rfl hl.1 rfl (Nat.le_of_ble_eq_true rfl) dX6_workOutAggregates_99 ⟨by decide, by decide⟩ ?_
    intro H locs hP hD hS
    refine lv_iinc (v := (x4 + (1 : Int32))) (lv' := [(4, .int (x4 + (1 : Int32))), (0, .ref (eA E 47)), (2, .int x2), (3, .int x3)]) hx hb dX6_workOutAggregates_102 hl (k := 3) rfl rfl (by decide) rfl (fun ls hl => ?_)
    refine lv_goto (tgt := 79) hx hb dX6_workOutAggregates_105 (by decide) ?_
    exact hB79 r17 x2 x3 (x4 + (1 : Int32)) h _ (lv_sub hl [1, 2, 3, 0] rfl) _ _ hP hD hS
def f_X6_workOutAggregates_79 (K108 : QS → Int32 → Int32 → Option (QS)) : Nat → QS → Int32 → Int32 → Int32 → Option (QS)
  | 0 => fun _ _ _ _ => none
  | n + 1 => f_X6_workOutAggregates_79_b K108 (f_X6_workOutAggregates_79 K108 n)
theorem g_X6_workOutAggregates_79 {E : En} {p : Program} {l : Launch} {e : Env} {s : State} {m : MethodId} {args : Array Value} {below : List Frame} {meth : Method} {c : Code} {A : Nat → Prop} {Q : State → Prop} (F : Fx E p s m args meth c (yX6_workOutAggregates).cls cX6_workOutAggregates 5 none) (hA : ∀ z : Nat, s.heap.size ≤ z → A z) {o : QS} (hRt : RtV (wX E) E p l e rm_X6_workOutAggregates s m args below meth c A Q cX6_workOutAggregates o) {K108 : QS → Int32 → Int32 → Option (QS)} (hK108 : ∀ (q : QS) (x2 : Int32) (x3 : Int32), K108 q x2 x3 = some o → ∀ ls : Array Slot, lv_has ls 5 [(0, .ref (eA E 47)), (2, .int x2), (3, .int x3)] → Wq (wX E) E p l e rm_X6_workOutAggregates s m args below meth c A 0 0 Q q (F0 m 108 ls [])) (n : Nat) : ∀ (q : QS) (x2 : Int32) (x3 : Int32) (x4 : Int32), f_X6_workOutAggregates_79 K108 n q x2 x3 x4 = some o → ∀ ls : Array Slot, lv_has ls 5 [(0, .ref (eA E 47)), (2, .int x2), (3, .int x3), (4, .int x4)] → Wq (wX E) E p l e rm_X6_workOutAggregates s m args below meth c A 0 0 Q q (F0 m 79 ls []) := by
  induction n with
  | zero => intro q x2 x3 x4 h; cases h
  | succ n ih => intro q x2 x3 x4 h; exact g_X6_workOutAggregates_79_b F hA hRt hK108 ih q x2 x3 x4 h
def f_X6_workOutAggregates_108 (B33 : QS → Int32 → Int32 → Option (QS)) (q : QS) (x2 : Int32) (x3 : Int32) : Option (QS) :=
  (rd (qI q 51) (qC q) x2).bind fun y19 =>
  B33 q y19 (x3 + (1 : Int32))
set_option maxHeartbeats 4000000 in
set_option maxRecDepth 100000 in
theorem g_X6_workOutAggregates_108 {E : En} {p : Program} {l : Launch} {e : Env} {s : State} {m : MethodId} {args : Array Value} {below : List Frame} {meth : Method} {c : Code} {A : Nat → Prop} {Q : State → Prop} (F : Fx E p s m args meth c (yX6_workOutAggregates).cls cX6_workOutAggregates 5 none) (hA : ∀ z : Nat, s.heap.size ≤ z → A z) {o : QS} (hRt : RtV (wX E) E p l e rm_X6_workOutAggregates s m args below meth c A Q cX6_workOutAggregates o) {B33 : QS → Int32 → Int32 → Option (QS)} (hB33 : ∀ (q : QS) (x2 : Int32) (x3 : Int32), B33 q x2 x3 = some o → ∀ ls : Array Slot, lv_has ls 5 [(0, .ref (eA E 47)), (2, .int x2), (3, .int x3)] → Wq (wX E) E p l e rm_X6_workOutAggregates s m args below meth c A 0 0 Q q (F0 m 33 ls [])) (q : QS) (x2 : Int32) (x3 : Int32) (h : f_X6_workOutAggregates_108 B33 q x2 x3 = some o) (ls : Array Slot) (hl : lv_has ls 5 [(0, .ref (eA E 47)), (2, .int x2), (3, .int x3)]) : Wq (wX E) E p l e rm_X6_workOutAggregates s m args below meth c A 0 0 Q q (F0 m 108 ls []) := by
  intro H locs hP hD hS
  have hx := F.1
  have hb := F.2.1
  unfold f_X6_workOutAggregates_108 at h
  refine lv_aload_n hx hb dX6_workOutAggregates_108 rfl (lv_at hl 0 rfl) ?_
  refine r_get F hP i_X6 47 (xe_47 E q) rfl 9 (by decide) rfl lf_X6_54 rfl dX6_workOutAggregates_109 ?_
  refine r_get F hP i_X5 49 (xe_49 E q) rfl 2 (by decide) rfl lf_X6_259 rfl dX6_workOutAggregates_112 ?_
  refine lv_iload_n hx hb dX6_workOutAggregates_115 rfl (lv_at hl 1 rfl) ?_
  obtain ⟨y19, e20, h⟩ := Option.bind_eq_some_iff.mp h
  refine r_iald F hP 51 (xe_51 E q) e20 dX6_workOutAggregates_116 ?_
  refine lv_istore_n (lv' := [(2, .int y19), (0, .ref (eA E 47)), (3, .int x3)]) hx hb dX6_workOutAggregates_117 rfl hl (by decide) rfl (fun ls hl => ?_)
  refine lv_iinc (v := (x3 + (1 : Int32))) (lv' := [(3, .int (x3 + (1 : Int32))), (2, .int y19), (0, .ref (eA E 47))]) hx hb dX6_workOutAggregates_118 hl (k := 2) rfl rfl (by decide) rfl (fun ls hl => ?_)
  refine lv_goto (tgt := 33) hx hb dX6_workOutAggregates_121 (by decide) ?_
  exact hB33 q y19 (x3 + (1 : Int32)) h _ (lv_sub hl [2, 1, 0] rfl) _ _ hP hD hS
def f_X6_workOutAggregates_33_b (B33 : QS → Int32 → Int32 → Option (QS)) (q : QS) (x2 : Int32) (x3 : Int32) : Option (QS) :=
  if (qF q 12) ≤ x3 then
    some q
  else
    if x2 = (-1 : Int32) then
      some q
    else
      (rd (qI q 50) (qC q) x2).bind fun y8 =>
      (f_X1_goTo q y8).bind fun r10 =>
      (f_X1_workOut 1 r10).bind fun r12 =>
      f_X6_workOutAggregates_79 (f_X6_workOutAggregates_108 B33) FU r12 x2 x3 (0 : Int32)
set_option maxHeartbeats 4000000 in
set_option maxRecDepth 100000 in
theorem g_X6_workOutAggregates_33_b {E : En} {p : Program} {l : Launch} {e : Env} {s : State} {m : MethodId} {args : Array Value} {below : List Frame} {meth : Method} {c : Code} {A : Nat → Prop} {Q : State → Prop} (F : Fx E p s m args meth c (yX6_workOutAggregates).cls cX6_workOutAggregates 5 none) (hA : ∀ z : Nat, s.heap.size ≤ z → A z) {o : QS} (hRt : RtV (wX E) E p l e rm_X6_workOutAggregates s m args below meth c A Q cX6_workOutAggregates o) {B33 : QS → Int32 → Int32 → Option (QS)} (hB33 : ∀ (q : QS) (x2 : Int32) (x3 : Int32), B33 q x2 x3 = some o → ∀ ls : Array Slot, lv_has ls 5 [(0, .ref (eA E 47)), (2, .int x2), (3, .int x3)] → Wq (wX E) E p l e rm_X6_workOutAggregates s m args below meth c A 0 0 Q q (F0 m 33 ls [])) (q : QS) (x2 : Int32) (x3 : Int32) (h : f_X6_workOutAggregates_33_b B33 q x2 x3 = some o) (ls : Array Slot) (hl : lv_has ls 5 [(0, .ref (eA E 47)), (2, .int x2), (3, .int x3)]) : Wq (wX E) E p l e rm_X6_workOutAggregates s m args below meth c A 0 0 Q q (F0 m 33 ls []) := by
  intro H locs hP hD hS
  have hx := F.1
  have hb := F.2.1
  unfold f_X6_workOutAggregates_33_b at h
  refine lv_iload_n hx hb dX6_workOutAggregates_33 rfl (lv_at hl 2 rfl) ?_
  refine lv_aload_n hx hb dX6_workOutAggregates_34 rfl (lv_at hl 0 rfl) ?_
  refine r_get F hP i_X6 47 (xe_47 E q) rfl 9 (by decide) rfl lf_X6_54 rfl dX6_workOutAggregates_35 ?_
  refine r_get F hP i_X5 49 (xe_49 E q) rfl 0 (by decide) rfl lf_X6_121 rfl dX6_workOutAggregates_38 ?_
  refine lv_icmp_ge (tgt := 124) hx hb dX6_workOutAggregates_41 (by decide) (fun c6 => ?_) (fun c6 => ?_)
  · rw [if_pos c6] at h
    cases h
    exact hRt _ _ dX6_workOutAggregates_124 _ _ hP hD hS
  · rw [if_neg c6] at h
    refine lv_iload_n hx hb dX6_workOutAggregates_44 rfl (lv_at hl 1 rfl) ?_
    refine lv_iconst (v := (-1)) hx hb dX6_workOutAggregates_45 (by decide) ?_
    refine lv_icmp_eq (tgt := 124) hx hb dX6_workOutAggregates_46 (by decide) (fun c7 => ?_) (fun c7 => ?_)
    · rw [if_pos c7] at h
      cases h
      exact hRt _ _ dX6_workOutAggregates_124 _ _ hP hD hS
    · rw [if_neg c7] at h
      refine lv_aload_n hx hb dX6_workOutAggregates_49 rfl (lv_at hl 0 rfl) ?_
      refine r_get F hP i_X6 47 (xe_47 E q) rfl 3 (by decide) rfl lf_X6_45 rfl dX6_workOutAggregates_50 ?_
      refine lv_aload_n hx hb dX6_workOutAggregates_53 rfl (lv_at hl 0 rfl) ?_
      refine r_get F hP i_X6 47 (xe_47 E q) rfl 9 (by decide) rfl lf_X6_54 rfl dX6_workOutAggregates_54 ?_
      refine r_get F hP i_X5 49 (xe_49 E q) rfl 1 (by decide) rfl lf_X6_153 rfl dX6_workOutAggregates_57 ?_
      refine lv_iload_n hx hb dX6_workOutAggregates_60 rfl (lv_at hl 1 rfl) ?_
      obtain ⟨y8, e9, h⟩ := Option.bind_eq_some_iff.mp h
      refine r_iald F hP 50 (xe_50 E q) e9 dX6_workOutAggregates_61 ?_
      obtain ⟨r10, e11, h⟩ := Option.bind_eq_some_iff.mp h
      refine q_callV (As := [.int y8]) (rest := []) F hA hP hD hS (c_X1_goTo (E := E) (l := l) q y8 e11) k_X1_goTo in_X1_goTo se_X1_goTo lm_X6_156 45 (xe_45 E q) rfl ⟨rfl, rfl⟩ ⟨by decide, by decide⟩ rfl hl.1 rfl (Nat.le_of_ble_eq_true rfl) dX6_workOutAggregates_62 ⟨by decide, by decide⟩ ?_
      intro H locs hP hD hS
      refine lv_aload_n hx hb dX6_workOutAggregates_65 rfl (lv_at hl 0 rfl) ?_
      refine r_get F hP i_X6 47 (xe_47 E r10) rfl 3 (by decide) rfl lf_X6_45 rfl dX6_workOutAggregates_66 ?_
      refine lv_aload_n hx hb dX6_workOutAggregates_69 rfl (lv_at hl 0 rfl) ?_
      refine r_get F hP i_X6 47 (xe_47 E r10) rfl 5 (by decide) rfl lf_X6_18 rfl dX6_workOutAggregates_70 ?_
      obtain ⟨r12, e13, h⟩ := Option.bind_eq_some_iff.mp h
      refine q_callV (As := [.ref (eA E 18)]) (rest := []) F hA hP hD hS (c_X1_workOut (E := E) (l := l) (u := 1) (by decide) r10 e13) k_X1_workOut in_X1_workOut se_X1_workOut lm_X6_159 45 (xe_45 E r10) rfl ⟨rfl, rfl⟩ ⟨by decide, by decide⟩ rfl hl.1 rfl (Nat.le_of_ble_eq_true rfl) dX6_workOutAggregates_73 ⟨by decide, by decide⟩ ?_
      intro H locs hP hD hS
      refine lv_iconst (v := 0) hx hb dX6_workOutAggregates_76 (by decide) ?_
      refine lv_istore (lv' := [(4, .int (0 : Int32)), (0, .ref (eA E 47)), (2, .int x2), (3, .int x3)]) hx hb dX6_workOutAggregates_77 hl (by decide) rfl (fun ls hl => ?_)
      exact g_X6_workOutAggregates_79 F hA hRt (g_X6_workOutAggregates_108 F hA hRt hB33) FU r12 x2 x3 (0 : Int32) h _ (lv_sub hl [1, 2, 3, 0] rfl) _ _ hP hD hS
def f_X6_workOutAggregates_33 : Nat → QS → Int32 → Int32 → Option (QS)
  | 0 => fun _ _ _ => none
  | n + 1 => f_X6_workOutAggregates_33_b (f_X6_workOutAggregates_33 n)
theorem g_X6_workOutAggregates_33 {E : En} {p : Program} {l : Launch} {e : Env} {s : State} {m : MethodId} {args : Array Value} {below : List Frame} {meth : Method} {c : Code} {A : Nat → Prop} {Q : State → Prop} (F : Fx E p s m args meth c (yX6_workOutAggregates).cls cX6_workOutAggregates 5 none) (hA : ∀ z : Nat, s.heap.size ≤ z → A z) {o : QS} (hRt : RtV (wX E) E p l e rm_X6_workOutAggregates s m args below meth c A Q cX6_workOutAggregates o) (n : Nat) : ∀ (q : QS) (x2 : Int32) (x3 : Int32), f_X6_workOutAggregates_33 n q x2 x3 = some o → ∀ ls : Array Slot, lv_has ls 5 [(0, .ref (eA E 47)), (2, .int x2), (3, .int x3)] → Wq (wX E) E p l e rm_X6_workOutAggregates s m args below meth c A 0 0 Q q (F0 m 33 ls []) := by
  induction n with
  | zero => intro q x2 x3 h; cases h
  | succ n ih => intro q x2 x3 h; exact g_X6_workOutAggregates_33_b F hA hRt ih q x2 x3 h
def f_X6_workOutAggregates_29 (q : QS) (x1 : Int32) : Option (QS) :=
  f_X6_workOutAggregates_33 FU q x1 (0 : Int32)
set_option maxHeartbeats 4000000 in
set_option maxRecDepth 100000 in
theorem g_X6_workOutAggregates_29 {E : En} {p : Program} {l : Launch} {e : Env} {s : State} {m : MethodId} {args : Array Value} {below : List Frame} {meth : Method} {c : Code} {A : Nat → Prop} {Q : State → Prop} (F : Fx E p s m args meth c (yX6_workOutAggregates).cls cX6_workOutAggregates 5 none) (hA : ∀ z : Nat, s.heap.size ≤ z → A z) {o : QS} (hRt : RtV (wX E) E p l e rm_X6_workOutAggregates s m args below meth c A Q cX6_workOutAggregates o) (q : QS) (x1 : Int32) (h : f_X6_workOutAggregates_29 q x1 = some o) (ls : Array Slot) (hl : lv_has ls 5 [(0, .ref (eA E 47)), (1, .int x1)]) : Wq (wX E) E p l e rm_X6_workOutAggregates s m args below meth c A 0 0 Q q (F0 m 29 ls []) := by
  intro H locs hP hD hS
  have hx := F.1
  have hb := F.2.1
  unfold f_X6_workOutAggregates_29 at h
  refine lv_iload_n hx hb dX6_workOutAggregates_29 rfl (lv_at hl 1 rfl) ?_
  refine lv_istore_n (lv' := [(2, .int x1), (0, .ref (eA E 47)), (1, .int x1)]) hx hb dX6_workOutAggregates_30 rfl hl (by decide) rfl (fun ls hl => ?_)
  refine lv_iconst (v := 0) hx hb dX6_workOutAggregates_31 (by decide) ?_
  refine lv_istore_n (lv' := [(3, .int (0 : Int32)), (2, .int x1), (0, .ref (eA E 47)), (1, .int x1)]) hx hb dX6_workOutAggregates_32 rfl hl (by decide) rfl (fun ls hl => ?_)
  exact g_X6_workOutAggregates_33 F hA hRt FU q x1 (0 : Int32) h _ (lv_sub hl [2, 1, 0] rfl) _ _ hP hD hS
def f_X6_workOutAggregates_0 (q : QS) (x1 : Int32) : Option (QS) :=
  f_X6_workOutAggregates_2 (f_X6_workOutAggregates_29) FU q x1 (0 : Int32)
set_option maxHeartbeats 4000000 in
set_option maxRecDepth 100000 in
theorem g_X6_workOutAggregates_0 {E : En} {p : Program} {l : Launch} {e : Env} {s : State} {m : MethodId} {args : Array Value} {below : List Frame} {meth : Method} {c : Code} {A : Nat → Prop} {Q : State → Prop} (F : Fx E p s m args meth c (yX6_workOutAggregates).cls cX6_workOutAggregates 5 none) (hA : ∀ z : Nat, s.heap.size ≤ z → A z) {o : QS} (hRt : RtV (wX E) E p l e rm_X6_workOutAggregates s m args below meth c A Q cX6_workOutAggregates o) (q : QS) (x1 : Int32) (h : f_X6_workOutAggregates_0 q x1 = some o) (ls : Array Slot) (hl : lv_has ls 5 [(0, .ref (eA E 47)), (1, .int x1)]) : Wq (wX E) E p l e rm_X6_workOutAggregates s m args below meth c A 0 0 Q q (F0 m 0 ls []) := by
  intro H locs hP hD hS
  have hx := F.1
  have hb := F.2.1
  unfold f_X6_workOutAggregates_0 at h
  refine lv_iconst (v := 0) hx hb dX6_workOutAggregates_0 (by decide) ?_
  refine lv_istore_n (lv' := [(2, .int (0 : Int32)), (0, .ref (eA E 47)), (1, .int x1)]) hx hb dX6_workOutAggregates_1 rfl hl (by decide) rfl (fun ls hl => ?_)
  exact g_X6_workOutAggregates_2 F hA hRt (g_X6_workOutAggregates_29 F hA hRt) FU q x1 (0 : Int32) h _ (lv_sub hl [1, 2, 0] rfl) _ _ hP hD hS
def f_X6_workOutAggregates (q : QS) (x1 : Int32) : Option (QS) := f_X6_workOutAggregates_0 q x1
set_option maxRecDepth 100000 in
theorem c_X6_workOutAggregates {E : En} {l : Launch} (q : QS) (x1 : Int32) {o : QS} (h : f_X6_workOutAggregates q x1 = some o) : Ct (wX E) E l yX6_workOutAggregates (wy yX6_workOutAggregates cX6_workOutAggregates 5 none) rm_X6_workOutAggregates q o [.ref (eA E 47), .int x1] none :=
  ct_V (o := o) (by decide +kernel) (fun p e s m below meth c A Q F hA hRt H locs hP hD hS => en_W [.ref (eA E 47), .int x1] (Nat.le_of_ble_eq_true rfl) (fun ls hl => g_X6_workOutAggregates_0 F hA hRt q x1 h ls (lv_sub hl [0, 1] rfl) H locs hP hD hS))
def rm_X6_workOutRow : Room := { frames := 5, cells := 0, slots := 0, locals := 121 }
def f_X6_workOutRow_56_b (B56 : QS → Int32 → Int32 → Option (QS)) (q : QS) (x1 : Int32) (x3 : Int32) : Option (QS) :=
  if (qF q 6) ≤ x3 then
    some q
  else
    (f_X5_placeOf x1 x3).bind fun r8 =>
    (rd (qI q 39) 8 x3).bind fun y10 =>
    (f_X8_copy 4 2 q r8 y10).bind fun r12 =>
    B56 r12 x1 (x3 + (1 : Int32))
set_option maxHeartbeats 4000000 in
set_option maxRecDepth 100000 in
theorem g_X6_workOutRow_56_b {E : En} {p : Program} {l : Launch} {e : Env} {s : State} {m : MethodId} {args : Array Value} {below : List Frame} {meth : Method} {c : Code} {A : Nat → Prop} {Q : State → Prop} (F : Fx E p s m args meth c (yX6_workOutRow).cls cX6_workOutRow 4 none) (hA : ∀ z : Nat, s.heap.size ≤ z → A z) {o : QS} (hRt : RtV (wX E) E p l e rm_X6_workOutRow s m args below meth c A Q cX6_workOutRow o) {B56 : QS → Int32 → Int32 → Option (QS)} (hB56 : ∀ (q : QS) (x1 : Int32) (x3 : Int32), B56 q x1 x3 = some o → ∀ ls : Array Slot, lv_has ls 4 [(0, .ref (eA E 47)), (1, .int x1), (3, .int x3)] → Wq (wX E) E p l e rm_X6_workOutRow s m args below meth c A 0 0 Q q (F0 m 56 ls [])) (q : QS) (x1 : Int32) (x3 : Int32) (h : f_X6_workOutRow_56_b B56 q x1 x3 = some o) (ls : Array Slot) (hl : lv_has ls 4 [(0, .ref (eA E 47)), (1, .int x1), (3, .int x3)]) : Wq (wX E) E p l e rm_X6_workOutRow s m args below meth c A 0 0 Q q (F0 m 56 ls []) := by
  intro H locs hP hD hS
  have hx := F.1
  have hb := F.2.1
  unfold f_X6_workOutRow_56_b at h
  refine lv_iload_n hx hb dX6_workOutRow_56 rfl (lv_at hl 2 rfl) ?_
  refine lv_aload_n hx hb dX6_workOutRow_57 rfl (lv_at hl 0 rfl) ?_
  refine r_get F hP i_X6 47 (xe_47 E q) rfl 2 (by decide) rfl lf_X6_36 rfl dX6_workOutRow_58 ?_
  refine r_get F hP i_X4 38 (xe_38 E q) rfl 0 (by decide) rfl lf_X6_77 rfl dX6_workOutRow_61 ?_
  refine lv_icmp_ge (tgt := 104) hx hb dX6_workOutRow_64 (by decide) (fun c7 => ?_) (fun c7 => ?_)
  · rw [if_pos c7] at h
    cases h
    exact hRt _ _ dX6_workOutRow_104 _ _ hP hD hS
  · rw [if_neg c7] at h
    refine lv_aload_n hx hb dX6_workOutRow_67 rfl (lv_at hl 0 rfl) ?_
    refine r_get F hP i_X6 47 (xe_47 E q) rfl 9 (by decide) rfl lf_X6_54 rfl dX6_workOutRow_68 ?_
    refine r_get F hP i_X5 49 (xe_49 E q) rfl 9 (by decide) rfl lf_X6_246 rfl dX6_workOutRow_71 ?_
    refine lv_iload_n hx hb dX6_workOutRow_74 rfl (lv_at hl 1 rfl) ?_
    refine lv_iload_n hx hb dX6_workOutRow_75 rfl (lv_at hl 2 rfl) ?_
    obtain ⟨r8, e9, h⟩ := Option.bind_eq_some_iff.mp h
    refine q_callS (As := [.int x1, .int x3]) (rest := [.ref (eA E 12)]) F hA hP hD hS (c_X5_placeOf (E := E) (l := l) q x1 x3 e9) k_X5_placeOf st_X5_placeOf lm_X6_247 ⟨rfl, rfl⟩ ⟨by decide, by decide⟩ rfl hl.1 rfl (Nat.le_of_ble_eq_true rfl) dX6_workOutRow_76 ⟨by decide, by decide⟩ ?_
    intro H locs hP hD hS
    refine lv_aload_n hx hb dX6_workOutRow_79 rfl (lv_at hl 0 rfl) ?_
    refine r_get F hP i_X6 47 (xe_47 E q) rfl 1 (by decide) rfl lf_X6_32 rfl dX6_workOutRow_80 ?_
    refine r_get F hP i_X2 29 (xe_29 E q) rfl 9 (by decide) rfl lf_X6_163 rfl dX6_workOutRow_83 ?_
    refine lv_aload_n hx hb dX6_workOutRow_86 rfl (lv_at hl 0 rfl) ?_
    refine r_get F hP i_X6 47 (xe_47 E q) rfl 2 (by decide) rfl lf_X6_36 rfl dX6_workOutRow_87 ?_
    refine r_get F hP i_X4 38 (xe_38 E q) rfl 6 (by decide) rfl lf_X6_80 rfl dX6_workOutRow_90 ?_
    refine lv_iload_n hx hb dX6_workOutRow_93 rfl (lv_at hl 2 rfl) ?_
    obtain ⟨y10, e11, h⟩ := Option.bind_eq_some_iff.mp h
    refine r_iald F hP 39 (xe_39 E q) e11 dX6_workOutRow_94 ?_
    obtain ⟨r12, e13, h⟩ := Option.bind_eq_some_iff.mp h
    refine q_callV (As := [.int r8, .ref (eA E 6), .int y10]) (rest := []) F hA hP hD hS (c_X8_copy (E := E) (l := l) (v := 4) (by decide) (u := 2) (by decide) q r8 y10 e13) k_X8_copy in_X8_copy se_X8_copy lm_X6_249 12 (xe_12 E q) rfl ⟨rfl, rfl⟩ ⟨by decide, by decide⟩ rfl hl.1 rfl (Nat.le_of_ble_eq_true rfl) dX6_workOutRow_95 ⟨by decide, by decide⟩ ?_
    intro H locs hP hD hS
    refine lv_iinc (v := (x3 + (1 : Int32))) (lv' := [(3, .int (x3 + (1 : Int32))), (0, .ref (eA E 47)), (1, .int x1)]) hx hb dX6_workOutRow_98 hl (k := 2) rfl rfl (by decide) rfl (fun ls hl => ?_)
    refine lv_goto (tgt := 56) hx hb dX6_workOutRow_101 (by decide) ?_
    exact hB56 r12 x1 (x3 + (1 : Int32)) h _ (lv_sub hl [1, 2, 0] rfl) _ _ hP hD hS
def f_X6_workOutRow_56 : Nat → QS → Int32 → Int32 → Option (QS)
  | 0 => fun _ _ _ => none
  | n + 1 => f_X6_workOutRow_56_b (f_X6_workOutRow_56 n)
theorem g_X6_workOutRow_56 {E : En} {p : Program} {l : Launch} {e : Env} {s : State} {m : MethodId} {args : Array Value} {below : List Frame} {meth : Method} {c : Code} {A : Nat → Prop} {Q : State → Prop} (F : Fx E p s m args meth c (yX6_workOutRow).cls cX6_workOutRow 4 none) (hA : ∀ z : Nat, s.heap.size ≤ z → A z) {o : QS} (hRt : RtV (wX E) E p l e rm_X6_workOutRow s m args below meth c A Q cX6_workOutRow o) (n : Nat) : ∀ (q : QS) (x1 : Int32) (x3 : Int32), f_X6_workOutRow_56 n q x1 x3 = some o → ∀ ls : Array Slot, lv_has ls 4 [(0, .ref (eA E 47)), (1, .int x1), (3, .int x3)] → Wq (wX E) E p l e rm_X6_workOutRow s m args below meth c A 0 0 Q q (F0 m 56 ls []) := by
  induction n with
  | zero => intro q x1 x3 h; cases h
  | succ n ih => intro q x1 x3 h; exact g_X6_workOutRow_56_b F hA hRt ih q x1 x3 h
def f_X6_workOutRow_43 (q : QS) (x1 : Int32) : Option (QS) :=
  (f_X1_workOut 2 q).bind fun r5 =>
  f_X6_workOutRow_56 FU r5 x1 (0 : Int32)
set_option maxHeartbeats 4000000 in
set_option maxRecDepth 100000 in
theorem g_X6_workOutRow_43 {E : En} {p : Program} {l : Launch} {e : Env} {s : State} {m : MethodId} {args : Array Value} {below : List Frame} {meth : Method} {c : Code} {A : Nat → Prop} {Q : State → Prop} (F : Fx E p s m args meth c (yX6_workOutRow).cls cX6_workOutRow 4 none) (hA : ∀ z : Nat, s.heap.size ≤ z → A z) {o : QS} (hRt : RtV (wX E) E p l e rm_X6_workOutRow s m args below meth c A Q cX6_workOutRow o) (q : QS) (x1 : Int32) (h : f_X6_workOutRow_43 q x1 = some o) (ls : Array Slot) (hl : lv_has ls 4 [(0, .ref (eA E 47)), (1, .int x1)]) : Wq (wX E) E p l e rm_X6_workOutRow s m args below meth c A 0 0 Q q (F0 m 43 ls []) := by
  intro H locs hP hD hS
  have hx := F.1
  have hb := F.2.1
  unfold f_X6_workOutRow_43 at h
  refine lv_aload_n hx hb dX6_workOutRow_43 rfl (lv_at hl 0 rfl) ?_
  refine r_get F hP i_X6 47 (xe_47 E q) rfl 3 (by decide) rfl lf_X6_45 rfl dX6_workOutRow_44 ?_
  refine lv_aload_n hx hb dX6_workOutRow_47 rfl (lv_at hl 0 rfl) ?_
  refine r_get F hP i_X6 47 (xe_47 E q) rfl 6 (by decide) rfl lf_X6_21 rfl dX6_workOutRow_48 ?_
  obtain ⟨r5, e6, h⟩ := Option.bind_eq_some_iff.mp h
  refine q_callV (As := [.ref (eA E 21)]) (rest := []) F hA hP hD hS (c_X1_workOut (E := E) (l := l) (u := 2) (by decide) q e6) k_X1_workOut in_X1_workOut se_X1_workOut lm_X6_159 45 (xe_45 E q) rfl ⟨rfl, rfl⟩ ⟨by decide, by decide⟩ rfl hl.1 rfl (Nat.le_of_ble_eq_true rfl) dX6_workOutRow_51 ⟨by decide, by decide⟩ ?_
  intro H locs hP hD hS
  refine lv_iconst (v := 0) hx hb dX6_workOutRow_54 (by decide) ?_
  refine lv_istore_n (lv' := [(3, .int (0 : Int32)), (0, .ref (eA E 47)), (1, .int x1)]) hx hb dX6_workOutRow_55 rfl hl (by decide) rfl (fun ls hl => ?_)
  exact g_X6_workOutRow_56 F hA hRt FU r5 x1 (0 : Int32) h _ (lv_sub hl [1, 2, 0] rfl) _ _ hP hD hS
def f_X6_workOutRow_22 (q : QS) (x1 : Int32) (x2 : Int32) : Option (QS) :=
  if x2 = (-1 : Int32) then
    f_X6_workOutRow_43 q x1
  else
    (rd (qI q 50) (qC q) x2).bind fun y14 =>
    (f_X1_goTo q y14).bind fun r16 =>
    f_X6_workOutRow_43 r16 x1
set_option maxHeartbeats 4000000 in
set_option maxRecDepth 100000 in
theorem g_X6_workOutRow_22 {E : En} {p : Program} {l : Launch} {e : Env} {s : State} {m : MethodId} {args : Array Value} {below : List Frame} {meth : Method} {c : Code} {A : Nat → Prop} {Q : State → Prop} (F : Fx E p s m args meth c (yX6_workOutRow).cls cX6_workOutRow 4 none) (hA : ∀ z : Nat, s.heap.size ≤ z → A z) {o : QS} (hRt : RtV (wX E) E p l e rm_X6_workOutRow s m args below meth c A Q cX6_workOutRow o) (q : QS) (x1 : Int32) (x2 : Int32) (h : f_X6_workOutRow_22 q x1 x2 = some o) (ls : Array Slot) (hl : lv_has ls 4 [(0, .ref (eA E 47)), (1, .int x1), (2, .int x2)]) : Wq (wX E) E p l e rm_X6_workOutRow s m args below meth c A 0 0 Q q (F0 m 22 ls []) := by
  intro H locs hP hD hS
  have hx := F.1
  have hb := F.2.1
  unfold f_X6_workOutRow_22 at h
  refine lv_iload_n hx hb dX6_workOutRow_22 rfl (lv_at hl 2 rfl) ?_
  refine lv_iconst (v := (-1)) hx hb dX6_workOutRow_23 (by decide) ?_
  refine lv_icmp_eq (tgt := 43) hx hb dX6_workOutRow_24 (by decide) (fun c4 => ?_) (fun c4 => ?_)
  · rw [if_pos c4] at h
    exact g_X6_workOutRow_43 F hA hRt q x1 h _ (lv_sub hl [0, 1] rfl) _ _ hP hD hS
  · rw [if_neg c4] at h
    refine lv_aload_n hx hb dX6_workOutRow_27 rfl (lv_at hl 0 rfl) ?_
    refine r_get F hP i_X6 47 (xe_47 E q) rfl 3 (by decide) rfl lf_X6_45 rfl dX6_workOutRow_28 ?_
    refine lv_aload_n hx hb dX6_workOutRow_31 rfl (lv_at hl 0 rfl) ?_
    refine r_get F hP i_X6 47 (xe_47 E q) rfl 9 (by decide) rfl lf_X6_54 rfl dX6_workOutRow_32 ?_
    refine r_get F hP i_X5 49 (xe_49 E q) rfl 1 (by decide) rfl lf_X6_153 rfl dX6_workOutRow_35 ?_
    refine lv_iload_n hx hb dX6_workOutRow_38 rfl (lv_at hl 2 rfl) ?_
    obtain ⟨y14, e15, h⟩ := Option.bind_eq_some_iff.mp h
    refine r_iald F hP 50 (xe_50 E q) e15 dX6_workOutRow_39 ?_
    obtain ⟨r16, e17, h⟩ := Option.bind_eq_some_iff.mp h
    refine q_callV (As := [.int y14]) (rest := []) F hA hP hD hS (c_X1_goTo (E := E) (l := l) q y14 e17) k_X1_goTo in_X1_goTo se_X1_goTo lm_X6_156 45 (xe_45 E q) rfl ⟨rfl, rfl⟩ ⟨by decide, by decide⟩ rfl hl.1 rfl (Nat.le_of_ble_eq_true rfl) dX6_workOutRow_40 ⟨by decide, by decide⟩ ?_
    intro H locs hP hD hS
    exact g_X6_workOutRow_43 F hA hRt r16 x1 h _ (lv_sub hl [0, 1] rfl) _ _ hP hD hS
def f_X6_workOutRow_0 (q : QS) (x1 : Int32) : Option (QS) :=
  (rd (qI q 52) (qC q) x1).bind fun y1 =>
  if (qF q 13) ≤ 0 then
    f_X6_workOutRow_22 q x1 y1
  else
    (f_X6_workOutAggregates q y1).bind fun r18 =>
    f_X6_workOutRow_22 r18 x1 y1
set_option maxHeartbeats 4000000 in
set_option maxRecDepth 100000 in
theorem g_X6_workOutRow_0 {E : En} {p : Program} {l : Launch} {e : Env} {s : State} {m : MethodId} {args : Array Value} {below : List Frame} {meth : Method} {c : Code} {A : Nat → Prop} {Q : State → Prop} (F : Fx E p s m args meth c (yX6_workOutRow).cls cX6_workOutRow 4 none) (hA : ∀ z : Nat, s.heap.size ≤ z → A z) {o : QS} (hRt : RtV (wX E) E p l e rm_X6_workOutRow s m args below meth c A Q cX6_workOutRow o) (q : QS) (x1 : Int32) (h : f_X6_workOutRow_0 q x1 = some o) (ls : Array Slot) (hl : lv_has ls 4 [(0, .ref (eA E 47)), (1, .int x1)]) : Wq (wX E) E p l e rm_X6_workOutRow s m args below meth c A 0 0 Q q (F0 m 0 ls []) := by
  intro H locs hP hD hS
  have hx := F.1
  have hb := F.2.1
  unfold f_X6_workOutRow_0 at h
  refine lv_aload_n hx hb dX6_workOutRow_0 rfl (lv_at hl 0 rfl) ?_
  refine r_get F hP i_X6 47 (xe_47 E q) rfl 9 (by decide) rfl lf_X6_54 rfl dX6_workOutRow_1 ?_
  refine r_get F hP i_X5 49 (xe_49 E q) rfl 3 (by decide) rfl lf_X6_209 rfl dX6_workOutRow_4 ?_
  refine lv_iload_n hx hb dX6_workOutRow_7 rfl (lv_at hl 1 rfl) ?_
  obtain ⟨y1, e2, h⟩ := Option.bind_eq_some_iff.mp h
  refine r_iald F hP 52 (xe_52 E q) e2 dX6_workOutRow_8 ?_
  refine lv_istore_n (lv' := [(2, .int y1), (0, .ref (eA E 47)), (1, .int x1)]) hx hb dX6_workOutRow_9 rfl hl (by decide) rfl (fun ls hl => ?_)
  refine lv_aload_n hx hb dX6_workOutRow_10 rfl (lv_at hl 1 rfl) ?_
  refine r_get F hP i_X6 47 (xe_47 E q) rfl 8 (by decide) rfl lf_X6_83 rfl dX6_workOutRow_11 ?_
  refine lv_if_le (tgt := 22) hx hb dX6_workOutRow_14 (by decide) (fun c3 => ?_) (fun c3 => ?_)
  · rw [if_pos c3] at h
    exact g_X6_workOutRow_22 F hA hRt q x1 y1 h _ (lv_sub hl [1, 2, 0] rfl) _ _ hP hD hS
  · rw [if_neg c3] at h
    refine lv_aload_n hx hb dX6_workOutRow_17 rfl (lv_at hl 1 rfl) ?_
    refine lv_iload_n hx hb dX6_workOutRow_18 rfl (lv_at hl 0 rfl) ?_
    obtain ⟨r18, e19, h⟩ := Option.bind_eq_some_iff.mp h
    refine q_callV (As := [.int y1]) (rest := []) F hA hP hD hS (c_X6_workOutAggregates (E := E) (l := l) q y1 e19) k_X6_workOutAggregates in_X6_workOutAggregates se_X6_workOutAggregates lm_X6_243 47 (xe_47 E q) rfl ⟨rfl, rfl⟩ ⟨by decide, by decide⟩ rfl hl.1 rfl (Nat.le_of_ble_eq_true rfl) dX6_workOutRow_19 ⟨by decide, by decide⟩ ?_
    intro H locs hP hD hS
    exact g_X6_workOutRow_22 F hA hRt r18 x1 y1 h _ (lv_sub hl [1, 2, 0] rfl) _ _ hP hD hS
def f_X6_workOutRow (q : QS) (x1 : Int32) : Option (QS) := f_X6_workOutRow_0 q x1
set_option maxRecDepth 100000 in
theorem c_X6_workOutRow {E : En} {l : Launch} (q : QS) (x1 : Int32) {o : QS} (h : f_X6_workOutRow q x1 = some o) : Ct (wX E) E l yX6_workOutRow (wy yX6_workOutRow cX6_workOutRow 4 none) rm_X6_workOutRow q o [.ref (eA E 47), .int x1] none :=
  ct_V (o := o) (by decide +kernel) (fun p e s m below meth c A Q F hA hRt H locs hP hD hS => en_W [.ref (eA E 47), .int x1] (Nat.le_of_ble_eq_true rfl) (fun ls hl => g_X6_workOutRow_0 F hA hRt q x1 h ls (lv_sub hl [0, 1] rfl) H locs hP hD hS))
def rm_X6_hashOfRow : Room := { frames := 2, cells := 0, slots := 0, locals := 48 }
def f_X6_hashOfRow_5_b (q : QS) (B5 : Int32 → Int64 → Int32 → Option (Int64)) (x1 : Int32) (x2 : Int64) (x4 : Int32) : Option (Int64) :=
  if (qF q 6) ≤ x4 then
    some x2
  else
    (f_X5_placeOf x1 x4).bind fun r2 =>
    (f_X8_hashOnto 4 q x2 r2).bind fun r4 =>
    B5 x1 r4 (x4 + (1 : Int32))
set_option maxHeartbeats 4000000 in
set_option maxRecDepth 100000 in
theorem g_X6_hashOfRow_5_b {E : En} {p : Program} {l : Launch} {e : Env} {s : State} {m : MethodId} {args : Array Value} {below : List Frame} {meth : Method} {c : Code} {A : Nat → Prop} {Q : State → Prop} (F : Fx E p s m args meth c (yX6_hashOfRow).cls cX6_hashOfRow 5 (some .long)) (hA : ∀ z : Nat, s.heap.size ≤ z → A z) {q : QS} {o : Int64} (hRt : RtL (wX E) E p l e rm_X6_hashOfRow s m args below meth c A Q cX6_hashOfRow (o, q)) {B5 : Int32 → Int64 → Int32 → Option (Int64)} (hB5 : ∀ (x1 : Int32) (x2 : Int64) (x4 : Int32), B5 x1 x2 x4 = some o → ∀ ls : Array Slot, lv_has ls 5 [(0, .ref (eA E 47)), (1, .int x1), (2, .long x2), (4, .int x4)] → Wq (wX E) E p l e rm_X6_hashOfRow s m args below meth c A 0 0 Q q (F0 m 5 ls [])) (x1 : Int32) (x2 : Int64) (x4 : Int32) (h : f_X6_hashOfRow_5_b q B5 x1 x2 x4 = some o) (ls : Array Slot) (hl : lv_has ls 5 [(0, .ref (eA E 47)), (1, .int x1), (2, .long x2), (4, .int x4)]) : Wq (wX E) E p l e rm_X6_hashOfRow s m args below meth c A 0 0 Q q (F0 m 5 ls []) := by
  intro H locs hP hD hS
  have hx := F.1
  have hb := F.2.1
  unfold f_X6_hashOfRow_5_b at h
  refine lv_iload hx hb dX6_hashOfRow_5 (lv_at hl 3 rfl) ?_
  refine lv_aload_n hx hb dX6_hashOfRow_7 rfl (lv_at hl 0 rfl) ?_
  refine r_get F hP i_X6 47 (xe_47 E q) rfl 2 (by decide) rfl lf_X6_36 rfl dX6_hashOfRow_8 ?_
  refine r_get F hP i_X4 38 (xe_38 E q) rfl 0 (by decide) rfl lf_X6_77 rfl dX6_hashOfRow_11 ?_
  refine lv_icmp_ge (tgt := 41) hx hb dX6_hashOfRow_14 (by decide) (fun c1 => ?_) (fun c1 => ?_)
  · rw [if_pos c1] at h
    refine lv_lload_n hx hb dX6_hashOfRow_41 rfl (lv_at hl 2 rfl) ?_
    cases h
    exact hRt _ _ dX6_hashOfRow_42 _ _ hP hD hS
  · rw [if_neg c1] at h
    refine lv_aload_n hx hb dX6_hashOfRow_17 rfl (lv_at hl 0 rfl) ?_
    refine r_get F hP i_X6 47 (xe_47 E q) rfl 9 (by decide) rfl lf_X6_54 rfl dX6_hashOfRow_18 ?_
    refine r_get F hP i_X5 49 (xe_49 E q) rfl 9 (by decide) rfl lf_X6_246 rfl dX6_hashOfRow_21 ?_
    refine lv_lload_n hx hb dX6_hashOfRow_24 rfl (lv_at hl 2 rfl) ?_
    refine lv_iload_n hx hb dX6_hashOfRow_25 rfl (lv_at hl 1 rfl) ?_
    refine lv_iload hx hb dX6_hashOfRow_26 (lv_at hl 3 rfl) ?_
    obtain ⟨r2, e3, h⟩ := Option.bind_eq_some_iff.mp h
    refine q_callS (As := [.int x1, .int x4]) (rest := [.long x2, .ref (eA E 12)]) F hA hP hD hS (c_X5_placeOf (E := E) (l := l) q x1 x4 e3) k_X5_placeOf st_X5_placeOf lm_X6_247 ⟨rfl, rfl⟩ ⟨by decide, by decide⟩ rfl hl.1 rfl (Nat.le_of_ble_eq_true rfl) dX6_hashOfRow_28 ⟨by decide, by decide⟩ ?_
    intro H locs hP hD hS
    obtain ⟨r4, e5, h⟩ := Option.bind_eq_some_iff.mp h
    refine q_callV (As := [.long x2, .int r2]) (rest := []) F hA hP hD hS (c_X8_hashOnto (E := E) (l := l) (v := 4) (by decide) q x2 r2 e5) k_X8_hashOnto in_X8_hashOnto se_X8_hashOnto lm_X6_227 12 (xe_12 E q) rfl ⟨rfl, rfl⟩ ⟨by decide, by decide⟩ rfl hl.1 rfl (Nat.le_of_ble_eq_true rfl) dX6_hashOfRow_31 ⟨by decide, by decide⟩ ?_
    intro H locs hP hD hS
    refine lv_lstore_n (lv' := [(2, .long r4), (0, .ref (eA E 47)), (1, .int x1), (4, .int x4)]) hx hb dX6_hashOfRow_34 rfl hl (by decide) rfl (fun ls hl => ?_)
    refine lv_iinc (v := (x4 + (1 : Int32))) (lv' := [(4, .int (x4 + (1 : Int32))), (2, .long r4), (0, .ref (eA E 47)), (1, .int x1)]) hx hb dX6_hashOfRow_35 hl (k := 3) rfl rfl (by decide) rfl (fun ls hl => ?_)
    refine lv_goto (tgt := 5) hx hb dX6_hashOfRow_38 (by decide) ?_
    exact hB5 x1 r4 (x4 + (1 : Int32)) h _ (lv_sub hl [2, 3, 1, 0] rfl) _ _ hP hD hS
def f_X6_hashOfRow_5 (q : QS) : Nat → Int32 → Int64 → Int32 → Option (Int64)
  | 0 => fun _ _ _ => none
  | n + 1 => f_X6_hashOfRow_5_b q (f_X6_hashOfRow_5 q n)
theorem g_X6_hashOfRow_5 {E : En} {p : Program} {l : Launch} {e : Env} {s : State} {m : MethodId} {args : Array Value} {below : List Frame} {meth : Method} {c : Code} {A : Nat → Prop} {Q : State → Prop} (F : Fx E p s m args meth c (yX6_hashOfRow).cls cX6_hashOfRow 5 (some .long)) (hA : ∀ z : Nat, s.heap.size ≤ z → A z) {q : QS} {o : Int64} (hRt : RtL (wX E) E p l e rm_X6_hashOfRow s m args below meth c A Q cX6_hashOfRow (o, q)) (n : Nat) : ∀ (x1 : Int32) (x2 : Int64) (x4 : Int32), f_X6_hashOfRow_5 q n x1 x2 x4 = some o → ∀ ls : Array Slot, lv_has ls 5 [(0, .ref (eA E 47)), (1, .int x1), (2, .long x2), (4, .int x4)] → Wq (wX E) E p l e rm_X6_hashOfRow s m args below meth c A 0 0 Q q (F0 m 5 ls []) := by
  induction n with
  | zero => intro x1 x2 x4 h; cases h
  | succ n ih => intro x1 x2 x4 h; exact g_X6_hashOfRow_5_b F hA hRt ih x1 x2 x4 h
def f_X6_hashOfRow_0 (q : QS) (x1 : Int32) : Option (Int64) :=
  f_X6_hashOfRow_5 q FU x1 (0 : Int64) (0 : Int32)
set_option maxHeartbeats 4000000 in
set_option maxRecDepth 100000 in
theorem g_X6_hashOfRow_0 {E : En} {p : Program} {l : Launch} {e : Env} {s : State} {m : MethodId} {args : Array Value} {below : List Frame} {meth : Method} {c : Code} {A : Nat → Prop} {Q : State → Prop} (F : Fx E p s m args meth c (yX6_hashOfRow).cls cX6_hashOfRow 5 (some .long)) (hA : ∀ z : Nat, s.heap.size ≤ z → A z) {q : QS} {o : Int64} (hRt : RtL (wX E) E p l e rm_X6_hashOfRow s m args below meth c A Q cX6_hashOfRow (o, q)) (x1 : Int32) (h : f_X6_hashOfRow_0 q x1 = some o) (ls : Array Slot) (hl : lv_has ls 5 [(0, .ref (eA E 47)), (1, .int x1)]) : Wq (wX E) E p l e rm_X6_hashOfRow s m args below meth c A 0 0 Q q (F0 m 0 ls []) := by
  intro H locs hP hD hS
  have hx := F.1
  have hb := F.2.1
  unfold f_X6_hashOfRow_0 at h
  refine lv_lconst (v := 0) hx hb dX6_hashOfRow_0 (by decide) ?_
  refine lv_lstore_n (lv' := [(2, .long (0 : Int64)), (0, .ref (eA E 47)), (1, .int x1)]) hx hb dX6_hashOfRow_1 rfl hl (by decide) rfl (fun ls hl => ?_)
  refine lv_iconst (v := 0) hx hb dX6_hashOfRow_2 (by decide) ?_
  refine lv_istore (lv' := [(4, .int (0 : Int32)), (2, .long (0 : Int64)), (0, .ref (eA E 47)), (1, .int x1)]) hx hb dX6_hashOfRow_3 hl (by decide) rfl (fun ls hl => ?_)
  exact g_X6_hashOfRow_5 F hA hRt FU x1 (0 : Int64) (0 : Int32) h _ (lv_sub hl [2, 3, 1, 0] rfl) _ _ hP hD hS
def f_X6_hashOfRow (q : QS) (x1 : Int32) : Option (Int64) := f_X6_hashOfRow_0 q x1
set_option maxRecDepth 100000 in
theorem c_X6_hashOfRow {E : En} {l : Launch} (q : QS) (x1 : Int32) {o : Int64} (h : f_X6_hashOfRow q x1 = some o) : Ct (wX E) E l yX6_hashOfRow (wy yX6_hashOfRow cX6_hashOfRow 5 (some .long)) rm_X6_hashOfRow q q [.ref (eA E 47), .int x1] (some (.long o)) :=
  ct_L (o := (o, q)) (by decide +kernel) (fun p e s m below meth c A Q F hA hRt H locs hP hD hS => en_W [.ref (eA E 47), .int x1] (Nat.le_of_ble_eq_true rfl) (fun ls hl => g_X6_hashOfRow_0 F hA hRt x1 h ls (lv_sub hl [0, 1] rfl) H locs hP hD hS))
def rm_X6_areLikeRows : Room := { frames := 2, cells := 0, slots := 0, locals := 45 }
def f_X6_areLikeRows_2_b (q : QS) (B2 : Int32 → Int32 → Int32 → Option (Int32)) (x1 : Int32) (x2 : Int32) (x3 : Int32) : Option (Int32) :=
  if (qF q 6) ≤ x3 then
    some (1 : Int32)
  else
    (f_X5_placeOf x1 x3).bind fun r2 =>
    (f_X5_placeOf x2 x3).bind fun r4 =>
    (f_X8_areLike 4 q r2 r4).bind fun r6 =>
    if r6 = 0 then
      some (0 : Int32)
    else
      B2 x1 x2 (x3 + (1 : Int32))
set_option maxHeartbeats 4000000 in
set_option maxRecDepth 100000 in
theorem g_X6_areLikeRows_2_b {E : En} {p : Program} {l : Launch} {e : Env} {s : State} {m : MethodId} {args : Array Value} {below : List Frame} {meth : Method} {c : Code} {A : Nat → Prop} {Q : State → Prop} (F : Fx E p s m args meth c (yX6_areLikeRows).cls cX6_areLikeRows 4 (some .boolean)) (hA : ∀ z : Nat, s.heap.size ≤ z → A z) {q : QS} {o : Int32} (hRt : RtZ (wX E) E p l e rm_X6_areLikeRows s m args below meth c A Q cX6_areLikeRows (o, q)) {B2 : Int32 → Int32 → Int32 → Option (Int32)} (hB2 : ∀ (x1 : Int32) (x2 : Int32) (x3 : Int32), B2 x1 x2 x3 = some o → ∀ ls : Array Slot, lv_has ls 4 [(0, .ref (eA E 47)), (1, .int x1), (2, .int x2), (3, .int x3)] → Wq (wX E) E p l e rm_X6_areLikeRows s m args below meth c A 0 0 Q q (F0 m 2 ls [])) (x1 : Int32) (x2 : Int32) (x3 : Int32) (h : f_X6_areLikeRows_2_b q B2 x1 x2 x3 = some o) (ls : Array Slot) (hl : lv_has ls 4 [(0, .ref (eA E 47)), (1, .int x1), (2, .int x2), (3, .int x3)]) : Wq (wX E) E p l e rm_X6_areLikeRows s m args below meth c A 0 0 Q q (F0 m 2 ls []) := by
  intro H locs hP hD hS
  have hx := F.1
  have hb := F.2.1
  unfold f_X6_areLikeRows_2_b at h
  refine lv_iload_n hx hb dX6_areLikeRows_2 rfl (lv_at hl 3 rfl) ?_
  refine lv_aload_n hx hb dX6_areLikeRows_3 rfl (lv_at hl 0 rfl) ?_
  refine r_get F hP i_X6 47 (xe_47 E q) rfl 2 (by decide) rfl lf_X6_36 rfl dX6_areLikeRows_4 ?_
  refine r_get F hP i_X4 38 (xe_38 E q) rfl 0 (by decide) rfl lf_X6_77 rfl dX6_areLikeRows_7 ?_
  refine lv_icmp_ge (tgt := 44) hx hb dX6_areLikeRows_10 (by decide) (fun c1 => ?_) (fun c1 => ?_)
  · rw [if_pos c1] at h
    refine lv_iconst (v := 1) hx hb dX6_areLikeRows_44 (by decide) ?_
    cases h
    exact hRt _ _ zz_1 dX6_areLikeRows_45 _ _ hP hD hS
  · rw [if_neg c1] at h
    refine lv_aload_n hx hb dX6_areLikeRows_13 rfl (lv_at hl 0 rfl) ?_
    refine r_get F hP i_X6 47 (xe_47 E q) rfl 9 (by decide) rfl lf_X6_54 rfl dX6_areLikeRows_14 ?_
    refine r_get F hP i_X5 49 (xe_49 E q) rfl 9 (by decide) rfl lf_X6_246 rfl dX6_areLikeRows_17 ?_
    refine lv_iload_n hx hb dX6_areLikeRows_20 rfl (lv_at hl 1 rfl) ?_
    refine lv_iload_n hx hb dX6_areLikeRows_21 rfl (lv_at hl 3 rfl) ?_
    obtain ⟨r2, e3, h⟩ := Option.bind_eq_some_iff.mp h
    refine q_callS (As := [.int x1, .int x3]) (rest := [.ref (eA E 12)]) F hA hP hD hS (c_X5_placeOf (E := E) (l := l) q x1 x3 e3) k_X5_placeOf st_X5_placeOf lm_X6_247 ⟨rfl, rfl⟩ ⟨by decide, by decide⟩ rfl hl.1 rfl (Nat.le_of_ble_eq_true rfl) dX6_areLikeRows_22 ⟨by decide, by decide⟩ ?_
    intro H locs hP hD hS
    refine lv_iload_n hx hb dX6_areLikeRows_25 rfl (lv_at hl 2 rfl) ?_
    refine lv_iload_n hx hb dX6_areLikeRows_26 rfl (lv_at hl 3 rfl) ?_
    obtain ⟨r4, e5, h⟩ := Option.bind_eq_some_iff.mp h
    refine q_callS (As := [.int x2, .int x3]) (rest := [.int r2, .ref (eA E 12)]) F hA hP hD hS (c_X5_placeOf (E := E) (l := l) q x2 x3 e5) k_X5_placeOf st_X5_placeOf lm_X6_247 ⟨rfl, rfl⟩ ⟨by decide, by decide⟩ rfl hl.1 rfl (Nat.le_of_ble_eq_true rfl) dX6_areLikeRows_27 ⟨by decide, by decide⟩ ?_
    intro H locs hP hD hS
    obtain ⟨r6, e7, h⟩ := Option.bind_eq_some_iff.mp h
    refine q_callV (As := [.int r2, .int r4]) (rest := []) F hA hP hD hS (c_X8_areLike (E := E) (l := l) (v := 4) (by decide) q r2 r4 e7) k_X8_areLike in_X8_areLike se_X8_areLike lm_X6_224 12 (xe_12 E q) rfl ⟨rfl, rfl⟩ ⟨by decide, by decide⟩ rfl hl.1 rfl (Nat.le_of_ble_eq_true rfl) dX6_areLikeRows_30 ⟨by decide, by decide⟩ ?_
    intro H locs hP hD hS
    refine lv_if_ne (tgt := 38) hx hb dX6_areLikeRows_33 (by decide) (fun c8 => ?_) (fun c8 => ?_)
    · rw [if_neg c8] at h
      refine lv_iinc (v := (x3 + (1 : Int32))) (lv' := [(3, .int (x3 + (1 : Int32))), (0, .ref (eA E 47)), (1, .int x1), (2, .int x2)]) hx hb dX6_areLikeRows_38 hl (k := 3) rfl rfl (by decide) rfl (fun ls hl => ?_)
      refine lv_goto (tgt := 2) hx hb dX6_areLikeRows_41 (by decide) ?_
      exact hB2 x1 x2 (x3 + (1 : Int32)) h _ (lv_sub hl [1, 2, 3, 0] rfl) _ _ hP hD hS
    · rw [if_pos c8] at h
      refine lv_iconst (v := 0) hx hb dX6_areLikeRows_36 (by decide) ?_
      cases h
      exact hRt _ _ zz_0 dX6_areLikeRows_37 _ _ hP hD hS
def f_X6_areLikeRows_2 (q : QS) : Nat → Int32 → Int32 → Int32 → Option (Int32)
  | 0 => fun _ _ _ => none
  | n + 1 => f_X6_areLikeRows_2_b q (f_X6_areLikeRows_2 q n)
theorem g_X6_areLikeRows_2 {E : En} {p : Program} {l : Launch} {e : Env} {s : State} {m : MethodId} {args : Array Value} {below : List Frame} {meth : Method} {c : Code} {A : Nat → Prop} {Q : State → Prop} (F : Fx E p s m args meth c (yX6_areLikeRows).cls cX6_areLikeRows 4 (some .boolean)) (hA : ∀ z : Nat, s.heap.size ≤ z → A z) {q : QS} {o : Int32} (hRt : RtZ (wX E) E p l e rm_X6_areLikeRows s m args below meth c A Q cX6_areLikeRows (o, q)) (n : Nat) : ∀ (x1 : Int32) (x2 : Int32) (x3 : Int32), f_X6_areLikeRows_2 q n x1 x2 x3 = some o → ∀ ls : Array Slot, lv_has ls 4 [(0, .ref (eA E 47)), (1, .int x1), (2, .int x2), (3, .int x3)] → Wq (wX E) E p l e rm_X6_areLikeRows s m args below meth c A 0 0 Q q (F0 m 2 ls []) := by
  induction n with
  | zero => intro x1 x2 x3 h; cases h
  | succ n ih => intro x1 x2 x3 h; exact g_X6_areLikeRows_2_b F hA hRt ih x1 x2 x3 h
def f_X6_areLikeRows_0 (q : QS) (x1 : Int32) (x2 : Int32) : Option (Int32) :=
  f_X6_areLikeRows_2 q FU x1 x2 (0 : Int32)
set_option maxHeartbeats 4000000 in
set_option maxRecDepth 100000 in
theorem g_X6_areLikeRows_0 {E : En} {p : Program} {l : Launch} {e : Env} {s : State} {m : MethodId} {args : Array Value} {below : List Frame} {meth : Method} {c : Code} {A : Nat → Prop} {Q : State → Prop} (F : Fx E p s m args meth c (yX6_areLikeRows).cls cX6_areLikeRows 4 (some .boolean)) (hA : ∀ z : Nat, s.heap.size ≤ z → A z) {q : QS} {o : Int32} (hRt : RtZ (wX E) E p l e rm_X6_areLikeRows s m args below meth c A Q cX6_areLikeRows (o, q)) (x1 : Int32) (x2 : Int32) (h : f_X6_areLikeRows_0 q x1 x2 = some o) (ls : Array Slot) (hl : lv_has ls 4 [(0, .ref (eA E 47)), (1, .int x1), (2, .int x2)]) : Wq (wX E) E p l e rm_X6_areLikeRows s m args below meth c A 0 0 Q q (F0 m 0 ls []) := by
  intro H locs hP hD hS
  have hx := F.1
  have hb := F.2.1
  unfold f_X6_areLikeRows_0 at h
  refine lv_iconst (v := 0) hx hb dX6_areLikeRows_0 (by decide) ?_
  refine lv_istore_n (lv' := [(3, .int (0 : Int32)), (0, .ref (eA E 47)), (1, .int x1), (2, .int x2)]) hx hb dX6_areLikeRows_1 rfl hl (by decide) rfl (fun ls hl => ?_)
  exact g_X6_areLikeRows_2 F hA hRt FU x1 x2 (0 : Int32) h _ (lv_sub hl [1, 2, 3, 0] rfl) _ _ hP hD hS
def f_X6_areLikeRows (q : QS) (x1 : Int32) (x2 : Int32) : Option (Int32) := f_X6_areLikeRows_0 q x1 x2
set_option maxRecDepth 100000 in
theorem c_X6_areLikeRows {E : En} {l : Launch} (q : QS) (x1 : Int32) (x2 : Int32) {o : Int32} (h : f_X6_areLikeRows q x1 x2 = some o) : Ct (wX E) E l yX6_areLikeRows (wy yX6_areLikeRows cX6_areLikeRows 4 (some .boolean)) rm_X6_areLikeRows q q [.ref (eA E 47), .int x1, .int x2] (some (.int o)) :=
  ct_Z (o := (o, q)) (by decide +kernel) (fun p e s m below meth c A Q F hA hRt H locs hP hD hS => en_W [.ref (eA E 47), .int x1, .int x2] (Nat.le_of_ble_eq_true rfl) (fun ls hl => g_X6_areLikeRows_0 F hA hRt x1 x2 h ls (lv_sub hl [0, 1, 2] rfl) H locs hP hD hS))
def rm_X6_isNewRow : Room := { frames := 3, cells := 0, slots := 0, locals := 72 }
def f_X6_isNewRow_26_b (B26 : QS → Int32 → Int32 → Int32 → Int32 → Option (Int32 × QS)) (q : QS) (x1 : Int32) (x2 : Int32) (x3 : Int32) (x4 : Int32) : Option (Int32 × QS) :=
  if (qF q 12) ≤ x4 then
    (f_X5_putInBucket q x1 x2).bind fun r8 =>
    some ((1 : Int32), r8)
  else
    if x3 = (-1 : Int32) then
      (f_X5_putInBucket q x1 x2).bind fun r11 =>
      some ((1 : Int32), r11)
    else
      (f_X6_areLikeRows q x1 x3).bind fun r13 =>
      if r13 = 0 then
        (rd (qI q 57) (qC q) x3).bind fun y16 =>
        B26 q x1 x2 y16 (x4 + (1 : Int32))
      else
        some ((0 : Int32), q)
set_option maxHeartbeats 4000000 in
set_option maxRecDepth 100000 in
theorem g_X6_isNewRow_26_b {E : En} {p : Program} {l : Launch} {e : Env} {s : State} {m : MethodId} {args : Array Value} {below : List Frame} {meth : Method} {c : Code} {A : Nat → Prop} {Q : State → Prop} (F : Fx E p s m args meth c (yX6_isNewRow).cls cX6_isNewRow 5 (some .boolean)) (hA : ∀ z : Nat, s.heap.size ≤ z → A z) {o : Int32 × QS} (hRt : RtZ (wX E) E p l e rm_X6_isNewRow s m args below meth c A Q cX6_isNewRow o) {B26 : QS → Int32 → Int32 → Int32 → Int32 → Option (Int32 × QS)} (hB26 : ∀ (q : QS) (x1 : Int32) (x2 : Int32) (x3 : Int32) (x4 : Int32), B26 q x1 x2 x3 x4 = some o → ∀ ls : Array Slot, lv_has ls 5 [(0, .ref (eA E 47)), (1, .int x1), (2, .int x2), (3, .int x3), (4, .int x4)] → Wq (wX E) E p l e rm_X6_isNewRow s m args below meth c A 0 0 Q q (F0 m 26 ls [])) (q : QS) (x1 : Int32) (x2 : Int32) (x3 : Int32) (x4 : Int32) (h : f_X6_isNewRow_26_b B26 q x1 x2 x3 x4 = some o) (ls : Array Slot) (hl : lv_has ls 5 [(0, .ref (eA E 47)), (1, .int x1), (2, .int x2), (3, .int x3), (4, .int x4)]) : Wq (wX E) E p l e rm_X6_isNewRow s m args below meth c A 0 0 Q q (F0 m 26 ls []) := by
  intro H locs hP hD hS
  have hx := F.1
  have hb := F.2.1
  unfold f_X6_isNewRow_26_b at h
  refine lv_iload hx hb dX6_isNewRow_26 (lv_at hl 4 rfl) ?_
  refine lv_aload_n hx hb dX6_isNewRow_28 rfl (lv_at hl 0 rfl) ?_
  refine r_get F hP i_X6 47 (xe_47 E q) rfl 9 (by decide) rfl lf_X6_54 rfl dX6_isNewRow_29 ?_
  refine r_get F hP i_X5 49 (xe_49 E q) rfl 0 (by decide) rfl lf_X6_121 rfl dX6_isNewRow_32 ?_
  refine lv_icmp_ge (tgt := 70) hx hb dX6_isNewRow_35 (by decide) (fun c7 => ?_) (fun c7 => ?_)
  · rw [if_pos c7] at h
    refine lv_aload_n hx hb dX6_isNewRow_70 rfl (lv_at hl 0 rfl) ?_
    refine r_get F hP i_X6 47 (xe_47 E q) rfl 9 (by decide) rfl lf_X6_54 rfl dX6_isNewRow_71 ?_
    refine lv_iload_n hx hb dX6_isNewRow_74 rfl (lv_at hl 1 rfl) ?_
    refine lv_iload_n hx hb dX6_isNewRow_75 rfl (lv_at hl 2 rfl) ?_
    obtain ⟨r8, e9, h⟩ := Option.bind_eq_some_iff.mp h
    refine q_callV (As := [.int x1, .int x2]) (rest := []) F hA hP hD hS (c_X5_putInBucket (E := E) (l := l) q x1 x2 e9) k_X5_putInBucket in_X5_putInBucket se_X5_putInBucket lm_X6_203 49 (xe_49 E q) rfl ⟨rfl, rfl⟩ ⟨by decide, by decide⟩ rfl hl.1 rfl (Nat.le_of_ble_eq_true rfl) dX6_isNewRow_76 ⟨by decide, by decide⟩ ?_
    intro H locs hP hD hS
    refine lv_iconst (v := 1) hx hb dX6_isNewRow_79 (by decide) ?_
    cases h
    exact hRt _ _ zz_1 dX6_isNewRow_80 _ _ hP hD hS
  · rw [if_neg c7] at h
    refine lv_iload_n hx hb dX6_isNewRow_38 rfl (lv_at hl 3 rfl) ?_
    refine lv_iconst (v := (-1)) hx hb dX6_isNewRow_39 (by decide) ?_
    refine lv_icmp_eq (tgt := 70) hx hb dX6_isNewRow_40 (by decide) (fun c10 => ?_) (fun c10 => ?_)
    · rw [if_pos c10] at h
      refine lv_aload_n hx hb dX6_isNewRow_70 rfl (lv_at hl 0 rfl) ?_
      refine r_get F hP i_X6 47 (xe_47 E q) rfl 9 (by decide) rfl lf_X6_54 rfl dX6_isNewRow_71 ?_
      refine lv_iload_n hx hb dX6_isNewRow_74 rfl (lv_at hl 1 rfl) ?_
      refine lv_iload_n hx hb dX6_isNewRow_75 rfl (lv_at hl 2 rfl) ?_
      obtain ⟨r11, e12, h⟩ := Option.bind_eq_some_iff.mp h
      refine q_callV (As := [.int x1, .int x2]) (rest := []) F hA hP hD hS (c_X5_putInBucket (E := E) (l := l) q x1 x2 e12) k_X5_putInBucket in_X5_putInBucket se_X5_putInBucket lm_X6_203 49 (xe_49 E q) rfl ⟨rfl, rfl⟩ ⟨by decide, by decide⟩ rfl hl.1 rfl (Nat.le_of_ble_eq_true rfl) dX6_isNewRow_76 ⟨by decide, by decide⟩ ?_
      intro H locs hP hD hS
      refine lv_iconst (v := 1) hx hb dX6_isNewRow_79 (by decide) ?_
      cases h
      exact hRt _ _ zz_1 dX6_isNewRow_80 _ _ hP hD hS
    · rw [if_neg c10] at h
      refine lv_aload_n hx hb dX6_isNewRow_43 rfl (lv_at hl 0 rfl) ?_
      refine lv_iload_n hx hb dX6_isNewRow_44 rfl (lv_at hl 1 rfl) ?_
      refine lv_iload_n hx hb dX6_isNewRow_45 rfl (lv_at hl 3 rfl) ?_
      obtain ⟨r13, e14, h⟩ := Option.bind_eq_some_iff.mp h
      refine q_callV (As := [.int x1, .int x3]) (rest := []) F hA hP hD hS (c_X6_areLikeRows (E := E) (l := l) q x1 x3 e14) k_X6_areLikeRows in_X6_areLikeRows se_X6_areLikeRows lm_X6_275 47 (xe_47 E q) rfl ⟨rfl, rfl⟩ ⟨by decide, by decide⟩ rfl hl.1 rfl (Nat.le_of_ble_eq_true rfl) dX6_isNewRow_46 ⟨by decide, by decide⟩ ?_
      intro H locs hP hD hS
      refine lv_if_eq (tgt := 54) hx hb dX6_isNewRow_49 (by decide) (fun c15 => ?_) (fun c15 => ?_)
      · rw [if_pos c15] at h
        refine lv_aload_n hx hb dX6_isNewRow_54 rfl (lv_at hl 0 rfl) ?_
        refine r_get F hP i_X6 47 (xe_47 E q) rfl 9 (by decide) rfl lf_X6_54 rfl dX6_isNewRow_55 ?_
        refine r_get F hP i_X5 49 (xe_49 E q) rfl 8 (by decide) rfl lf_X6_215 rfl dX6_isNewRow_58 ?_
        refine lv_iload_n hx hb dX6_isNewRow_61 rfl (lv_at hl 3 rfl) ?_
        obtain ⟨y16, e17, h⟩ := Option.bind_eq_some_iff.mp h
        refine r_iald F hP 57 (xe_57 E q) e17 dX6_isNewRow_62 ?_
        refine lv_istore_n (lv' := [(3, .int y16), (0, .ref (eA E 47)), (1, .int x1), (2, .int x2), (4, .int x4)]) hx hb dX6_isNewRow_63 rfl hl (by decide) rfl (fun ls hl => ?_)
        refine lv_iinc (v := (x4 + (1 : Int32))) (lv' := [(4, .int (x4 + (1 : Int32))), (3, .int y16), (0, .ref (eA E 47)), (1, .int x1), (2, .int x2)]) hx hb dX6_isNewRow_64 hl (k := 4) rfl rfl (by decide) rfl (fun ls hl => ?_)
        refine lv_goto (tgt := 26) hx hb dX6_isNewRow_67 (by decide) ?_
        exact hB26 q x1 x2 y16 (x4 + (1 : Int32)) h _ (lv_sub hl [2, 3, 4, 1, 0] rfl) _ _ hP hD hS
      · rw [if_neg c15] at h
        refine lv_iconst (v := 0) hx hb dX6_isNewRow_52 (by decide) ?_
        cases h
        exact hRt _ _ zz_0 dX6_isNewRow_53 _ _ hP hD hS
def f_X6_isNewRow_26 : Nat → QS → Int32 → Int32 → Int32 → Int32 → Option (Int32 × QS)
  | 0 => fun _ _ _ _ _ => none
  | n + 1 => f_X6_isNewRow_26_b (f_X6_isNewRow_26 n)
theorem g_X6_isNewRow_26 {E : En} {p : Program} {l : Launch} {e : Env} {s : State} {m : MethodId} {args : Array Value} {below : List Frame} {meth : Method} {c : Code} {A : Nat → Prop} {Q : State → Prop} (F : Fx E p s m args meth c (yX6_isNewRow).cls cX6_isNewRow 5 (some .boolean)) (hA : ∀ z : Nat, s.heap.size ≤ z → A z) {o : Int32 × QS} (hRt : RtZ (wX E) E p l e rm_X6_isNewRow s m args below meth c A Q cX6_isNewRow o) (n : Nat) : ∀ (q : QS) (x1 : Int32) (x2 : Int32) (x3 : Int32) (x4 : Int32), f_X6_isNewRow_26 n q x1 x2 x3 x4 = some o → ∀ ls : Array Slot, lv_has ls 5 [(0, .ref (eA E 47)), (1, .int x1), (2, .int x2), (3, .int x3), (4, .int x4)] → Wq (wX E) E p l e rm_X6_isNewRow s m args below meth c A 0 0 Q q (F0 m 26 ls []) := by
  induction n with
  | zero => intro q x1 x2 x3 x4 h; cases h
  | succ n ih => intro q x1 x2 x3 x4 h; exact g_X6_isNewRow_26_b F hA hRt ih q x1 x2 x3 x4 h
def f_X6_isNewRow_0 (q : QS) (x1 : Int32) : Option (Int32 × QS) :=
  (f_X6_hashOfRow q x1).bind fun r1 =>
  (f_X5_bucketOf q r1).bind fun r3 =>
  (rd (qI q 56) (qC q) r3).bind fun y5 =>
  f_X6_isNewRow_26 FU q x1 r3 y5 (0 : Int32)
set_option maxHeartbeats 4000000 in
set_option maxRecDepth 100000 in
theorem g_X6_isNewRow_0 {E : En} {p : Program} {l : Launch} {e : Env} {s : State} {m : MethodId} {args : Array Value} {below : List Frame} {meth : Method} {c : Code} {A : Nat → Prop} {Q : State → Prop} (F : Fx E p s m args meth c (yX6_isNewRow).cls cX6_isNewRow 5 (some .boolean)) (hA : ∀ z : Nat, s.heap.size ≤ z → A z) {o : Int32 × QS} (hRt : RtZ (wX E) E p l e rm_X6_isNewRow s m args below meth c A Q cX6_isNewRow o) (q : QS) (x1 : Int32) (h : f_X6_isNewRow_0 q x1 = some o) (ls : Array Slot) (hl : lv_has ls 5 [(0, .ref (eA E 47)), (1, .int x1)]) : Wq (wX E) E p l e rm_X6_isNewRow s m args below meth c A 0 0 Q q (F0 m 0 ls []) := by
  intro H locs hP hD hS
  have hx := F.1
  have hb := F.2.1
  unfold f_X6_isNewRow_0 at h
  refine lv_aload_n hx hb dX6_isNewRow_0 rfl (lv_at hl 0 rfl) ?_
  refine r_get F hP i_X6 47 (xe_47 E q) rfl 9 (by decide) rfl lf_X6_54 rfl dX6_isNewRow_1 ?_
  refine lv_aload_n hx hb dX6_isNewRow_4 rfl (lv_at hl 0 rfl) ?_
  refine lv_iload_n hx hb dX6_isNewRow_5 rfl (lv_at hl 1 rfl) ?_
  obtain ⟨r1, e2, h⟩ := Option.bind_eq_some_iff.mp h
  refine q_callV (As := [.int x1]) (rest := [.ref (eA E 49)]) F hA hP hD hS (c_X6_hashOfRow (E := E) (l := l) q x1 e2) k_X6_hashOfRow in_X6_hashOfRow se_X6_hashOfRow lm_X6_272 47 (xe_47 E q) rfl ⟨rfl, rfl⟩ ⟨by decide, by decide⟩ rfl hl.1 rfl (Nat.le_of_ble_eq_true rfl) dX6_isNewRow_6 ⟨by decide, by decide⟩ ?_
  intro H locs hP hD hS
  obtain ⟨r3, e4, h⟩ := Option.bind_eq_some_iff.mp h
  refine q_callV (As := [.long r1]) (rest := []) F hA hP hD hS (c_X5_bucketOf (E := E) (l := l) q r1 e4) k_X5_bucketOf in_X5_bucketOf se_X5_bucketOf lm_X6_196 49 (xe_49 E q) rfl ⟨rfl, rfl⟩ ⟨by decide, by decide⟩ rfl hl.1 rfl (Nat.le_of_ble_eq_true rfl) dX6_isNewRow_9 ⟨by decide, by decide⟩ ?_
  intro H locs hP hD hS
  refine lv_istore_n (lv' := [(2, .int r3), (0, .ref (eA E 47)), (1, .int x1)]) hx hb dX6_isNewRow_12 rfl hl (by decide) rfl (fun ls hl => ?_)
  refine lv_aload_n hx hb dX6_isNewRow_13 rfl (lv_at hl 1 rfl) ?_
  refine r_get F hP i_X6 47 (xe_47 E q) rfl 9 (by decide) rfl lf_X6_54 rfl dX6_isNewRow_14 ?_
  refine r_get F hP i_X5 49 (xe_49 E q) rfl 7 (by decide) rfl lf_X6_206 rfl dX6_isNewRow_17 ?_
  refine lv_iload_n hx hb dX6_isNewRow_20 rfl (lv_at hl 0 rfl) ?_
  obtain ⟨y5, e6, h⟩ := Option.bind_eq_some_iff.mp h
  refine r_iald F hP 56 (xe_56 E q) e6 dX6_isNewRow_21 ?_
  refine lv_istore_n (lv' := [(3, .int y5), (2, .int r3), (0, .ref (eA E 47)), (1, .int x1)]) hx hb dX6_isNewRow_22 rfl hl (by decide) rfl (fun ls hl => ?_)
  refine lv_iconst (v := 0) hx hb dX6_isNewRow_23 (by decide) ?_
  refine lv_istore (lv' := [(4, .int (0 : Int32)), (3, .int y5), (2, .int r3), (0, .ref (eA E 47)), (1, .int x1)]) hx hb dX6_isNewRow_24 hl (by decide) rfl (fun ls hl => ?_)
  exact g_X6_isNewRow_26 F hA hRt FU q x1 r3 y5 (0 : Int32) h _ (lv_sub hl [3, 4, 2, 1, 0] rfl) _ _ hP hD hS
def f_X6_isNewRow (q : QS) (x1 : Int32) : Option (Int32 × QS) := f_X6_isNewRow_0 q x1
set_option maxRecDepth 100000 in
theorem c_X6_isNewRow {E : En} {l : Launch} (q : QS) (x1 : Int32) {o : Int32 × QS} (h : f_X6_isNewRow q x1 = some o) : Ct (wX E) E l yX6_isNewRow (wy yX6_isNewRow cX6_isNewRow 5 (some .boolean)) rm_X6_isNewRow q o.2 [.ref (eA E 47), .int x1] (some (.int o.1)) :=
  ct_Z (o := o) (by decide +kernel) (fun p e s m below meth c A Q F hA hRt H locs hP hD hS => en_W [.ref (eA E 47), .int x1] (Nat.le_of_ble_eq_true rfl) (fun ls hl => g_X6_isNewRow_0 F hA hRt q x1 h ls (lv_sub hl [0, 1] rfl) H locs hP hD hS))
def rm_X6_rankRows : Room := { frames := 4, cells := 0, slots := 0, locals := 96 }
def f_X6_rankRows_57 (B21 : QS → Int32 → Int32 → Int32 → Option (Int32 × QS)) (q : QS) (x1 : Int32) (x2 : Int32) (x3 : Int32) : Option (Int32 × QS) :=
  B21 q x1 x2 (x3 + (1 : Int32))
set_option maxHeartbeats 4000000 in
set_option maxRecDepth 100000 in
theorem g_X6_rankRows_57 {E : En} {p : Program} {l : Launch} {e : Env} {s : State} {m : MethodId} {args : Array Value} {below : List Frame} {meth : Method} {c : Code} {A : Nat → Prop} {Q : State → Prop} (F : Fx E p s m args meth c (yX6_rankRows).cls cX6_rankRows 4 (some .int)) (hA : ∀ z : Nat, s.heap.size ≤ z → A z) {o : Int32 × QS} (hRt : RtI (wX E) E p l e rm_X6_rankRows s m args below meth c A Q cX6_rankRows o) {B21 : QS → Int32 → Int32 → Int32 → Option (Int32 × QS)} (hB21 : ∀ (q : QS) (x1 : Int32) (x2 : Int32) (x3 : Int32), B21 q x1 x2 x3 = some o → ∀ ls : Array Slot, lv_has ls 4 [(0, .ref (eA E 47)), (1, .int x1), (2, .int x2), (3, .int x3)] → Wq (wX E) E p l e rm_X6_rankRows s m args below meth c A 0 0 Q q (F0 m 21 ls [])) (q : QS) (x1 : Int32) (x2 : Int32) (x3 : Int32) (h : f_X6_rankRows_57 B21 q x1 x2 x3 = some o) (ls : Array Slot) (hl : lv_has ls 4 [(0, .ref (eA E 47)), (1, .int x1), (2, .int x2), (3, .int x3)]) : Wq (wX E) E p l e rm_X6_rankRows s m args below meth c A 0 0 Q q (F0 m 57 ls []) := by
  intro H locs hP hD hS
  have hx := F.1
  have hb := F.2.1
  unfold f_X6_rankRows_57 at h
  refine lv_iinc (v := (x3 + (1 : Int32))) (lv' := [(3, .int (x3 + (1 : Int32))), (0, .ref (eA E 47)), (1, .int x1), (2, .int x2)]) hx hb dX6_rankRows_57 hl (k := 3) rfl rfl (by decide) rfl (fun ls hl => ?_)
  refine lv_goto (tgt := 21) hx hb dX6_rankRows_60 (by decide) ?_
  exact hB21 q x1 x2 (x3 + (1 : Int32)) h _ (lv_sub hl [1, 2, 3, 0] rfl) _ _ hP hD hS
def f_X6_rankRows_44 (B21 : QS → Int32 → Int32 → Int32 → Option (Int32 × QS)) (q : QS) (x1 : Int32) (x2 : Int32) (x3 : Int32) : Option (Int32 × QS) :=
  (wI q 54 (qC q) x2 x3).bind fun q4 =>
  f_X6_rankRows_57 B21 q4 x1 (x2 + (1 : Int32)) x3
set_option maxHeartbeats 4000000 in
set_option maxRecDepth 100000 in
theorem g_X6_rankRows_44 {E : En} {p : Program} {l : Launch} {e : Env} {s : State} {m : MethodId} {args : Array Value} {below : List Frame} {meth : Method} {c : Code} {A : Nat → Prop} {Q : State → Prop} (F : Fx E p s m args meth c (yX6_rankRows).cls cX6_rankRows 4 (some .int)) (hA : ∀ z : Nat, s.heap.size ≤ z → A z) {o : Int32 × QS} (hRt : RtI (wX E) E p l e rm_X6_rankRows s m args below meth c A Q cX6_rankRows o) {B21 : QS → Int32 → Int32 → Int32 → Option (Int32 × QS)} (hB21 : ∀ (q : QS) (x1 : Int32) (x2 : Int32) (x3 : Int32), B21 q x1 x2 x3 = some o → ∀ ls : Array Slot, lv_has ls 4 [(0, .ref (eA E 47)), (1, .int x1), (2, .int x2), (3, .int x3)] → Wq (wX E) E p l e rm_X6_rankRows s m args below meth c A 0 0 Q q (F0 m 21 ls [])) (q : QS) (x1 : Int32) (x2 : Int32) (x3 : Int32) (h : f_X6_rankRows_44 B21 q x1 x2 x3 = some o) (ls : Array Slot) (hl : lv_has ls 4 [(0, .ref (eA E 47)), (1, .int x1), (2, .int x2), (3, .int x3)]) : Wq (wX E) E p l e rm_X6_rankRows s m args below meth c A 0 0 Q q (F0 m 44 ls []) := by
  intro H locs hP hD hS
  have hx := F.1
  have hb := F.2.1
  unfold f_X6_rankRows_44 at h
  refine lv_aload_n hx hb dX6_rankRows_44 rfl (lv_at hl 0 rfl) ?_
  refine r_get F hP i_X6 47 (xe_47 E q) rfl 9 (by decide) rfl lf_X6_54 rfl dX6_rankRows_45 ?_
  refine r_get F hP i_X5 49 (xe_49 E q) rfl 5 (by decide) rfl lf_X6_269 rfl dX6_rankRows_48 ?_
  refine lv_iload_n hx hb dX6_rankRows_51 rfl (lv_at hl 2 rfl) ?_
  refine lv_iload_n hx hb dX6_rankRows_52 rfl (lv_at hl 3 rfl) ?_
  obtain ⟨q4, e5, h⟩ := Option.bind_eq_some_iff.mp h
  refine r_iast F hP hD hS 54 (xe_54 E q) (xs_54 E q) e5 dX6_rankRows_53 ?_
  intro H locs hP hD hS
  refine lv_iinc (v := (x2 + (1 : Int32))) (lv' := [(2, .int (x2 + (1 : Int32))), (0, .ref (eA E 47)), (1, .int x1), (3, .int x3)]) hx hb dX6_rankRows_54 hl (k := 2) rfl rfl (by decide) rfl (fun ls hl => ?_)
  exact g_X6_rankRows_57 F hA hRt hB21 q4 x1 (x2 + (1 : Int32)) x3 h _ (lv_sub hl [1, 2, 0, 3] rfl) _ _ hP hD hS
def f_X6_rankRows_21_b (B21 : QS → Int32 → Int32 → Int32 → Option (Int32 × QS)) (q : QS) (x1 : Int32) (x2 : Int32) (x3 : Int32) : Option (Int32 × QS) :=
  if x1 ≤ x3 then
    some (x2, q)
  else
    if (qF q 11) = 0 then
      f_X6_rankRows_44 B21 q x1 x2 x3
    else
      (f_X6_isNewRow q x3).bind fun r6 =>
      if r6.1 = 0 then
        f_X6_rankRows_57 B21 r6.2 x1 x2 x3
      else
        f_X6_rankRows_44 B21 r6.2 x1 x2 x3
set_option maxHeartbeats 4000000 in
set_option maxRecDepth 100000 in
theorem g_X6_rankRows_21_b {E : En} {p : Program} {l : Launch} {e : Env} {s : State} {m : MethodId} {args : Array Value} {below : List Frame} {meth : Method} {c : Code} {A : Nat → Prop} {Q : State → Prop} (F : Fx E p s m args meth c (yX6_rankRows).cls cX6_rankRows 4 (some .int)) (hA : ∀ z : Nat, s.heap.size ≤ z → A z) {o : Int32 × QS} (hRt : RtI (wX E) E p l e rm_X6_rankRows s m args below meth c A Q cX6_rankRows o) {B21 : QS → Int32 → Int32 → Int32 → Option (Int32 × QS)} (hB21 : ∀ (q : QS) (x1 : Int32) (x2 : Int32) (x3 : Int32), B21 q x1 x2 x3 = some o → ∀ ls : Array Slot, lv_has ls 4 [(0, .ref (eA E 47)), (1, .int x1), (2, .int x2), (3, .int x3)] → Wq (wX E) E p l e rm_X6_rankRows s m args below meth c A 0 0 Q q (F0 m 21 ls [])) (q : QS) (x1 : Int32) (x2 : Int32) (x3 : Int32) (h : f_X6_rankRows_21_b B21 q x1 x2 x3 = some o) (ls : Array Slot) (hl : lv_has ls 4 [(0, .ref (eA E 47)), (1, .int x1), (2, .int x2), (3, .int x3)]) : Wq (wX E) E p l e rm_X6_rankRows s m args below meth c A 0 0 Q q (F0 m 21 ls []) := by
  intro H locs hP hD hS
  have hx := F.1
  have hb := F.2.1
  unfold f_X6_rankRows_21_b at h
  refine lv_iload_n hx hb dX6_rankRows_21 rfl (lv_at hl 3 rfl) ?_
  refine lv_iload_n hx hb dX6_rankRows_22 rfl (lv_at hl 1 rfl) ?_
  refine lv_icmp_ge (tgt := 63) hx hb dX6_rankRows_23 (by decide) (fun c2 => ?_) (fun c2 => ?_)
  · rw [if_pos c2] at h
    refine lv_iload_n hx hb dX6_rankRows_63 rfl (lv_at hl 2 rfl) ?_
    cases h
    exact hRt _ _ dX6_rankRows_64 _ _ hP hD hS
  · rw [if_neg c2] at h
    refine lv_aload_n hx hb dX6_rankRows_26 rfl (lv_at hl 0 rfl) ?_
    refine r_get F hP i_X6 47 (xe_47 E q) rfl 2 (by decide) rfl lf_X6_36 rfl dX6_rankRows_27 ?_
    refine r_get F hP i_X4 38 (xe_38 E q) rfl 5 (by decide) rfl lf_X6_262 rfl dX6_rankRows_30 ?_
    refine lv_if_eq (tgt := 44) hx hb dX6_rankRows_33 (by decide) (fun c3 => ?_) (fun c3 => ?_)
    · rw [if_pos c3] at h
      exact g_X6_rankRows_44 F hA hRt hB21 q x1 x2 x3 h _ (lv_sub hl [0, 1, 2, 3] rfl) _ _ hP hD hS
    · rw [if_neg c3] at h
      refine lv_aload_n hx hb dX6_rankRows_36 rfl (lv_at hl 0 rfl) ?_
      refine lv_iload_n hx hb dX6_rankRows_37 rfl (lv_at hl 3 rfl) ?_
      obtain ⟨r6, e7, h⟩ := Option.bind_eq_some_iff.mp h
      refine q_callV (As := [.int x3]) (rest := []) F hA hP hD hS (c_X6_isNewRow (E := E) (l := l) q x3 e7) k_X6_isNewRow in_X6_isNewRow se_X6_isNewRow lm_X6_266 47 (xe_47 E q) rfl ⟨rfl, rfl⟩ ⟨by decide, by decide⟩ rfl hl.1 rfl (Nat.le_of_ble_eq_true rfl) dX6_rankRows_38 ⟨by decide, by decide⟩ ?_
      intro H locs hP hD hS
      refine lv_if_eq (tgt := 57) hx hb dX6_rankRows_41 (by decide) (fun c8 => ?_) (fun c8 => ?_)
      · rw [if_pos c8] at h
        exact g_X6_rankRows_57 F hA hRt hB21 r6.2 x1 x2 x3 h _ (lv_sub hl [0, 1, 2, 3] rfl) _ _ hP hD hS
      · rw [if_neg c8] at h
        exact g_X6_rankRows_44 F hA hRt hB21 r6.2 x1 x2 x3 h _ (lv_sub hl [0, 1, 2, 3] rfl) _ _ hP hD hS
def f_X6_rankRows_21 : Nat → QS → Int32 → Int32 → Int32 → Option (Int32 × QS)
  | 0 => fun _ _ _ _ => none
  | n + 1 => f_X6_rankRows_21_b (f_X6_rankRows_21 n)
theorem g_X6_rankRows_21 {E : En} {p : Program} {l : Launch} {e : Env} {s : State} {m : MethodId} {args : Array Value} {below : List Frame} {meth : Method} {c : Code} {A : Nat → Prop} {Q : State → Prop} (F : Fx E p s m args meth c (yX6_rankRows).cls cX6_rankRows 4 (some .int)) (hA : ∀ z : Nat, s.heap.size ≤ z → A z) {o : Int32 × QS} (hRt : RtI (wX E) E p l e rm_X6_rankRows s m args below meth c A Q cX6_rankRows o) (n : Nat) : ∀ (q : QS) (x1 : Int32) (x2 : Int32) (x3 : Int32), f_X6_rankRows_21 n q x1 x2 x3 = some o → ∀ ls : Array Slot, lv_has ls 4 [(0, .ref (eA E 47)), (1, .int x1), (2, .int x2), (3, .int x3)] → Wq (wX E) E p l e rm_X6_rankRows s m args below meth c A 0 0 Q q (F0 m 21 ls []) := by
  induction n with
  | zero => intro q x1 x2 x3 h; cases h
  | succ n ih => intro q x1 x2 x3 h; exact g_X6_rankRows_21_b F hA hRt ih q x1 x2 x3 h
def f_X6_rankRows_17 (q : QS) (x1 : Int32) : Option (Int32 × QS) :=
  f_X6_rankRows_21 FU q x1 (0 : Int32) (0 : Int32)
set_option maxHeartbeats 4000000 in
set_option maxRecDepth 100000 in
theorem g_X6_rankRows_17 {E : En} {p : Program} {l : Launch} {e : Env} {s : State} {m : MethodId} {args : Array Value} {below : List Frame} {meth : Method} {c : Code} {A : Nat → Prop} {Q : State → Prop} (F : Fx E p s m args meth c (yX6_rankRows).cls cX6_rankRows 4 (some .int)) (hA : ∀ z : Nat, s.heap.size ≤ z → A z) {o : Int32 × QS} (hRt : RtI (wX E) E p l e rm_X6_rankRows s m args below meth c A Q cX6_rankRows o) (q : QS) (x1 : Int32) (h : f_X6_rankRows_17 q x1 = some o) (ls : Array Slot) (hl : lv_has ls 4 [(0, .ref (eA E 47)), (1, .int x1)]) : Wq (wX E) E p l e rm_X6_rankRows s m args below meth c A 0 0 Q q (F0 m 17 ls []) := by
  intro H locs hP hD hS
  have hx := F.1
  have hb := F.2.1
  unfold f_X6_rankRows_17 at h
  refine lv_iconst (v := 0) hx hb dX6_rankRows_17 (by decide) ?_
  refine lv_istore_n (lv' := [(2, .int (0 : Int32)), (0, .ref (eA E 47)), (1, .int x1)]) hx hb dX6_rankRows_18 rfl hl (by decide) rfl (fun ls hl => ?_)
  refine lv_iconst (v := 0) hx hb dX6_rankRows_19 (by decide) ?_
  refine lv_istore_n (lv' := [(3, .int (0 : Int32)), (2, .int (0 : Int32)), (0, .ref (eA E 47)), (1, .int x1)]) hx hb dX6_rankRows_20 rfl hl (by decide) rfl (fun ls hl => ?_)
  exact g_X6_rankRows_21 F hA hRt FU q x1 (0 : Int32) (0 : Int32) h _ (lv_sub hl [2, 3, 1, 0] rfl) _ _ hP hD hS
def f_X6_rankRows_0 (q : QS) (x1 : Int32) : Option (Int32 × QS) :=
  if (qF q 11) = 0 then
    f_X6_rankRows_17 q x1
  else
    (f_X5_emptyBuckets q).bind fun r9 =>
    f_X6_rankRows_17 r9 x1
set_option maxHeartbeats 4000000 in
set_option maxRecDepth 100000 in
theorem g_X6_rankRows_0 {E : En} {p : Program} {l : Launch} {e : Env} {s : State} {m : MethodId} {args : Array Value} {below : List Frame} {meth : Method} {c : Code} {A : Nat → Prop} {Q : State → Prop} (F : Fx E p s m args meth c (yX6_rankRows).cls cX6_rankRows 4 (some .int)) (hA : ∀ z : Nat, s.heap.size ≤ z → A z) {o : Int32 × QS} (hRt : RtI (wX E) E p l e rm_X6_rankRows s m args below meth c A Q cX6_rankRows o) (q : QS) (x1 : Int32) (h : f_X6_rankRows_0 q x1 = some o) (ls : Array Slot) (hl : lv_has ls 4 [(0, .ref (eA E 47)), (1, .int x1)]) : Wq (wX E) E p l e rm_X6_rankRows s m args below meth c A 0 0 Q q (F0 m 0 ls []) := by
  intro H locs hP hD hS
  have hx := F.1
  have hb := F.2.1
  unfold f_X6_rankRows_0 at h
  refine lv_aload_n hx hb dX6_rankRows_0 rfl (lv_at hl 0 rfl) ?_
  refine r_get F hP i_X6 47 (xe_47 E q) rfl 2 (by decide) rfl lf_X6_36 rfl dX6_rankRows_1 ?_
  refine r_get F hP i_X4 38 (xe_38 E q) rfl 5 (by decide) rfl lf_X6_262 rfl dX6_rankRows_4 ?_
  refine lv_if_eq (tgt := 17) hx hb dX6_rankRows_7 (by decide) (fun c1 => ?_) (fun c1 => ?_)
  · rw [if_pos c1] at h
    exact g_X6_rankRows_17 F hA hRt q x1 h _ (lv_sub hl [0, 1] rfl) _ _ hP hD hS
  · rw [if_neg c1] at h
    refine lv_aload_n hx hb dX6_rankRows_10 rfl (lv_at hl 0 rfl) ?_
    refine r_get F hP i_X6 47 (xe_47 E q) rfl 9 (by decide) rfl lf_X6_54 rfl dX6_rankRows_11 ?_
    obtain ⟨r9, e10, h⟩ := Option.bind_eq_some_iff.mp h
    refine q_callV (As := []) (rest := []) F hA hP hD hS (c_X5_emptyBuckets (E := E) (l := l) q e10) k_X5_emptyBuckets in_X5_emptyBuckets se_X5_emptyBuckets lm_X6_189 49 (xe_49 E q) rfl ⟨rfl, rfl⟩ ⟨by decide, by decide⟩ rfl hl.1 rfl (Nat.le_of_ble_eq_true rfl) dX6_rankRows_14 ⟨by decide, by decide⟩ ?_
    intro H locs hP hD hS
    exact g_X6_rankRows_17 F hA hRt r9 x1 h _ (lv_sub hl [0, 1] rfl) _ _ hP hD hS
def f_X6_rankRows (q : QS) (x1 : Int32) : Option (Int32 × QS) := f_X6_rankRows_0 q x1
set_option maxRecDepth 100000 in
theorem c_X6_rankRows {E : En} {l : Launch} (q : QS) (x1 : Int32) {o : Int32 × QS} (h : f_X6_rankRows q x1 = some o) : Ct (wX E) E l yX6_rankRows (wy yX6_rankRows cX6_rankRows 4 (some .int)) rm_X6_rankRows q o.2 [.ref (eA E 47), .int x1] (some (.int o.1)) :=
  ct_I (o := o) (by decide +kernel) rfl (fun p e s m below meth c A Q F hA hRt H locs hP hD hS => en_W [.ref (eA E 47), .int x1] (Nat.le_of_ble_eq_true rfl) (fun ls hl => g_X6_rankRows_0 F hA hRt q x1 h ls (lv_sub hl [0, 1] rfl) H locs hP hD hS))
def rm_X6_compareRows : Room := { frames := 2, cells := 0, slots := 0, locals := 53 }
def f_X6_compareRows_2_b (q : QS) (B2 : Int32 → Int32 → Int32 → Option (Int32)) (x1 : Int32) (x2 : Int32) (x3 : Int32) : Option (Int32) :=
  if (qF q 8) ≤ x3 then
    some (0 : Int32)
  else
    (rd (qI q 42) 4 x3).bind fun y2 =>
    (f_X5_placeOf x1 y2).bind fun r4 =>
    (f_X5_placeOf x2 y2).bind fun r6 =>
    (f_X8_compareNullsLast 4 q r4 r6).bind fun r8 =>
    if r8 = 0 then
      B2 x1 x2 (x3 + (1 : Int32))
    else
      (rd (qI q 43) 4 x3).bind fun y11 =>
      if y11 = 0 then
        some r8
      else
        some (-r8)
set_option maxHeartbeats 4000000 in
set_option maxRecDepth 100000 in
theorem g_X6_compareRows_2_b {E : En} {p : Program} {l : Launch} {e : Env} {s : State} {m : MethodId} {args : Array Value} {below : List Frame} {meth : Method} {c : Code} {A : Nat → Prop} {Q : State → Prop} (F : Fx E p s m args meth c (yX6_compareRows).cls cX6_compareRows 6 (some .int)) (hA : ∀ z : Nat, s.heap.size ≤ z → A z) {q : QS} {o : Int32} (hRt : RtI (wX E) E p l e rm_X6_compareRows s m args below meth c A Q cX6_compareRows (o, q)) {B2 : Int32 → Int32 → Int32 → Option (Int32)} (hB2 : ∀ (x1 : Int32) (x2 : Int32) (x3 : Int32), B2 x1 x2 x3 = some o → ∀ ls : Array Slot, lv_has ls 6 [(0, .ref (eA E 47)), (1, .int x1), (2, .int x2), (3, .int x3)] → Wq (wX E) E p l e rm_X6_compareRows s m args below meth c A 0 0 Q q (F0 m 2 ls [])) (x1 : Int32) (x2 : Int32) (x3 : Int32) (h : f_X6_compareRows_2_b q B2 x1 x2 x3 = some o) (ls : Array Slot) (hl : lv_has ls 6 [(0, .ref (eA E 47)), (1, .int x1), (2, .int x2), (3, .int x3)]) : Wq (wX E) E p l e rm_X6_compareRows s m args below meth c A 0 0 Q q (F0 m 2 ls []) := by
  intro H locs hP hD hS
  have hx := F.1
  have hb := F.2.1
  unfold f_X6_compareRows_2_b at h
  refine lv_iload_n hx hb dX6_compareRows_2 rfl (lv_at hl 3 rfl) ?_
  refine lv_aload_n hx hb dX6_compareRows_3 rfl (lv_at hl 0 rfl) ?_
  refine r_get F hP i_X6 47 (xe_47 E q) rfl 2 (by decide) rfl lf_X6_36 rfl dX6_compareRows_4 ?_
  refine r_get F hP i_X4 38 (xe_38 E q) rfl 2 (by decide) rfl lf_X6_278 rfl dX6_compareRows_7 ?_
  refine lv_icmp_ge (tgt := 80) hx hb dX6_compareRows_10 (by decide) (fun c1 => ?_) (fun c1 => ?_)
  · rw [if_pos c1] at h
    refine lv_iconst (v := 0) hx hb dX6_compareRows_80 (by decide) ?_
    cases h
    exact hRt _ _ dX6_compareRows_81 _ _ hP hD hS
  · rw [if_neg c1] at h
    refine lv_aload_n hx hb dX6_compareRows_13 rfl (lv_at hl 0 rfl) ?_
    refine r_get F hP i_X6 47 (xe_47 E q) rfl 2 (by decide) rfl lf_X6_36 rfl dX6_compareRows_14 ?_
    refine r_get F hP i_X4 38 (xe_38 E q) rfl 9 (by decide) rfl lf_X6_297 rfl dX6_compareRows_17 ?_
    refine lv_iload_n hx hb dX6_compareRows_20 rfl (lv_at hl 3 rfl) ?_
    obtain ⟨y2, e3, h⟩ := Option.bind_eq_some_iff.mp h
    refine r_iald F hP 42 (xe_42 E q) e3 dX6_compareRows_21 ?_
    refine lv_istore (lv' := [(4, .int y2), (0, .ref (eA E 47)), (1, .int x1), (2, .int x2), (3, .int x3)]) hx hb dX6_compareRows_22 hl (by decide) rfl (fun ls hl => ?_)
    refine lv_aload_n hx hb dX6_compareRows_24 rfl (lv_at hl 1 rfl) ?_
    refine r_get F hP i_X6 47 (xe_47 E q) rfl 9 (by decide) rfl lf_X6_54 rfl dX6_compareRows_25 ?_
    refine r_get F hP i_X5 49 (xe_49 E q) rfl 9 (by decide) rfl lf_X6_246 rfl dX6_compareRows_28 ?_
    refine lv_iload_n hx hb dX6_compareRows_31 rfl (lv_at hl 2 rfl) ?_
    refine lv_iload hx hb dX6_compareRows_32 (lv_at hl 0 rfl) ?_
    obtain ⟨r4, e5, h⟩ := Option.bind_eq_some_iff.mp h
    refine q_callS (As := [.int x1, .int y2]) (rest := [.ref (eA E 12)]) F hA hP hD hS (c_X5_placeOf (E := E) (l := l) q x1 y2 e5) k_X5_placeOf st_X5_placeOf lm_X6_247 ⟨rfl, rfl⟩ ⟨by decide, by decide⟩ rfl hl.1 rfl (Nat.le_of_ble_eq_true rfl) dX6_compareRows_34 ⟨by decide, by decide⟩ ?_
    intro H locs hP hD hS
    refine lv_iload_n hx hb dX6_compareRows_37 rfl (lv_at hl 3 rfl) ?_
    refine lv_iload hx hb dX6_compareRows_38 (lv_at hl 0 rfl) ?_
    obtain ⟨r6, e7, h⟩ := Option.bind_eq_some_iff.mp h
    refine q_callS (As := [.int x2, .int y2]) (rest := [.int r4, .ref (eA E 12)]) F hA hP hD hS (c_X5_placeOf (E := E) (l := l) q x2 y2 e7) k_X5_placeOf st_X5_placeOf lm_X6_247 ⟨rfl, rfl⟩ ⟨by decide, by decide⟩ rfl hl.1 rfl (Nat.le_of_ble_eq_true rfl) dX6_compareRows_40 ⟨by decide, by decide⟩ ?_
    intro H locs hP hD hS
    obtain ⟨r8, e9, h⟩ := Option.bind_eq_some_iff.mp h
    refine q_callV (As := [.int r4, .int r6]) (rest := []) F hA hP hD hS (c_X8_compareNullsLast (E := E) (l := l) (v := 4) (by decide) q r4 r6 e9) k_X8_compareNullsLast in_X8_compareNullsLast se_X8_compareNullsLast lm_X6_300 12 (xe_12 E q) rfl ⟨rfl, rfl⟩ ⟨by decide, by decide⟩ rfl hl.1 rfl (Nat.le_of_ble_eq_true rfl) dX6_compareRows_43 ⟨by decide, by decide⟩ ?_
    intro H locs hP hD hS
    refine lv_istore (lv' := [(5, .int r8), (4, .int y2), (0, .ref (eA E 47)), (1, .int x1), (2, .int x2), (3, .int x3)]) hx hb dX6_compareRows_46 hl (by decide) rfl (fun ls hl => ?_)
    refine lv_iload hx hb dX6_compareRows_48 (lv_at hl 0 rfl) ?_
    refine lv_if_eq (tgt := 74) hx hb dX6_compareRows_50 (by decide) (fun c10 => ?_) (fun c10 => ?_)
    · rw [if_pos c10] at h
      refine lv_iinc (v := (x3 + (1 : Int32))) (lv' := [(3, .int (x3 + (1 : Int32))), (5, .int r8), (4, .int y2), (0, .ref (eA E 47)), (1, .int x1), (2, .int x2)]) hx hb dX6_compareRows_74 hl (k := 5) rfl rfl (by decide) rfl (fun ls hl => ?_)
      refine lv_goto (tgt := 2) hx hb dX6_compareRows_77 (by decide) ?_
      exact hB2 x1 x2 (x3 + (1 : Int32)) h _ (lv_sub hl [3, 4, 5, 0] rfl) _ _ hP hD hS
    · rw [if_neg c10] at h
      refine lv_aload_n hx hb dX6_compareRows_53 rfl (lv_at hl 2 rfl) ?_
      refine r_get F hP i_X6 47 (xe_47 E q) rfl 2 (by decide) rfl lf_X6_36 rfl dX6_compareRows_54 ?_
      refine r_get F hP i_X4 38 (xe_38 E q) rfl 10 (by decide) rfl lf_X6_303 rfl dX6_compareRows_57 ?_
      refine lv_iload_n hx hb dX6_compareRows_60 rfl (lv_at hl 5 rfl) ?_
      obtain ⟨y11, e12, h⟩ := Option.bind_eq_some_iff.mp h
      refine r_zald F hP 43 (xe_43 E q) e12 dX6_compareRows_61 ?_
      refine lv_if_eq (tgt := 71) hx hb dX6_compareRows_62 (by decide) (fun c13 => ?_) (fun c13 => ?_)
      · rw [if_pos c13] at h
        refine lv_iload hx hb dX6_compareRows_71 (lv_at hl 0 rfl) ?_
        cases h
        exact hRt _ _ dX6_compareRows_73 _ _ hP hD hS
      · rw [if_neg c13] at h
        refine lv_iload hx hb dX6_compareRows_65 (lv_at hl 0 rfl) ?_
        refine lv_ineg hx hb dX6_compareRows_67 ?_
        refine lv_goto (tgt := 73) hx hb dX6_compareRows_68 (by decide) ?_
        cases h
        exact hRt _ _ dX6_compareRows_73 _ _ hP hD hS
def f_X6_compareRows_2 (q : QS) : Nat → Int32 → Int32 → Int32 → Option (Int32)
  | 0 => fun _ _ _ => none
  | n + 1 => f_X6_compareRows_2_b q (f_X6_compareRows_2 q n)
theorem g_X6_compareRows_2 {E : En} {p : Program} {l : Launch} {e : Env} {s : State} {m : MethodId} {args : Array Value} {below : List Frame} {meth : Method} {c : Code} {A : Nat → Prop} {Q : State → Prop} (F : Fx E p s m args meth c (yX6_compareRows).cls cX6_compareRows 6 (some .int)) (hA : ∀ z : Nat, s.heap.size ≤ z → A z) {q : QS} {o : Int32} (hRt : RtI (wX E) E p l e rm_X6_compareRows s m args below meth c A Q cX6_compareRows (o, q)) (n : Nat) : ∀ (x1 : Int32) (x2 : Int32) (x3 : Int32), f_X6_compareRows_2 q n x1 x2 x3 = some o → ∀ ls : Array Slot, lv_has ls 6 [(0, .ref (eA E 47)), (1, .int x1), (2, .int x2), (3, .int x3)] → Wq (wX E) E p l e rm_X6_compareRows s m args below meth c A 0 0 Q q (F0 m 2 ls []) := by
  induction n with
  | zero => intro x1 x2 x3 h; cases h
  | succ n ih => intro x1 x2 x3 h; exact g_X6_compareRows_2_b F hA hRt ih x1 x2 x3 h
def f_X6_compareRows_0 (q : QS) (x1 : Int32) (x2 : Int32) : Option (Int32) :=
  f_X6_compareRows_2 q FU x1 x2 (0 : Int32)
set_option maxHeartbeats 4000000 in
set_option maxRecDepth 100000 in
theorem g_X6_compareRows_0 {E : En} {p : Program} {l : Launch} {e : Env} {s : State} {m : MethodId} {args : Array Value} {below : List Frame} {meth : Method} {c : Code} {A : Nat → Prop} {Q : State → Prop} (F : Fx E p s m args meth c (yX6_compareRows).cls cX6_compareRows 6 (some .int)) (hA : ∀ z : Nat, s.heap.size ≤ z → A z) {q : QS} {o : Int32} (hRt : RtI (wX E) E p l e rm_X6_compareRows s m args below meth c A Q cX6_compareRows (o, q)) (x1 : Int32) (x2 : Int32) (h : f_X6_compareRows_0 q x1 x2 = some o) (ls : Array Slot) (hl : lv_has ls 6 [(0, .ref (eA E 47)), (1, .int x1), (2, .int x2)]) : Wq (wX E) E p l e rm_X6_compareRows s m args below meth c A 0 0 Q q (F0 m 0 ls []) := by
  intro H locs hP hD hS
  have hx := F.1
  have hb := F.2.1
  unfold f_X6_compareRows_0 at h
  refine lv_iconst (v := 0) hx hb dX6_compareRows_0 (by decide) ?_
  refine lv_istore_n (lv' := [(3, .int (0 : Int32)), (0, .ref (eA E 47)), (1, .int x1), (2, .int x2)]) hx hb dX6_compareRows_1 rfl hl (by decide) rfl (fun ls hl => ?_)
  exact g_X6_compareRows_2 F hA hRt FU x1 x2 (0 : Int32) h _ (lv_sub hl [1, 2, 3, 0] rfl) _ _ hP hD hS
def f_X6_compareRows (q : QS) (x1 : Int32) (x2 : Int32) : Option (Int32) := f_X6_compareRows_0 q x1 x2
set_option maxRecDepth 100000 in
theorem c_X6_compareRows {E : En} {l : Launch} (q : QS) (x1 : Int32) (x2 : Int32) {o : Int32} (h : f_X6_compareRows q x1 x2 = some o) : Ct (wX E) E l yX6_compareRows (wy yX6_compareRows cX6_compareRows 6 (some .int)) rm_X6_compareRows q q [.ref (eA E 47), .int x1, .int x2] (some (.int o)) :=
  ct_I (o := (o, q)) (by decide +kernel) rfl (fun p e s m below meth c A Q F hA hRt H locs hP hD hS => en_W [.ref (eA E 47), .int x1, .int x2] (Nat.le_of_ble_eq_true rfl) (fun ls hl => g_X6_compareRows_0 F hA hRt x1 x2 h ls (lv_sub hl [0, 1, 2] rfl) H locs hP hD hS))
def rm_X6_merge : Room := { frames := 3, cells := 0, slots := 0, locals := 78 }
def f_X6_merge_104 (B18 : QS → Int32 → Int32 → Int32 → Int32 → Int32 → Option (QS)) (q : QS) (x2 : Int32) (x3 : Int32) (x5 : Int32) (x6 : Int32) (x7 : Int32) : Option (QS) :=
  B18 q x2 x3 x5 x6 (x7 + (1 : Int32))
set_option maxHeartbeats 4000000 in
set_option maxRecDepth 100000 in
theorem g_X6_merge_104 {E : En} {p : Program} {l : Launch} {e : Env} {s : State} {m : MethodId} {args : Array Value} {below : List Frame} {meth : Method} {c : Code} {A : Nat → Prop} {Q : State → Prop} (F : Fx E p s m args meth c (yX6_merge).cls cX6_merge 9 none) (hA : ∀ z : Nat, s.heap.size ≤ z → A z) {o : QS} (hRt : RtV (wX E) E p l e rm_X6_merge s m args below meth c A Q cX6_merge o) {B18 : QS → Int32 → Int32 → Int32 → Int32 → Int32 → Option (QS)} (hB18 : ∀ (q : QS) (x2 : Int32) (x3 : Int32) (x5 : Int32) (x6 : Int32) (x7 : Int32), B18 q x2 x3 x5 x6 x7 = some o → ∀ ls : Array Slot, lv_has ls 9 [(0, .ref (eA E 47)), (2, .int x2), (3, .int x3), (4, .ref (eA E 54)), (5, .int x5), (6, .int x6), (7, .int x7)] → Wq (wX E) E p l e rm_X6_merge s m args below meth c A 0 0 Q q (F0 m 18 ls [])) (q : QS) (x2 : Int32) (x3 : Int32) (x5 : Int32) (x6 : Int32) (x7 : Int32) (h : f_X6_merge_104 B18 q x2 x3 x5 x6 x7 = some o) (ls : Array Slot) (hl : lv_has ls 9 [(0, .ref (eA E 47)), (2, .int x2), (3, .int x3), (4, .ref (eA E 54)), (5, .int x5), (6, .int x6), (7, .int x7)]) : Wq (wX E) E p l e rm_X6_merge s m args below meth c A 0 0 Q q (F0 m 104 ls []) := by
  intro H locs hP hD hS
  have hx := F.1
  have hb := F.2.1
  unfold f_X6_merge_104 at h
  refine lv_iinc (v := (x7 + (1 : Int32))) (lv' := [(7, .int (x7 + (1 : Int32))), (0, .ref (eA E 47)), (2, .int x2), (3, .int x3), (4, .ref (eA E 54)), (5, .int x5), (6, .int x6)]) hx hb dX6_merge_104 hl (k := 6) rfl rfl (by decide) rfl (fun ls hl => ?_)
  refine lv_goto (tgt := 18) hx hb dX6_merge_107 (by decide) ?_
  exact hB18 q x2 x3 x5 x6 (x7 + (1 : Int32)) h _ (lv_sub hl [1, 2, 3, 4, 5, 6, 0] rfl) _ _ hP hD hS
def f_X6_merge_58 (B18 : QS → Int32 → Int32 → Int32 → Int32 → Int32 → Option (QS)) (q : QS) (x2 : Int32) (x3 : Int32) (x5 : Int32) (x6 : Int32) (x7 : Int32) (t0 : Int32) : Option (QS) :=
  if t0 = 0 then
    (rd (qI q 54) (qC q) x6).bind fun y4 =>
    (wI q 55 (qC q) x7 y4).bind fun q6 =>
    f_X6_merge_104 B18 q6 x2 x3 x5 (x6 + (1 : Int32)) x7
  else
    (rd (qI q 54) (qC q) x5).bind fun y8 =>
    (wI q 55 (qC q) x7 y8).bind fun q10 =>
    f_X6_merge_104 B18 q10 x2 x3 (x5 + (1 : Int32)) x6 x7
set_option maxHeartbeats 4000000 in
set_option maxRecDepth 100000 in
theorem g_X6_merge_58 {E : En} {p : Program} {l : Launch} {e : Env} {s : State} {m : MethodId} {args : Array Value} {below : List Frame} {meth : Method} {c : Code} {A : Nat → Prop} {Q : State → Prop} (F : Fx E p s m args meth c (yX6_merge).cls cX6_merge 9 none) (hA : ∀ z : Nat, s.heap.size ≤ z → A z) {o : QS} (hRt : RtV (wX E) E p l e rm_X6_merge s m args below meth c A Q cX6_merge o) {B18 : QS → Int32 → Int32 → Int32 → Int32 → Int32 → Option (QS)} (hB18 : ∀ (q : QS) (x2 : Int32) (x3 : Int32) (x5 : Int32) (x6 : Int32) (x7 : Int32), B18 q x2 x3 x5 x6 x7 = some o → ∀ ls : Array Slot, lv_has ls 9 [(0, .ref (eA E 47)), (2, .int x2), (3, .int x3), (4, .ref (eA E 54)), (5, .int x5), (6, .int x6), (7, .int x7)] → Wq (wX E) E p l e rm_X6_merge s m args below meth c A 0 0 Q q (F0 m 18 ls [])) (q : QS) (x2 : Int32) (x3 : Int32) (x5 : Int32) (x6 : Int32) (x7 : Int32) (t0 : Int32) (h : f_X6_merge_58 B18 q x2 x3 x5 x6 x7 t0 = some o) (ls : Array Slot) (hl : lv_has ls 9 [(0, .ref (eA E 47)), (2, .int x2), (3, .int x3), (4, .ref (eA E 54)), (5, .int x5), (6, .int x6), (7, .int x7)]) : Wq (wX E) E p l e rm_X6_merge s m args below meth c A 0 0 Q q (F0 m 58 ls [.int t0]) := by
  intro H locs hP hD hS
  have hx := F.1
  have hb := F.2.1
  unfold f_X6_merge_58 at h
  refine lv_istore (lv' := [(8, .int t0), (0, .ref (eA E 47)), (2, .int x2), (3, .int x3), (4, .ref (eA E 54)), (5, .int x5), (6, .int x6), (7, .int x7)]) hx hb dX6_merge_58 hl (by decide) rfl (fun ls hl => ?_)
  refine lv_iload hx hb dX6_merge_60 (lv_at hl 0 rfl) ?_
  refine lv_if_eq (tgt := 86) hx hb dX6_merge_62 (by decide) (fun c3 => ?_) (fun c3 => ?_)
  · rw [if_pos c3] at h
    refine lv_aload_n hx hb dX6_merge_86 rfl (lv_at hl 1 rfl) ?_
    refine r_get F hP i_X6 47 (xe_47 E q) rfl 9 (by decide) rfl lf_X6_54 rfl dX6_merge_87 ?_
    refine r_get F hP i_X5 49 (xe_49 E q) rfl 6 (by decide) rfl lf_X6_285 rfl dX6_merge_90 ?_
    refine lv_iload hx hb dX6_merge_93 (lv_at hl 7 rfl) ?_
    refine lv_aload hx hb dX6_merge_95 (lv_at hl 4 rfl) ?_
    refine lv_iload hx hb dX6_merge_97 (lv_at hl 6 rfl) ?_
    obtain ⟨y4, e5, h⟩ := Option.bind_eq_some_iff.mp h
    refine r_iald F hP 54 (xe_54 E q) e5 dX6_merge_99 ?_
    obtain ⟨q6, e7, h⟩ := Option.bind_eq_some_iff.mp h
    refine r_iast F hP hD hS 55 (xe_55 E q) (xs_55 E q) e7 dX6_merge_100 ?_
    intro H locs hP hD hS
    refine lv_iinc (v := (x6 + (1 : Int32))) (lv' := [(6, .int (x6 + (1 : Int32))), (8, .int t0), (0, .ref (eA E 47)), (2, .int x2), (3, .int x3), (4, .ref (eA E 54)), (5, .int x5), (7, .int x7)]) hx hb dX6_merge_101 hl (k := 6) rfl rfl (by decide) rfl (fun ls hl => ?_)
    exact g_X6_merge_104 F hA hRt hB18 q6 x2 x3 x5 (x6 + (1 : Int32)) x7 h _ (lv_sub hl [2, 3, 4, 5, 6, 0, 7] rfl) _ _ hP hD hS
  · rw [if_neg c3] at h
    refine lv_aload_n hx hb dX6_merge_65 rfl (lv_at hl 1 rfl) ?_
    refine r_get F hP i_X6 47 (xe_47 E q) rfl 9 (by decide) rfl lf_X6_54 rfl dX6_merge_66 ?_
    refine r_get F hP i_X5 49 (xe_49 E q) rfl 6 (by decide) rfl lf_X6_285 rfl dX6_merge_69 ?_
    refine lv_iload hx hb dX6_merge_72 (lv_at hl 7 rfl) ?_
    refine lv_aload hx hb dX6_merge_74 (lv_at hl 4 rfl) ?_
    refine lv_iload hx hb dX6_merge_76 (lv_at hl 5 rfl) ?_
    obtain ⟨y8, e9, h⟩ := Option.bind_eq_some_iff.mp h
    refine r_iald F hP 54 (xe_54 E q) e9 dX6_merge_78 ?_
    obtain ⟨q10, e11, h⟩ := Option.bind_eq_some_iff.mp h
    refine r_iast F hP hD hS 55 (xe_55 E q) (xs_55 E q) e11 dX6_merge_79 ?_
    intro H locs hP hD hS
    refine lv_iinc (v := (x5 + (1 : Int32))) (lv' := [(5, .int (x5 + (1 : Int32))), (8, .int t0), (0, .ref (eA E 47)), (2, .int x2), (3, .int x3), (4, .ref (eA E 54)), (6, .int x6), (7, .int x7)]) hx hb dX6_merge_80 hl (k := 5) rfl rfl (by decide) rfl (fun ls hl => ?_)
    refine lv_goto (tgt := 104) hx hb dX6_merge_83 (by decide) ?_
    exact g_X6_merge_104 F hA hRt hB18 q10 x2 x3 (x5 + (1 : Int32)) x6 x7 h _ (lv_sub hl [2, 3, 4, 5, 0, 6, 7] rfl) _ _ hP hD hS
def f_X6_merge_53 (B18 : QS → Int32 → Int32 → Int32 → Int32 → Int32 → Option (QS)) (q : QS) (x2 : Int32) (x3 : Int32) (x5 : Int32) (x6 : Int32) (x7 : Int32) : Option (QS) :=
  f_X6_merge_58 B18 q x2 x3 x5 x6 x7 (1 : Int32)
set_option maxHeartbeats 4000000 in
set_option maxRecDepth 100000 in
theorem g_X6_merge_53 {E : En} {p : Program} {l : Launch} {e : Env} {s : State} {m : MethodId} {args : Array Value} {below : List Frame} {meth : Method} {c : Code} {A : Nat → Prop} {Q : State → Prop} (F : Fx E p s m args meth c (yX6_merge).cls cX6_merge 9 none) (hA : ∀ z : Nat, s.heap.size ≤ z → A z) {o : QS} (hRt : RtV (wX E) E p l e rm_X6_merge s m args below meth c A Q cX6_merge o) {B18 : QS → Int32 → Int32 → Int32 → Int32 → Int32 → Option (QS)} (hB18 : ∀ (q : QS) (x2 : Int32) (x3 : Int32) (x5 : Int32) (x6 : Int32) (x7 : Int32), B18 q x2 x3 x5 x6 x7 = some o → ∀ ls : Array Slot, lv_has ls 9 [(0, .ref (eA E 47)), (2, .int x2), (3, .int x3), (4, .ref (eA E 54)), (5, .int x5), (6, .int x6), (7, .int x7)] → Wq (wX E) E p l e rm_X6_merge s m args below meth c A 0 0 Q q (F0 m 18 ls [])) (q : QS) (x2 : Int32) (x3 : Int32) (x5 : Int32) (x6 : Int32) (x7 : Int32) (h : f_X6_merge_53 B18 q x2 x3 x5 x6 x7 = some o) (ls : Array Slot) (hl : lv_has ls 9 [(0, .ref (eA E 47)), (2, .int x2), (3, .int x3), (4, .ref (eA E 54)), (5, .int x5), (6, .int x6), (7, .int x7)]) : Wq (wX E) E p l e rm_X6_merge s m args below meth c A 0 0 Q q (F0 m 53 ls []) := by
  intro H locs hP hD hS
  have hx := F.1
  have hb := F.2.1
  unfold f_X6_merge_53 at h
  refine lv_iconst (v := 1) hx hb dX6_merge_53 (by decide) ?_
  refine lv_goto (tgt := 58) hx hb dX6_merge_54 (by decide) ?_
  exact g_X6_merge_58 F hA hRt hB18 q x2 x3 x5 x6 x7 (1 : Int32) h _ (lv_sub hl [0, 1, 2, 3, 4, 5, 6] rfl) _ _ hP hD hS
def f_X6_merge_57 (B18 : QS → Int32 → Int32 → Int32 → Int32 → Int32 → Option (QS)) (q : QS) (x2 : Int32) (x3 : Int32) (x5 : Int32) (x6 : Int32) (x7 : Int32) : Option (QS) :=
  f_X6_merge_58 B18 q x2 x3 x5 x6 x7 (0 : Int32)
set_option maxHeartbeats 4000000 in
set_option maxRecDepth 100000 in
theorem g_X6_merge_57 {E : En} {p : Program} {l : Launch} {e : Env} {s : State} {m : MethodId} {args : Array Value} {below : List Frame} {meth : Method} {c : Code} {A : Nat → Prop} {Q : State → Prop} (F : Fx E p s m args meth c (yX6_merge).cls cX6_merge 9 none) (hA : ∀ z : Nat, s.heap.size ≤ z → A z) {o : QS} (hRt : RtV (wX E) E p l e rm_X6_merge s m args below meth c A Q cX6_merge o) {B18 : QS → Int32 → Int32 → Int32 → Int32 → Int32 → Option (QS)} (hB18 : ∀ (q : QS) (x2 : Int32) (x3 : Int32) (x5 : Int32) (x6 : Int32) (x7 : Int32), B18 q x2 x3 x5 x6 x7 = some o → ∀ ls : Array Slot, lv_has ls 9 [(0, .ref (eA E 47)), (2, .int x2), (3, .int x3), (4, .ref (eA E 54)), (5, .int x5), (6, .int x6), (7, .int x7)] → Wq (wX E) E p l e rm_X6_merge s m args below meth c A 0 0 Q q (F0 m 18 ls [])) (q : QS) (x2 : Int32) (x3 : Int32) (x5 : Int32) (x6 : Int32) (x7 : Int32) (h : f_X6_merge_57 B18 q x2 x3 x5 x6 x7 = some o) (ls : Array Slot) (hl : lv_has ls 9 [(0, .ref (eA E 47)), (2, .int x2), (3, .int x3), (4, .ref (eA E 54)), (5, .int x5), (6, .int x6), (7, .int x7)]) : Wq (wX E) E p l e rm_X6_merge s m args below meth c A 0 0 Q q (F0 m 57 ls []) := by
  intro H locs hP hD hS
  have hx := F.1
  have hb := F.2.1
  unfold f_X6_merge_57 at h
  refine lv_iconst (v := 0) hx hb dX6_merge_57 (by decide) ?_
  exact g_X6_merge_58 F hA hRt hB18 q x2 x3 x5 x6 x7 (0 : Int32) h _ (lv_sub hl [0, 1, 2, 3, 4, 5, 6] rfl) _ _ hP hD hS
def f_X6_merge_18_b (B18 : QS → Int32 → Int32 → Int32 → Int32 → Int32 → Option (QS)) (q : QS) (x2 : Int32) (x3 : Int32) (x5 : Int32) (x6 : Int32) (x7 : Int32) : Option (QS) :=
  if x3 ≤ x7 then
    some q
  else
    if x3 ≤ x6 then
      f_X6_merge_53 B18 q x2 x3 x5 x6 x7
    else
      if x2 ≤ x5 then
        f_X6_merge_57 B18 q x2 x3 x5 x6 x7
      else
        (rd (qI q 54) (qC q) x5).bind fun y13 =>
        (rd (qI q 54) (qC q) x6).bind fun y15 =>
        (f_X6_compareRows q y13 y15).bind fun r17 =>
        if 0 < r17 then
          f_X6_merge_57 B18 q x2 x3 x5 x6 x7
        else
          f_X6_merge_53 B18 q x2 x3 x5 x6 x7
set_option maxHeartbeats 4000000 in
set_option maxRecDepth 100000 in
theorem g_X6_merge_18_b {E : En} {p : Program} {l : Launch} {e : Env} {s : State} {m : MethodId} {args : Array Value} {below : List Frame} {meth : Method} {c : Code} {A : Nat → Prop} {Q : State → Prop} (F : Fx E p s m args meth c (yX6_merge).cls cX6_merge 9 none) (hA : ∀ z : Nat, s.heap.size ≤ z → A z) {o : QS} (hRt : RtV (wX E) E p l e rm_X6_merge s m args below meth c A Q cX6_merge o) {B18 : QS → Int32 → Int32 → Int32 → Int32 → Int32 → Option (QS)} (hB18 : ∀ (q : QS) (x2 : Int32) (x3 : Int32) (x5 : Int32) (x6 : Int32) (x7 : Int32), B18 q x2 x3 x5 x6 x7 = some o → ∀ ls : Array Slot, lv_has ls 9 [(0, .ref (eA E 47)), (2, .int x2), (3, .int x3), (4, .ref (eA E 54)), (5, .int x5), (6, .int x6), (7, .int x7)] → Wq (wX E) E p l e rm_X6_merge s m args below meth c A 0 0 Q q (F0 m 18 ls [])) (q : QS) (x2 : Int32) (x3 : Int32) (x5 : Int32) (x6 : Int32) (x7 : Int32) (h : f_X6_merge_18_b B18 q x2 x3 x5 x6 x7 = some o) (ls : Array Slot) (hl : lv_has ls 9 [(0, .ref (eA E 47)), (2, .int x2), (3, .int x3), (4, .ref (eA E 54)), (5, .int x5), (6, .int x6), (7, .int x7)]) : Wq (wX E) E p l e rm_X6_merge s m args below meth c A 0 0 Q q (F0 m 18 ls []) := by
  intro H locs hP hD hS
  have hx := F.1
  have hb := F.2.1
  unfold f_X6_merge_18_b at h
  refine lv_iload hx hb dX6_merge_18 (lv_at hl 6 rfl) ?_
  refine lv_iload_n hx hb dX6_merge_20 rfl (lv_at hl 2 rfl) ?_
  refine lv_icmp_ge (tgt := 110) hx hb dX6_merge_21 (by decide) (fun c1 => ?_) (fun c1 => ?_)
  · rw [if_pos c1] at h
    cases h
    exact hRt _ _ dX6_merge_110 _ _ hP hD hS
  · rw [if_neg c1] at h
    refine lv_iload hx hb dX6_merge_24 (lv_at hl 5 rfl) ?_
    refine lv_iload_n hx hb dX6_merge_26 rfl (lv_at hl 2 rfl) ?_
    refine lv_icmp_ge (tgt := 53) hx hb dX6_merge_27 (by decide) (fun c2 => ?_) (fun c2 => ?_)
    · rw [if_pos c2] at h
      exact g_X6_merge_53 F hA hRt hB18 q x2 x3 x5 x6 x7 h _ (lv_sub hl [0, 1, 2, 3, 4, 5, 6] rfl) _ _ hP hD hS
    · rw [if_neg c2] at h
      refine lv_iload hx hb dX6_merge_30 (lv_at hl 4 rfl) ?_
      refine lv_iload_n hx hb dX6_merge_32 rfl (lv_at hl 1 rfl) ?_
      refine lv_icmp_ge (tgt := 57) hx hb dX6_merge_33 (by decide) (fun c12 => ?_) (fun c12 => ?_)
      · rw [if_pos c12] at h
        exact g_X6_merge_57 F hA hRt hB18 q x2 x3 x5 x6 x7 h _ (lv_sub hl [0, 1, 2, 3, 4, 5, 6] rfl) _ _ hP hD hS
      · rw [if_neg c12] at h
        refine lv_aload_n hx hb dX6_merge_36 rfl (lv_at hl 0 rfl) ?_
        refine lv_aload hx hb dX6_merge_37 (lv_at hl 3 rfl) ?_
        refine lv_iload hx hb dX6_merge_39 (lv_at hl 4 rfl) ?_
        obtain ⟨y13, e14, h⟩ := Option.bind_eq_some_iff.mp h
        refine r_iald F hP 54 (xe_54 E q) e14 dX6_merge_41 ?_
        refine lv_aload hx hb dX6_merge_42 (lv_at hl 3 rfl) ?_
        refine lv_iload hx hb dX6_merge_44 (lv_at hl 5 rfl) ?_
        obtain ⟨y15, e16, h⟩ := Option.bind_eq_some_iff.mp h
        refine r_iald F hP 54 (xe_54 E q) e16 dX6_merge_46 ?_
        obtain ⟨r17, e18, h⟩ := Option.bind_eq_some_iff.mp h
        refine q_callV (As := [.int y13, .int y15]) (rest := []) F hA hP hD hS (c_X6_compareRows (E := E) (l := l) q y13 y15 e18) k_X6_compareRows in_X6_compareRows se_X6_compareRows lm_X6_294 47 (xe_47 E q) rfl ⟨rfl, rfl⟩ ⟨by decide, by decide⟩ rfl hl.1 rfl (Nat.le_of_ble_eq_true rfl) dX6_merge_47 ⟨by decide, by decide⟩ ?_
        intro H locs hP hD hS
        refine lv_if_gt (tgt := 57) hx hb dX6_merge_50 (by decide) (fun c19 => ?_) (fun c19 => ?_)
        · rw [if_pos c19] at h
          exact g_X6_merge_57 F hA hRt hB18 q x2 x3 x5 x6 x7 h _ (lv_sub hl [0, 1, 2, 3, 4, 5, 6] rfl) _ _ hP hD hS
        · rw [if_neg c19] at h
          exact g_X6_merge_53 F hA hRt hB18 q x2 x3 x5 x6 x7 h _ (lv_sub hl [0, 1, 2, 3, 4, 5, 6] rfl) _ _ hP hD hS
def f_X6_merge_18 : Nat → QS → Int32 → Int32 → Int32 → Int32 → Int32 → Option (QS)
  | 0 => fun _ _ _ _ _ _ => none
  | n + 1 => f_X6_merge_18_b (f_X6_merge_18 n)
theorem g_X6_merge_18 {E : En} {p : Program} {l : Launch} {e : Env} {s : State} {m : MethodId} {args : Array Value} {below : List Frame} {meth : Method} {c : Code} {A : Nat → Prop} {Q : State → Prop} (F : Fx E p s m args meth c (yX6_merge).cls cX6_merge 9 none) (hA : ∀ z : Nat, s.heap.size ≤ z → A z) {o : QS} (hRt : RtV (wX E) E p l e rm_X6_merge s m args below meth c A Q cX6_merge o) (n : Nat) : ∀ (q : QS) (x2 : Int32) (x3 : Int32) (x5 : Int32) (x6 : Int32) (x7 : Int32), f_X6_merge_18 n q x2 x3 x5 x6 x7 = some o → ∀ ls : Array Slot, lv_has ls 9 [(0, .ref (eA E 47)), (2, .int x2), (3, .int x3), (4, .ref (eA E 54)), (5, .int x5), (6, .int x6), (7, .int x7)] → Wq (wX E) E p l e rm_X6_merge s m args below meth c A 0 0 Q q (F0 m 18 ls []) := by
  induction n with
  | zero => intro q x2 x3 x5 x6 x7 h; cases h
  | succ n ih => intro q x2 x3 x5 x6 x7 h; exact g_X6_merge_18_b F hA hRt ih q x2 x3 x5 x6 x7 h
def f_X6_merge_0 (q : QS) (x1 : Int32) (x2 : Int32) (x3 : Int32) : Option (QS) :=
  f_X6_merge_18 FU q x2 x3 x1 x2 x1
set_option maxHeartbeats 4000000 in
set_option maxRecDepth 100000 in
theorem g_X6_merge_0 {E : En} {p : Program} {l : Launch} {e : Env} {s : State} {m : MethodId} {args : Array Value} {below : List Frame} {meth : Method} {c : Code} {A : Nat → Prop} {Q : State → Prop} (F : Fx E p s m args meth c (yX6_merge).cls cX6_merge 9 none) (hA : ∀ z : Nat, s.heap.size ≤ z → A z) {o : QS} (hRt : RtV (wX E) E p l e rm_X6_merge s m args below meth c A Q cX6_merge o) (q : QS) (x1 : Int32) (x2 : Int32) (x3 : Int32) (h : f_X6_merge_0 q x1 x2 x3 = some o) (ls : Array Slot) (hl : lv_has ls 9 [(0, .ref (eA E 47)), (1, .int x1), (2, .int x2), (3, .int x3)]) : Wq (wX E) E p l e rm_X6_merge s m args below meth c A 0 0 Q q (F0 m 0 ls []) := by
  intro H locs hP hD hS
  have hx := F.1
  have hb := F.2.1
  unfold f_X6_merge_0 at h
  refine lv_aload_n hx hb dX6_merge_0 rfl (lv_at hl 0 rfl) ?_
  refine r_get F hP i_X6 47 (xe_47 E q) rfl 9 (by decide) rfl lf_X6_54 rfl dX6_merge_1 ?_
  refine r_get F hP i_X5 49 (xe_49 E q) rfl 5 (by decide) rfl lf_X6_269 rfl dX6_merge_4 ?_
  refine lv_astore (lv' := [(4, .ref (eA E 54)), (0, .ref (eA E 47)), (1, .int x1), (2, .int x2), (3, .int x3)]) hx hb dX6_merge_7 hl (by decide) rfl (fun ls hl => ?_)
  refine lv_iload_n hx hb dX6_merge_9 rfl (lv_at hl 2 rfl) ?_
  refine lv_istore (lv' := [(5, .int x1), (4, .ref (eA E 54)), (0, .ref (eA E 47)), (1, .int x1), (2, .int x2), (3, .int x3)]) hx hb dX6_merge_10 hl (by decide) rfl (fun ls hl => ?_)
  refine lv_iload_n hx hb dX6_merge_12 rfl (lv_at hl 4 rfl) ?_
  refine lv_istore (lv' := [(6, .int x2), (5, .int x1), (4, .ref (eA E 54)), (0, .ref (eA E 47)), (1, .int x1), (2, .int x2), (3, .int x3)]) hx hb dX6_merge_13 hl (by decide) rfl (fun ls hl => ?_)
  refine lv_iload_n hx hb dX6_merge_15 rfl (lv_at hl 4 rfl) ?_
  refine lv_istore (lv' := [(7, .int x1), (6, .int x2), (5, .int x1), (4, .ref (eA E 54)), (0, .ref (eA E 47)), (1, .int x1), (2, .int x2), (3, .int x3)]) hx hb dX6_merge_16 hl (by decide) rfl (fun ls hl => ?_)
  exact g_X6_merge_18 F hA hRt FU q x2 x3 x1 x2 x1 h _ (lv_sub hl [4, 6, 7, 3, 2, 1, 0] rfl) _ _ hP hD hS
def f_X6_merge (q : QS) (x1 : Int32) (x2 : Int32) (x3 : Int32) : Option (QS) := f_X6_merge_0 q x1 x2 x3
set_option maxRecDepth 100000 in
theorem c_X6_merge {E : En} {l : Launch} (q : QS) (x1 : Int32) (x2 : Int32) (x3 : Int32) {o : QS} (h : f_X6_merge q x1 x2 x3 = some o) : Ct (wX E) E l yX6_merge (wy yX6_merge cX6_merge 9 none) rm_X6_merge q o [.ref (eA E 47), .int x1, .int x2, .int x3] none :=
  ct_V (o := o) (by decide +kernel) (fun p e s m below meth c A Q F hA hRt H locs hP hD hS => en_W [.ref (eA E 47), .int x1, .int x2, .int x3] (Nat.le_of_ble_eq_true rfl) (fun ls hl => g_X6_merge_0 F hA hRt q x1 x2 x3 h ls (lv_sub hl [0, 1, 2, 3] rfl) H locs hP hD hS))
def rm_X6_sortRanks : Room := { frames := 4, cells := 0, slots := 0, locals := 106 }
def f_X6_sortRanks_20_b (K55 : QS → Int32 → Int32 → Option (QS)) (B20 : QS → Int32 → Int32 → Int32 → Option (QS)) (q : QS) (x1 : Int32) (x2 : Int32) (x3 : Int32) : Option (QS) :=
  if x1 ≤ x3 then
    K55 q x1 x2
  else
    (f_J9_min_7cf53 (x3 + x2) x1).bind fun r4 =>
    (f_J9_min_7cf53 (x3 + ((2 : Int32) * x2)) x1).bind fun r6 =>
    (f_X6_merge q x3 r4 r6).bind fun r8 =>
    B20 r8 x1 x2 (x3 + ((2 : Int32) * x2))
set_option maxHeartbeats 4000000 in
set_option maxRecDepth 100000 in
theorem g_X6_sortRanks_20_b {E : En} {p : Program} {l : Launch} {e : Env} {s : State} {m : MethodId} {args : Array Value} {below : List Frame} {meth : Method} {c : Code} {A : Nat → Prop} {Q : State → Prop} (F : Fx E p s m args meth c (yX6_sortRanks).cls cX6_sortRanks 4 none) (hA : ∀ z : Nat, s.heap.size ≤ z → A z) {o : QS} (hRt : RtV (wX E) E p l e rm_X6_sortRanks s m args below meth c A Q cX6_sortRanks o) {K55 : QS → Int32 → Int32 → Option (QS)} {B20 : QS → Int32 → Int32 → Int32 → Option (QS)} (hK55 : ∀ (q : QS) (x1 : Int32) (x2 : Int32), K55 q x1 x2 = some o → ∀ ls : Array Slot, lv_has ls 4 [(0, .ref (eA E 47)), (1, .int x1), (2, .int x2)] → Wq (wX E) E p l e rm_X6_sortRanks s m args below meth c A 0 0 Q q (F0 m 55 ls [])) (hB20 : ∀ (q : QS) (x1 : Int32) (x2 : Int32) (x3 : Int32), B20 q x1 x2 x3 = some o → ∀ ls : Array Slot, lv_has ls 4 [(0, .ref (eA E 47)), (1, .int x1), (2, .int x2), (3, .int x3)] → Wq (wX E) E p l e rm_X6_sortRanks s m args below meth c A 0 0 Q q (F0 m 20 ls [])) (q : QS) (x1 : Int32) (x2 : Int32) (x3 : Int32) (h : f_X6_sortRanks_20_b K55 B20 q x1 x2 x3 = some o) (ls : Array Slot) (hl : lv_has ls 4 [(0, .ref (eA E 47)), (1, .int x1), (2, .int x2), (3, .int x3)]) : Wq (wX E) E p l e rm_X6_sortRanks s m args below meth c A 0 0 Q q (F0 m 20 ls []) := by
  intro H locs hP hD hS
  have hx := F.1
  have hb := F.2.1
  unfold f_X6_sortRanks_20_b at h
  refine lv_iload_n hx hb dX6_sortRanks_20 rfl (lv_at hl 3 rfl) ?_
  refine lv_iload_n hx hb dX6_sortRanks_21 rfl (lv_at hl 1 rfl) ?_
  refine lv_icmp_ge (tgt := 55) hx hb dX6_sortRanks_22 (by decide) (fun c3 => ?_) (fun c3 => ?_)
  · rw [if_pos c3] at h
    exact hK55 q x1 x2 h _ (lv_sub hl [0, 1, 2] rfl) _ _ hP hD hS
  · rw [if_neg c3] at h
    refine lv_aload_n hx hb dX6_sortRanks_25 rfl (lv_at hl 0 rfl) ?_
    refine lv_iload_n hx hb dX6_sortRanks_26 rfl (lv_at hl 3 rfl) ?_
    refine lv_iload_n hx hb dX6_sortRanks_27 rfl (lv_at hl 3 rfl) ?_
    refine lv_iload_n hx hb dX6_sortRanks_28 rfl (lv_at hl 2 rfl) ?_
    refine lv_iadd hx hb dX6_sortRanks_29 ?_
    refine lv_iload_n hx hb dX6_sortRanks_30 rfl (lv_at hl 1 rfl) ?_
    obtain ⟨r4, e5, h⟩ := Option.bind_eq_some_iff.mp h
    refine q_callS (As := [.int (x3 + x2), .int x1]) (rest := [.int x3, .ref (eA E 47)]) F hA hP hD hS (c_J9_min_7cf53 (E := E) (l := l) q (x3 + x2) x1 e5) k_J9_min_7cf53 st_J9_min_7cf53 lm_X6_124 ⟨rfl, rfl⟩ ⟨by decide, by decide⟩ rfl hl.1 rfl (Nat.le_of_ble_eq_true rfl) dX6_sortRanks_31 ⟨by decide, by decide⟩ ?_
    intro H locs hP hD hS
    refine lv_iload_n hx hb dX6_sortRanks_34 rfl (lv_at hl 3 rfl) ?_
    refine lv_iconst (v := 2) hx hb dX6_sortRanks_35 (by decide) ?_
    refine lv_iload_n hx hb dX6_sortRanks_36 rfl (lv_at hl 2 rfl) ?_
    refine lv_imul hx hb dX6_sortRanks_37 ?_
    refine lv_iadd hx hb dX6_sortRanks_38 ?_
    refine lv_iload_n hx hb dX6_sortRanks_39 rfl (lv_at hl 1 rfl) ?_
    obtain ⟨r6, e7, h⟩ := Option.bind_eq_some_iff.mp h
    refine q_callS (As := [.int (x3 + ((2 : Int32) * x2)), .int x1]) (rest := [.int r4, .int x3, .ref (eA E 47)]) F hA hP hD hS (c_J9_min_7cf53 (E := E) (l := l) q (x3 + ((2 : Int32) * x2)) x1 e7) k_J9_min_7cf53 st_J9_min_7cf53 lm_X6_124 ⟨rfl, rfl⟩ ⟨by decide, by decide⟩ rfl hl.1 rfl (Nat.le_of_ble_eq_true rfl) dX6_sortRanks_40 ⟨by decide, by decide⟩ ?_
    intro H locs hP hD hS
    obtain ⟨r8, e9, h⟩ := Option.bind_eq_some_iff.mp h
    refine q_callV (As := [.int x3, .int r4, .int r6]) (rest := []) F hA hP hD hS (c_X6_merge (E := E) (l := l) q x3 r4 r6 e9) k_X6_merge in_X6_merge se_X6_merge lm_X6_281 47 (xe_47 E q) rfl ⟨rfl, rfl⟩ ⟨by decide, by decide⟩ rfl hl.1 rfl (Nat.le_of_ble_eq_true rfl) dX6_sortRanks_43 ⟨by decide, by decide⟩ ?_
    intro H locs hP hD hS
    refine lv_iload_n hx hb dX6_sortRanks_46 rfl (lv_at hl 3 rfl) ?_
    refine lv_iconst (v := 2) hx hb dX6_sortRanks_47 (by decide) ?_
    refine lv_iload_n hx hb dX6_sortRanks_48 rfl (lv_at hl 2 rfl) ?_
    refine lv_imul hx hb dX6_sortRanks_49 ?_
    refine lv_iadd hx hb dX6_sortRanks_50 ?_
    refine lv_istore_n (lv' := [(3, .int (x3 + ((2 : Int32) * x2))), (0, .ref (eA E 47)), (1, .int x1), (2, .int x2)]) hx hb dX6_sortRanks_51 rfl hl (by decide) rfl (fun ls hl => ?_)
    refine lv_goto (tgt := 20) hx hb dX6_sortRanks_52 (by decide) ?_
    exact hB20 r8 x1 x2 (x3 + ((2 : Int32) * x2)) h _ (lv_sub hl [1, 2, 3, 0] rfl) _ _ hP hD hS
def f_X6_sortRanks_20 (K55 : QS → Int32 → Int32 → Option (QS)) : Nat → QS → Int32 → Int32 → Int32 → Option (QS)
  | 0 => fun _ _ _ _ => none
  | n + 1 => f_X6_sortRanks_20_b K55 (f_X6_sortRanks_20 K55 n)
theorem g_X6_sortRanks_20 {E : En} {p : Program} {l : Launch} {e : Env} {s : State} {m : MethodId} {args : Array Value} {below : List Frame} {meth : Method} {c : Code} {A : Nat → Prop} {Q : State → Prop} (F : Fx E p s m args meth c (yX6_sortRanks).cls cX6_sortRanks 4 none) (hA : ∀ z : Nat, s.heap.size ≤ z → A z) {o : QS} (hRt : RtV (wX E) E p l e rm_X6_sortRanks s m args below meth c A Q cX6_sortRanks o) {K55 : QS → Int32 → Int32 → Option (QS)} (hK55 : ∀ (q : QS) (x1 : Int32) (x2 : Int32), K55 q x1 x2 = some o → ∀ ls : Array Slot, lv_has ls 4 [(0, .ref (eA E 47)), (1, .int x1), (2, .int x2)] → Wq (wX E) E p l e rm_X6_sortRanks s m args below meth c A 0 0 Q q (F0 m 55 ls [])) (n : Nat) : ∀ (q : QS) (x1 : Int32) (x2 : Int32) (x3 : Int32), f_X6_sortRanks_20 K55 n q x1 x2 x3 = some o → ∀ ls : Array Slot, lv_has ls 4 [(0, .ref (eA E 47)), (1, .int x1), (2, .int x2), (3, .int x3)] → Wq (wX E) E p l e rm_X6_sortRanks s m args below meth c A 0 0 Q q (F0 m 20 ls []) := by
  induction n with
  | zero => intro q x1 x2 x3 h; cases h
  | succ n ih => intro q x1 x2 x3 h; exact g_X6_sortRanks_20_b F hA hRt hK55 ih q x1 x2 x3 h
def f_X6_sortRanks_55 (B13 : QS → Int32 → Int32 → Option (QS)) (q : QS) (x1 : Int32) (x2 : Int32) : Option (QS) :=
  if ¬ (0 : Int32) < 0 ∧ ¬ (0 : Int32) < 0 ∧ ¬ x1 < 0 ∧ ((0 : Int32)).toNatClampNeg + (x1).toNatClampNeg ≤ (qC q) ∧ ((0 : Int32)).toNatClampNeg + (x1).toNatClampNeg ≤ (qC q) then
    B13 (uA q 54 (va_cpy (qI q 55) (qI q 54) ((0 : Int32)).toNatClampNeg ((0 : Int32)).toNatClampNeg (x1).toNatClampNeg)) x1 (x2 * (2 : Int32))
  else none
set_option maxHeartbeats 4000000 in
set_option maxRecDepth 100000 in
theorem g_X6_sortRanks_55 {E : En} {p : Program} {l : Launch} {e : Env} {s : State} {m : MethodId} {args : Array Value} {below : List Frame} {meth : Method} {c : Code} {A : Nat → Prop} {Q : State → Prop} (F : Fx E p s m args meth c (yX6_sortRanks).cls cX6_sortRanks 4 none) (hA : ∀ z : Nat, s.heap.size ≤ z → A z) {o : QS} (hRt : RtV (wX E) E p l e rm_X6_sortRanks s m args below meth c A Q cX6_sortRanks o) {B13 : QS → Int32 → Int32 → Option (QS)} (hB13 : ∀ (q : QS) (x1 : Int32) (x2 : Int32), B13 q x1 x2 = some o → ∀ ls : Array Slot, lv_has ls 4 [(0, .ref (eA E 47)), (1, .int x1), (2, .int x2)] → Wq (wX E) E p l e rm_X6_sortRanks s m args below meth c A 0 0 Q q (F0 m 13 ls [])) (q : QS) (x1 : Int32) (x2 : Int32) (h : f_X6_sortRanks_55 B13 q x1 x2 = some o) (ls : Array Slot) (hl : lv_has ls 4 [(0, .ref (eA E 47)), (1, .int x1), (2, .int x2)]) : Wq (wX E) E p l e rm_X6_sortRanks s m args below meth c A 0 0 Q q (F0 m 55 ls []) := by
  intro H locs hP hD hS
  have hx := F.1
  have hb := F.2.1
  unfold f_X6_sortRanks_55 at h
  refine lv_aload_n hx hb dX6_sortRanks_55 rfl (lv_at hl 0 rfl) ?_
  refine r_get F hP i_X6 47 (xe_47 E q) rfl 9 (by decide) rfl lf_X6_54 rfl dX6_sortRanks_56 ?_
  refine r_get F hP i_X5 49 (xe_49 E q) rfl 6 (by decide) rfl lf_X6_285 rfl dX6_sortRanks_59 ?_
  refine lv_iconst (v := 0) hx hb dX6_sortRanks_62 (by decide) ?_
  refine lv_aload_n hx hb dX6_sortRanks_63 rfl (lv_at hl 0 rfl) ?_
  refine r_get F hP i_X6 47 (xe_47 E q) rfl 9 (by decide) rfl lf_X6_54 rfl dX6_sortRanks_64 ?_
  refine r_get F hP i_X5 49 (xe_49 E q) rfl 5 (by decide) rfl lf_X6_269 rfl dX6_sortRanks_67 ?_
  refine lv_iconst (v := 0) hx hb dX6_sortRanks_70 (by decide) ?_
  refine lv_iload_n hx hb dX6_sortRanks_71 rfl (lv_at hl 1 rfl) ?_
  by_cases z10 : ¬ (0 : Int32) < 0 ∧ ¬ (0 : Int32) < 0 ∧ ¬ x1 < 0 ∧ ((0 : Int32)).toNatClampNeg + (x1).toNatClampNeg ≤ (qC q) ∧ ((0 : Int32)).toNatClampNeg + (x1).toNatClampNeg ≤ (qC q)
  rotate_left
  · rw [if_neg z10] at h; cases h
  rw [if_pos z10] at h
  refine va_copyi (ty := .int) (q0 := 55) (q1 := 54) (t0 := 0) (t1 := 0) hx hb (by rw [F.2.2.1]; exact hl.1.symm) F.2.2.2.1 (F.2.2.2.2.1 _ lm_X6_288) (F.2.2.2.2.1 _ ac_nat) (F.2.2.2.2.1 _ ac_st) (F.2.2.2.2.1 _ ac_in) F.2.2.2.2.2.1 hP hD hS (xe_55 E q) (xe_54 E q) rfl rfl rfl z10.1 z10.2.1 z10.2.2.1 z10.2.2.2.1 z10.2.2.2.2 (fun _ _ => rfl) (by decide) (by decide) dX6_sortRanks_72 (fun H locs hP hD hS => ?_)
  have hP : va_P E.1 vwCl (wX E (uA q 54 (va_cpy (qI q 55) (qI q 54) ((0 : Int32)).toNatClampNeg ((0 : Int32)).toNatClampNeg (x1).toNatClampNeg))) H := hP
  have hD : va_D A (wX E (uA q 54 (va_cpy (qI q 55) (qI q 54) ((0 : Int32)).toNatClampNeg ((0 : Int32)).toNatClampNeg (x1).toNatClampNeg))) := hD
  refine lv_iload_n hx hb dX6_sortRanks_75 rfl (lv_at hl 2 rfl) ?_
  refine lv_iconst (v := 2) hx hb dX6_sortRanks_76 (by decide) ?_
  refine lv_imul hx hb dX6_sortRanks_77 ?_
  refine lv_istore_n (lv' := [(2, .int (x2 * (2 : Int32))), (0, .ref (eA E 47)), (1, .int x1)]) hx hb dX6_sortRanks_78 rfl hl (by decide) rfl (fun ls hl => ?_)
  refine lv_goto (tgt := 13) hx hb dX6_sortRanks_79 (by decide) ?_
  exact hB13 (uA q 54 (va_cpy (qI q 55) (qI q 54) ((0 : Int32)).toNatClampNeg ((0 : Int32)).toNatClampNeg (x1).toNatClampNeg)) x1 (x2 * (2 : Int32)) h _ (lv_sub hl [1, 2, 0] rfl) _ _ hP hD hS
def f_X6_sortRanks_13_b (B13 : QS → Int32 → Int32 → Option (QS)) (q : QS) (x1 : Int32) (x2 : Int32) : Option (QS) :=
  if x1 ≤ x2 then
    some q
  else
    f_X6_sortRanks_20 (f_X6_sortRanks_55 B13) FU q x1 x2 (0 : Int32)
set_option maxHeartbeats 4000000 in
set_option maxRecDepth 100000 in
theorem g_X6_sortRanks_13_b {E : En} {p : Program} {l : Launch} {e : Env} {s : State} {m : MethodId} {args : Array Value} {below : List Frame} {meth : Method} {c : Code} {A : Nat → Prop} {Q : State → Prop} (F : Fx E p s m args meth c (yX6_sortRanks).cls cX6_sortRanks 4 none) (hA : ∀ z : Nat, s.heap.size ≤ z → A z) {o : QS} (hRt : RtV (wX E) E p l e rm_X6_sortRanks s m args below meth c A Q cX6_sortRanks o) {B13 : QS → Int32 → Int32 → Option (QS)} (hB13 : ∀ (q : QS) (x1 : Int32) (x2 : Int32), B13 q x1 x2 = some o → ∀ ls : Array Slot, lv_has ls 4 [(0, .ref (eA E 47)), (1, .int x1), (2, .int x2)] → Wq (wX E) E p l e rm_X6_sortRanks s m args below meth c A 0 0 Q q (F0 m 13 ls [])) (q : QS) (x1 : Int32) (x2 : Int32) (h : f_X6_sortRanks_13_b B13 q x1 x2 = some o) (ls : Array Slot) (hl : lv_has ls 4 [(0, .ref (eA E 47)), (1, .int x1), (2, .int x2)]) : Wq (wX E) E p l e rm_X6_sortRanks s m args below meth c A 0 0 Q q (F0 m 13 ls []) := by
  intro H locs hP hD hS
  have hx := F.1
  have hb := F.2.1
  unfold f_X6_sortRanks_13_b at h
  refine lv_iload_n hx hb dX6_sortRanks_13 rfl (lv_at hl 2 rfl) ?_
  refine lv_iload_n hx hb dX6_sortRanks_14 rfl (lv_at hl 1 rfl) ?_
  refine lv_icmp_ge (tgt := 82) hx hb dX6_sortRanks_15 (by decide) (fun c2 => ?_) (fun c2 => ?_)
  · rw [if_pos c2] at h
    cases h
    exact hRt _ _ dX6_sortRanks_82 _ _ hP hD hS
  · rw [if_neg c2] at h
    refine lv_iconst (v := 0) hx hb dX6_sortRanks_18 (by decide) ?_
    refine lv_istore_n (lv' := [(3, .int (0 : Int32)), (0, .ref (eA E 47)), (1, .int x1), (2, .int x2)]) hx hb dX6_sortRanks_19 rfl hl (by decide) rfl (fun ls hl => ?_)
    exact g_X6_sortRanks_20 F hA hRt (g_X6_sortRanks_55 F hA hRt hB13) FU q x1 x2 (0 : Int32) h _ (lv_sub hl [1, 2, 3, 0] rfl) _ _ hP hD hS
def f_X6_sortRanks_13 : Nat → QS → Int32 → Int32 → Option (QS)
  | 0 => fun _ _ _ => none
  | n + 1 => f_X6_sortRanks_13_b (f_X6_sortRanks_13 n)
theorem g_X6_sortRanks_13 {E : En} {p : Program} {l : Launch} {e : Env} {s : State} {m : MethodId} {args : Array Value} {below : List Frame} {meth : Method} {c : Code} {A : Nat → Prop} {Q : State → Prop} (F : Fx E p s m args meth c (yX6_sortRanks).cls cX6_sortRanks 4 none) (hA : ∀ z : Nat, s.heap.size ≤ z → A z) {o : QS} (hRt : RtV (wX E) E p l e rm_X6_sortRanks s m args below meth c A Q cX6_sortRanks o) (n : Nat) : ∀ (q : QS) (x1 : Int32) (x2 : Int32), f_X6_sortRanks_13 n q x1 x2 = some o → ∀ ls : Array Slot, lv_has ls 4 [(0, .ref (eA E 47)), (1, .int x1), (2, .int x2)] → Wq (wX E) E p l e rm_X6_sortRanks s m args below meth c A 0 0 Q q (F0 m 13 ls []) := by
  induction n with
  | zero => intro q x1 x2 h; cases h
  | succ n ih => intro q x1 x2 h; exact g_X6_sortRanks_13_b F hA hRt ih q x1 x2 h
def f_X6_sortRanks_0 (q : QS) (x1 : Int32) : Option (QS) :=
  if (qF q 8) = 0 then
    some q
  else
    f_X6_sortRanks_13 FU q x1 (1 : Int32)
set_option maxHeartbeats 4000000 in
set_option maxRecDepth 100000 in
theorem g_X6_sortRanks_0 {E : En} {p : Program} {l : Launch} {e : Env} {s : State} {m : MethodId} {args : Array Value} {below : List Frame} {meth : Method} {c : Code} {A : Nat → Prop} {Q : State → Prop} (F : Fx E p s m args meth c (yX6_sortRanks).cls cX6_sortRanks 4 none) (hA : ∀ z : Nat, s.heap.size ≤ z → A z) {o : QS} (hRt : RtV (wX E) E p l e rm_X6_sortRanks s m args below meth c A Q cX6_sortRanks o) (q : QS) (x1 : Int32) (h : f_X6_sortRanks_0 q x1 = some o) (ls : Array Slot) (hl : lv_has ls 4 [(0, .ref (eA E 47)), (1, .int x1)]) : Wq (wX E) E p l e rm_X6_sortRanks s m args below meth c A 0 0 Q q (F0 m 0 ls []) := by
  intro H locs hP hD hS
  have hx := F.1
  have hb := F.2.1
  unfold f_X6_sortRanks_0 at h
  refine lv_aload_n hx hb dX6_sortRanks_0 rfl (lv_at hl 0 rfl) ?_
  refine r_get F hP i_X6 47 (xe_47 E q) rfl 2 (by decide) rfl lf_X6_36 rfl dX6_sortRanks_1 ?_
  refine r_get F hP i_X4 38 (xe_38 E q) rfl 2 (by decide) rfl lf_X6_278 rfl dX6_sortRanks_4 ?_
  refine lv_if_ne (tgt := 11) hx hb dX6_sortRanks_7 (by decide) (fun c1 => ?_) (fun c1 => ?_)
  · rw [if_neg c1] at h
    refine lv_iconst (v := 1) hx hb dX6_sortRanks_11 (by decide) ?_
    refine lv_istore_n (lv' := [(2, .int (1 : Int32)), (0, .ref (eA E 47)), (1, .int x1)]) hx hb dX6_sortRanks_12 rfl hl (by decide) rfl (fun ls hl => ?_)
    exact g_X6_sortRanks_13 F hA hRt FU q x1 (1 : Int32) h _ (lv_sub hl [1, 2, 0] rfl) _ _ hP hD hS
  · rw [if_pos c1] at h
    cases h
    exact hRt _ _ dX6_sortRanks_10 _ _ hP hD hS
def f_X6_sortRanks (q : QS) (x1 : Int32) : Option (QS) := f_X6_sortRanks_0 q x1
set_option maxRecDepth 100000 in
theorem c_X6_sortRanks {E : En} {l : Launch} (q : QS) (x1 : Int32) {o : QS} (h : f_X6_sortRanks q x1 = some o) : Ct (wX E) E l yX6_sortRanks (wy yX6_sortRanks cX6_sortRanks 4 none) rm_X6_sortRanks q o [.ref (eA E 47), .int x1] none :=
  ct_V (o := o) (by decide +kernel) (fun p e s m below meth c A Q F hA hRt H locs hP hD hS => en_W [.ref (eA E 47), .int x1] (Nat.le_of_ble_eq_true rfl) (fun ls hl => g_X6_sortRanks_0 F hA hRt q x1 h ls (lv_sub hl [0, 1] rfl) H locs hP hD hS))
