def rm_X10_mark : Room := { frames := 1, cells := 0, slots := 0, locals := 22 }
def f_X10_mark_2_b (K20 : QS → Int32 → Option (QS)) (B2 : QS → Int32 → Int32 → Option (QS)) (q : QS) (x1 : Int32) (x2 : Int32) : Option (QS) :=
  if x1 ≤ x2 then
    K20 q x1
  else
    (wI q 25 200 x2 (0 : Int32)).bind fun q2 =>
    B2 q2 x1 (x2 + (1 : Int32))
set_option maxHeartbeats 4000000 in
set_option maxRecDepth 100000 in
theorem g_X10_mark_2_b {E : En} {p : Program} {l : Launch} {e : Env} {s : State} {m : MethodId} {args : Array Value} {below : List Frame} {meth : Method} {c : Code} {A : Nat → Prop} {Q : State → Prop} (F : Fx E p s m args meth c (yX10_mark).cls cX10_mark 5 none) (hA : ∀ z : Nat, s.heap.size ≤ z → A z) {o : QS} (hRt : RtV (wM E) E p l e rm_X10_mark s m args below meth c A Q cX10_mark o) {K20 : QS → Int32 → Option (QS)} {B2 : QS → Int32 → Int32 → Option (QS)} (hK20 : ∀ (q : QS) (x1 : Int32), K20 q x1 = some o → ∀ ls : Array Slot, lv_has ls 5 [(0, .ref (eA E 0)), (1, .int x1)] → Wq (wM E) E p l e rm_X10_mark s m args below meth c A 0 0 Q q (F0 m 20 ls [])) (hB2 : ∀ (q : QS) (x1 : Int32) (x2 : Int32), B2 q x1 x2 = some o → ∀ ls : Array Slot, lv_has ls 5 [(0, .ref (eA E 0)), (1, .int x1), (2, .int x2)] → Wq (wM E) E p l e rm_X10_mark s m args below meth c A 0 0 Q q (F0 m 2 ls [])) (q : QS) (x1 : Int32) (x2 : Int32) (h : f_X10_mark_2_b K20 B2 q x1 x2 = some o) (ls : Array Slot) (hl : lv_has ls 5 [(0, .ref (eA E 0)), (1, .int x1), (2, .int x2)]) : Wq (wM E) E p l e rm_X10_mark s m args below meth c A 0 0 Q q (F0 m 2 ls []) := by
  intro H locs hP hD hS
  have hx := F.1
  have hb := F.2.1
  unfold f_X10_mark_2_b at h
  refine lv_iload_n hx hb dX10_mark_2 rfl (lv_at hl 2 rfl) ?_
  refine lv_iload_n hx hb dX10_mark_3 rfl (lv_at hl 1 rfl) ?_
  refine lv_icmp_ge (tgt := 20) hx hb dX10_mark_4 (by decide) (fun c1 => ?_) (fun c1 => ?_)
  · rw [if_pos c1] at h
    exact hK20 q x1 h _ (lv_sub hl [0, 1] rfl) _ _ hP hD hS
  · rw [if_neg c1] at h
    refine lv_aload_n hx hb dX10_mark_7 rfl (lv_at hl 0 rfl) ?_
    refine r_get F hP i_X10 0 (me_0 E q) rfl 27 (by decide) rfl lf_X10_86 rfl dX10_mark_8 ?_
    refine lv_iload_n hx hb dX10_mark_11 rfl (lv_at hl 2 rfl) ?_
    refine lv_iconst (v := 0) hx hb dX10_mark_12 (by decide) ?_
    obtain ⟨q2, e3, h⟩ := Option.bind_eq_some_iff.mp h
    refine r_iast F hP hD hS 25 (me_25 E q) (ms_25 E q) e3 dX10_mark_13 ?_
    intro H locs hP hD hS
    refine lv_iinc (v := (x2 + (1 : Int32))) (lv' := [(2, .int (x2 + (1 : Int32))), (0, .ref (eA E 0)), (1, .int x1)]) hx hb dX10_mark_14 hl (k := 2) rfl rfl (by decide) rfl (fun ls hl => ?_)
    refine lv_goto (tgt := 2) hx hb dX10_mark_17 (by decide) ?_
    exact hB2 q2 x1 (x2 + (1 : Int32)) h _ (lv_sub hl [1, 2, 0] rfl) _ _ hP hD hS
def f_X10_mark_2 (K20 : QS → Int32 → Option (QS)) : Nat → QS → Int32 → Int32 → Option (QS)
  | 0 => fun _ _ _ => none
  | n + 1 => f_X10_mark_2_b K20 (f_X10_mark_2 K20 n)
theorem g_X10_mark_2 {E : En} {p : Program} {l : Launch} {e : Env} {s : State} {m : MethodId} {args : Array Value} {below : List Frame} {meth : Method} {c : Code} {A : Nat → Prop} {Q : State → Prop} (F : Fx E p s m args meth c (yX10_mark).cls cX10_mark 5 none) (hA : ∀ z : Nat, s.heap.size ≤ z → A z) {o : QS} (hRt : RtV (wM E) E p l e rm_X10_mark s m args below meth c A Q cX10_mark o) {K20 : QS → Int32 → Option (QS)} (hK20 : ∀ (q : QS) (x1 : Int32), K20 q x1 = some o → ∀ ls : Array Slot, lv_has ls 5 [(0, .ref (eA E 0)), (1, .int x1)] → Wq (wM E) E p l e rm_X10_mark s m args below meth c A 0 0 Q q (F0 m 20 ls [])) (n : Nat) : ∀ (q : QS) (x1 : Int32) (x2 : Int32), f_X10_mark_2 K20 n q x1 x2 = some o → ∀ ls : Array Slot, lv_has ls 5 [(0, .ref (eA E 0)), (1, .int x1), (2, .int x2)] → Wq (wM E) E p l e rm_X10_mark s m args below meth c A 0 0 Q q (F0 m 2 ls []) := by
  induction n with
  | zero => intro q x1 x2 h; cases h
  | succ n ih => intro q x1 x2 h; exact g_X10_mark_2_b F hA hRt hK20 ih q x1 x2 h
def f_X10_mark_131 (B29 : QS → Int32 → Option (QS)) (q : QS) (x2 : Int32) : Option (QS) :=
  B29 q (x2 + (-1 : Int32))
set_option maxHeartbeats 4000000 in
set_option maxRecDepth 100000 in
theorem g_X10_mark_131 {E : En} {p : Program} {l : Launch} {e : Env} {s : State} {m : MethodId} {args : Array Value} {below : List Frame} {meth : Method} {c : Code} {A : Nat → Prop} {Q : State → Prop} (F : Fx E p s m args meth c (yX10_mark).cls cX10_mark 5 none) (hA : ∀ z : Nat, s.heap.size ≤ z → A z) {o : QS} (hRt : RtV (wM E) E p l e rm_X10_mark s m args below meth c A Q cX10_mark o) {B29 : QS → Int32 → Option (QS)} (hB29 : ∀ (q : QS) (x2 : Int32), B29 q x2 = some o → ∀ ls : Array Slot, lv_has ls 5 [(0, .ref (eA E 0)), (2, .int x2)] → Wq (wM E) E p l e rm_X10_mark s m args below meth c A 0 0 Q q (F0 m 29 ls [])) (q : QS) (x2 : Int32) (h : f_X10_mark_131 B29 q x2 = some o) (ls : Array Slot) (hl : lv_has ls 5 [(0, .ref (eA E 0)), (2, .int x2)]) : Wq (wM E) E p l e rm_X10_mark s m args below meth c A 0 0 Q q (F0 m 131 ls []) := by
  intro H locs hP hD hS
  have hx := F.1
  have hb := F.2.1
  unfold f_X10_mark_131 at h
  refine lv_iinc (v := (x2 + (-1 : Int32))) (lv' := [(2, .int (x2 + (-1 : Int32))), (0, .ref (eA E 0))]) hx hb dX10_mark_131 hl (k := 1) rfl rfl (by decide) rfl (fun ls hl => ?_)
  refine lv_goto (tgt := 29) hx hb dX10_mark_134 (by decide) ?_
  exact hB29 q (x2 + (-1 : Int32)) h _ (lv_sub hl [1, 0] rfl) _ _ hP hD hS
def f_X10_mark_91 (B29 : QS → Int32 → Option (QS)) (q : QS) (x2 : Int32) (x3 : Int32) (t0 : Int32) : Option (QS) :=
  if t0 = 0 then
    f_X10_mark_131 B29 q x2
  else
    (rd (qI q 12) 200 x2).bind fun y19 =>
    (wI q 25 200 y19 x3).bind fun q21 =>
    (rd (qI q21 13) 200 x2).bind fun y23 =>
    if y23 < 0 then
      f_X10_mark_131 B29 q21 x2
    else
      (rd (qI q21 13) 200 x2).bind fun y26 =>
      (wI q21 25 200 y26 x3).bind fun q28 =>
      f_X10_mark_131 B29 q28 x2
set_option maxHeartbeats 4000000 in
set_option maxRecDepth 100000 in
theorem g_X10_mark_91 {E : En} {p : Program} {l : Launch} {e : Env} {s : State} {m : MethodId} {args : Array Value} {below : List Frame} {meth : Method} {c : Code} {A : Nat → Prop} {Q : State → Prop} (F : Fx E p s m args meth c (yX10_mark).cls cX10_mark 5 none) (hA : ∀ z : Nat, s.heap.size ≤ z → A z) {o : QS} (hRt : RtV (wM E) E p l e rm_X10_mark s m args below meth c A Q cX10_mark o) {B29 : QS → Int32 → Option (QS)} (hB29 : ∀ (q : QS) (x2 : Int32), B29 q x2 = some o → ∀ ls : Array Slot, lv_has ls 5 [(0, .ref (eA E 0)), (2, .int x2)] → Wq (wM E) E p l e rm_X10_mark s m args below meth c A 0 0 Q q (F0 m 29 ls [])) (q : QS) (x2 : Int32) (x3 : Int32) (t0 : Int32) (h : f_X10_mark_91 B29 q x2 x3 t0 = some o) (ls : Array Slot) (hl : lv_has ls 5 [(0, .ref (eA E 0)), (2, .int x2), (3, .int x3)]) : Wq (wM E) E p l e rm_X10_mark s m args below meth c A 0 0 Q q (F0 m 91 ls [.int t0]) := by
  intro H locs hP hD hS
  have hx := F.1
  have hb := F.2.1
  unfold f_X10_mark_91 at h
  refine lv_istore (lv' := [(4, .int t0), (0, .ref (eA E 0)), (2, .int x2), (3, .int x3)]) hx hb dX10_mark_91 hl (by decide) rfl (fun ls hl => ?_)
  refine lv_iload hx hb dX10_mark_93 (lv_at hl 0 rfl) ?_
  refine lv_if_eq (tgt := 131) hx hb dX10_mark_95 (by decide) (fun c18 => ?_) (fun c18 => ?_)
  · rw [if_pos c18] at h
    exact g_X10_mark_131 F hA hRt hB29 q x2 h _ (lv_sub hl [1, 2] rfl) _ _ hP hD hS
  · rw [if_neg c18] at h
    refine lv_aload_n hx hb dX10_mark_98 rfl (lv_at hl 1 rfl) ?_
    refine r_get F hP i_X10 0 (me_0 E q) rfl 27 (by decide) rfl lf_X10_86 rfl dX10_mark_99 ?_
    refine lv_aload_n hx hb dX10_mark_102 rfl (lv_at hl 1 rfl) ?_
    refine r_get F hP i_X10 0 (me_0 E q) rfl 14 (by decide) rfl lf_X10_46 rfl dX10_mark_103 ?_
    refine lv_iload_n hx hb dX10_mark_106 rfl (lv_at hl 2 rfl) ?_
    obtain ⟨y19, e20, h⟩ := Option.bind_eq_some_iff.mp h
    refine r_iald F hP 12 (me_12 E q) e20 dX10_mark_107 ?_
    refine lv_iload_n hx hb dX10_mark_108 rfl (lv_at hl 3 rfl) ?_
    obtain ⟨q21, e22, h⟩ := Option.bind_eq_some_iff.mp h
    refine r_iast F hP hD hS 25 (me_25 E q) (ms_25 E q) e22 dX10_mark_109 ?_
    intro H locs hP hD hS
    refine lv_aload_n hx hb dX10_mark_110 rfl (lv_at hl 1 rfl) ?_
    refine r_get F hP i_X10 0 (me_0 E q21) rfl 15 (by decide) rfl lf_X10_49 rfl dX10_mark_111 ?_
    refine lv_iload_n hx hb dX10_mark_114 rfl (lv_at hl 2 rfl) ?_
    obtain ⟨y23, e24, h⟩ := Option.bind_eq_some_iff.mp h
    refine r_iald F hP 13 (me_13 E q21) e24 dX10_mark_115 ?_
    refine lv_if_lt (tgt := 131) hx hb dX10_mark_116 (by decide) (fun c25 => ?_) (fun c25 => ?_)
    · rw [if_pos c25] at h
      exact g_X10_mark_131 F hA hRt hB29 q21 x2 h _ (lv_sub hl [1, 2] rfl) _ _ hP hD hS
    · rw [if_neg c25] at h
      refine lv_aload_n hx hb dX10_mark_119 rfl (lv_at hl 1 rfl) ?_
      refine r_get F hP i_X10 0 (me_0 E q21) rfl 27 (by decide) rfl lf_X10_86 rfl dX10_mark_120 ?_
      refine lv_aload_n hx hb dX10_mark_123 rfl (lv_at hl 1 rfl) ?_
      refine r_get F hP i_X10 0 (me_0 E q21) rfl 15 (by decide) rfl lf_X10_49 rfl dX10_mark_124 ?_
      refine lv_iload_n hx hb dX10_mark_127 rfl (lv_at hl 2 rfl) ?_
      obtain ⟨y26, e27, h⟩ := Option.bind_eq_some_iff.mp h
      refine r_iald F hP 13 (me_13 E q21) e27 dX10_mark_128 ?_
      refine lv_iload_n hx hb dX10_mark_129 rfl (lv_at hl 3 rfl) ?_
      obtain ⟨q28, e29, h⟩ := Option.bind_eq_some_iff.mp h
      refine r_iast F hP hD hS 25 (me_25 E q21) (ms_25 E q21) e29 dX10_mark_130 ?_
      intro H locs hP hD hS
      exact g_X10_mark_131 F hA hRt hB29 q28 x2 h _ (lv_sub hl [1, 2] rfl) _ _ hP hD hS
def f_X10_mark_90 (B29 : QS → Int32 → Option (QS)) (q : QS) (x2 : Int32) (x3 : Int32) : Option (QS) :=
  f_X10_mark_91 B29 q x2 x3 (0 : Int32)
set_option maxHeartbeats 4000000 in
set_option maxRecDepth 100000 in
theorem g_X10_mark_90 {E : En} {p : Program} {l : Launch} {e : Env} {s : State} {m : MethodId} {args : Array Value} {below : List Frame} {meth : Method} {c : Code} {A : Nat → Prop} {Q : State → Prop} (F : Fx E p s m args meth c (yX10_mark).cls cX10_mark 5 none) (hA : ∀ z : Nat, s.heap.size ≤ z → A z) {o : QS} (hRt : RtV (wM E) E p l e rm_X10_mark s m args below meth c A Q cX10_mark o) {B29 : QS → Int32 → Option (QS)} (hB29 : ∀ (q : QS) (x2 : Int32), B29 q x2 = some o → ∀ ls : Array Slot, lv_has ls 5 [(0, .ref (eA E 0)), (2, .int x2)] → Wq (wM E) E p l e rm_X10_mark s m args below meth c A 0 0 Q q (F0 m 29 ls [])) (q : QS) (x2 : Int32) (x3 : Int32) (h : f_X10_mark_90 B29 q x2 x3 = some o) (ls : Array Slot) (hl : lv_has ls 5 [(0, .ref (eA E 0)), (2, .int x2), (3, .int x3)]) : Wq (wM E) E p l e rm_X10_mark s m args below meth c A 0 0 Q q (F0 m 90 ls []) := by
  intro H locs hP hD hS
  have hx := F.1
  have hb := F.2.1
  unfold f_X10_mark_90 at h
  refine lv_iconst (v := 0) hx hb dX10_mark_90 (by decide) ?_
  exact g_X10_mark_91 F hA hRt hB29 q x2 x3 (0 : Int32) h _ (lv_sub hl [0, 1, 2] rfl) _ _ hP hD hS
def f_X10_mark_71 (B29 : QS → Int32 → Option (QS)) (q : QS) (x2 : Int32) (t0 : Int32) : Option (QS) :=
  if t0 ≤ 0 then
    f_X10_mark_90 B29 q x2 t0
  else
    (rd (qI q 11) 200 x2).bind fun y30 =>
    if y30 ≤ (5 : Int32) then
      f_X10_mark_90 B29 q x2 t0
    else
      f_X10_mark_91 B29 q x2 t0 (1 : Int32)
set_option maxHeartbeats 4000000 in
set_option maxRecDepth 100000 in
theorem g_X10_mark_71 {E : En} {p : Program} {l : Launch} {e : Env} {s : State} {m : MethodId} {args : Array Value} {below : List Frame} {meth : Method} {c : Code} {A : Nat → Prop} {Q : State → Prop} (F : Fx E p s m args meth c (yX10_mark).cls cX10_mark 5 none) (hA : ∀ z : Nat, s.heap.size ≤ z → A z) {o : QS} (hRt : RtV (wM E) E p l e rm_X10_mark s m args below meth c A Q cX10_mark o) {B29 : QS → Int32 → Option (QS)} (hB29 : ∀ (q : QS) (x2 : Int32), B29 q x2 = some o → ∀ ls : Array Slot, lv_has ls 5 [(0, .ref (eA E 0)), (2, .int x2)] → Wq (wM E) E p l e rm_X10_mark s m args below meth c A 0 0 Q q (F0 m 29 ls [])) (q : QS) (x2 : Int32) (t0 : Int32) (h : f_X10_mark_71 B29 q x2 t0 = some o) (ls : Array Slot) (hl : lv_has ls 5 [(0, .ref (eA E 0)), (2, .int x2)]) : Wq (wM E) E p l e rm_X10_mark s m args below meth c A 0 0 Q q (F0 m 71 ls [.int t0]) := by
  intro H locs hP hD hS
  have hx := F.1
  have hb := F.2.1
  unfold f_X10_mark_71 at h
  refine lv_istore_n (lv' := [(3, .int t0), (0, .ref (eA E 0)), (2, .int x2)]) hx hb dX10_mark_71 rfl hl (by decide) rfl (fun ls hl => ?_)
  refine lv_iload_n hx hb dX10_mark_72 rfl (lv_at hl 0 rfl) ?_
  refine lv_if_le (tgt := 90) hx hb dX10_mark_73 (by decide) (fun c17 => ?_) (fun c17 => ?_)
  · rw [if_pos c17] at h
    exact g_X10_mark_90 F hA hRt hB29 q x2 t0 h _ (lv_sub hl [1, 2, 0] rfl) _ _ hP hD hS
  · rw [if_neg c17] at h
    refine lv_aload_n hx hb dX10_mark_76 rfl (lv_at hl 1 rfl) ?_
    refine r_get F hP i_X10 0 (me_0 E q) rfl 13 (by decide) rfl lf_X10_43 rfl dX10_mark_77 ?_
    refine lv_iload_n hx hb dX10_mark_80 rfl (lv_at hl 2 rfl) ?_
    obtain ⟨y30, e31, h⟩ := Option.bind_eq_some_iff.mp h
    refine r_iald F hP 11 (me_11 E q) e31 dX10_mark_81 ?_
    refine lv_iconst (v := 5) hx hb dX10_mark_82 (by decide) ?_
    refine lv_icmp_le (tgt := 90) hx hb dX10_mark_83 (by decide) (fun c32 => ?_) (fun c32 => ?_)
    · rw [if_pos c32] at h
      exact g_X10_mark_90 F hA hRt hB29 q x2 t0 h _ (lv_sub hl [1, 2, 0] rfl) _ _ hP hD hS
    · rw [if_neg c32] at h
      refine lv_iconst (v := 1) hx hb dX10_mark_86 (by decide) ?_
      refine lv_goto (tgt := 91) hx hb dX10_mark_87 (by decide) ?_
      exact g_X10_mark_91 F hA hRt hB29 q x2 t0 (1 : Int32) h _ (lv_sub hl [1, 2, 0] rfl) _ _ hP hD hS
def f_X10_mark_29_b (B29 : QS → Int32 → Option (QS)) (q : QS) (x2 : Int32) : Option (QS) :=
  if x2 < 0 then
    some q
  else
    (rd (qI q 25) 200 x2).bind fun y7 =>
    if y7 = 0 then
      f_X10_mark_71 B29 q x2 (0 : Int32)
    else
      (rd (qI q 11) 200 x2).bind fun y10 =>
      (f_X10_in y10 (5 : Int32) (9 : Int32)).bind fun r12 =>
      if r12 = 0 then
        (rd (qI q 25) 200 x2).bind fun y15 =>
        f_X10_mark_71 B29 q x2 y15
      else
        f_X10_mark_71 B29 q x2 (2 : Int32)
set_option maxHeartbeats 4000000 in
set_option maxRecDepth 100000 in
theorem g_X10_mark_29_b {E : En} {p : Program} {l : Launch} {e : Env} {s : State} {m : MethodId} {args : Array Value} {below : List Frame} {meth : Method} {c : Code} {A : Nat → Prop} {Q : State → Prop} (F : Fx E p s m args meth c (yX10_mark).cls cX10_mark 5 none) (hA : ∀ z : Nat, s.heap.size ≤ z → A z) {o : QS} (hRt : RtV (wM E) E p l e rm_X10_mark s m args below meth c A Q cX10_mark o) {B29 : QS → Int32 → Option (QS)} (hB29 : ∀ (q : QS) (x2 : Int32), B29 q x2 = some o → ∀ ls : Array Slot, lv_has ls 5 [(0, .ref (eA E 0)), (2, .int x2)] → Wq (wM E) E p l e rm_X10_mark s m args below meth c A 0 0 Q q (F0 m 29 ls [])) (q : QS) (x2 : Int32) (h : f_X10_mark_29_b B29 q x2 = some o) (ls : Array Slot) (hl : lv_has ls 5 [(0, .ref (eA E 0)), (2, .int x2)]) : Wq (wM E) E p l e rm_X10_mark s m args below meth c A 0 0 Q q (F0 m 29 ls []) := by
  intro H locs hP hD hS
  have hx := F.1
  have hb := F.2.1
  unfold f_X10_mark_29_b at h
  refine lv_iload_n hx hb dX10_mark_29 rfl (lv_at hl 1 rfl) ?_
  refine lv_if_lt (tgt := 137) hx hb dX10_mark_30 (by decide) (fun c6 => ?_) (fun c6 => ?_)
  · rw [if_pos c6] at h
    cases h
    exact hRt _ _ dX10_mark_137 _ _ hP hD hS
  · rw [if_neg c6] at h
    refine lv_aload_n hx hb dX10_mark_33 rfl (lv_at hl 0 rfl) ?_
    refine r_get F hP i_X10 0 (me_0 E q) rfl 27 (by decide) rfl lf_X10_86 rfl dX10_mark_34 ?_
    refine lv_iload_n hx hb dX10_mark_37 rfl (lv_at hl 1 rfl) ?_
    obtain ⟨y7, e8, h⟩ := Option.bind_eq_some_iff.mp h
    refine r_iald F hP 25 (me_25 E q) e8 dX10_mark_38 ?_
    refine lv_if_ne (tgt := 46) hx hb dX10_mark_39 (by decide) (fun c9 => ?_) (fun c9 => ?_)
    · rw [if_neg c9] at h
      refine lv_aload_n hx hb dX10_mark_46 rfl (lv_at hl 0 rfl) ?_
      refine r_get F hP i_X10 0 (me_0 E q) rfl 13 (by decide) rfl lf_X10_43 rfl dX10_mark_47 ?_
      refine lv_iload_n hx hb dX10_mark_50 rfl (lv_at hl 1 rfl) ?_
      obtain ⟨y10, e11, h⟩ := Option.bind_eq_some_iff.mp h
      refine r_iald F hP 11 (me_11 E q) e11 dX10_mark_51 ?_
      refine lv_iconst (v := 5) hx hb dX10_mark_52 (by decide) ?_
      refine lv_bipush (v := 9) hx hb dX10_mark_53 (by decide) ?_
      obtain ⟨r12, e13, h⟩ := Option.bind_eq_some_iff.mp h
      refine q_callS (As := [.int y10, .int (5 : Int32), .int (9 : Int32)]) (rest := []) F hA hP hD hS (c_X10_in (E := E) (l := l) q y10 (5 : Int32) (9 : Int32) e13) k_X10_in st_X10_in lm_X10_169 ⟨rfl, rfl⟩ ⟨by decide, by decide⟩ rfl hl.1 rfl (Nat.le_of_ble_eq_true rfl) dX10_mark_55 ⟨by decide, by decide⟩ ?_
      intro H locs hP hD hS
      refine lv_if_eq (tgt := 65) hx hb dX10_mark_58 (by decide) (fun c14 => ?_) (fun c14 => ?_)
      · rw [if_pos c14] at h
        refine lv_aload_n hx hb dX10_mark_65 rfl (lv_at hl 0 rfl) ?_
        refine r_get F hP i_X10 0 (me_0 E q) rfl 27 (by decide) rfl lf_X10_86 rfl dX10_mark_66 ?_
        refine lv_iload_n hx hb dX10_mark_69 rfl (lv_at hl 1 rfl) ?_
        obtain ⟨y15, e16, h⟩ := Option.bind_eq_some_iff.mp h
        refine r_iald F hP 25 (me_25 E q) e16 dX10_mark_70 ?_
        exact g_X10_mark_71 F hA hRt hB29 q x2 y15 h _ (lv_sub hl [0, 1] rfl) _ _ hP hD hS
      · rw [if_neg c14] at h
        refine lv_iconst (v := 2) hx hb dX10_mark_61 (by decide) ?_
        refine lv_goto (tgt := 71) hx hb dX10_mark_62 (by decide) ?_
        exact g_X10_mark_71 F hA hRt hB29 q x2 (2 : Int32) h _ (lv_sub hl [0, 1] rfl) _ _ hP hD hS
    · rw [if_pos c9] at h
      refine lv_iconst (v := 0) hx hb dX10_mark_42 (by decide) ?_
      refine lv_goto (tgt := 71) hx hb dX10_mark_43 (by decide) ?_
      exact g_X10_mark_71 F hA hRt hB29 q x2 (0 : Int32) h _ (lv_sub hl [0, 1] rfl) _ _ hP hD hS
def f_X10_mark_29 : Nat → QS → Int32 → Option (QS)
  | 0 => fun _ _ => none
  | n + 1 => f_X10_mark_29_b (f_X10_mark_29 n)
theorem g_X10_mark_29 {E : En} {p : Program} {l : Launch} {e : Env} {s : State} {m : MethodId} {args : Array Value} {below : List Frame} {meth : Method} {c : Code} {A : Nat → Prop} {Q : State → Prop} (F : Fx E p s m args meth c (yX10_mark).cls cX10_mark 5 none) (hA : ∀ z : Nat, s.heap.size ≤ z → A z) {o : QS} (hRt : RtV (wM E) E p l e rm_X10_mark s m args below meth c A Q cX10_mark o) (n : Nat) : ∀ (q : QS) (x2 : Int32), f_X10_mark_29 n q x2 = some o → ∀ ls : Array Slot, lv_has ls 5 [(0, .ref (eA E 0)), (2, .int x2)] → Wq (wM E) E p l e rm_X10_mark s m args below meth c A 0 0 Q q (F0 m 29 ls []) := by
  induction n with
  | zero => intro q x2 h; cases h
  | succ n ih => intro q x2 h; exact g_X10_mark_29_b F hA hRt ih q x2 h
def f_X10_mark_20 (q : QS) (x1 : Int32) : Option (QS) :=
  (wI q 25 200 x1 (1 : Int32)).bind fun q4 =>
  f_X10_mark_29 FU q4 x1
set_option maxHeartbeats 4000000 in
set_option maxRecDepth 100000 in
theorem g_X10_mark_20 {E : En} {p : Program} {l : Launch} {e : Env} {s : State} {m : MethodId} {args : Array Value} {below : List Frame} {meth : Method} {c : Code} {A : Nat → Prop} {Q : State → Prop} (F : Fx E p s m args meth c (yX10_mark).cls cX10_mark 5 none) (hA : ∀ z : Nat, s.heap.size ≤ z → A z) {o : QS} (hRt : RtV (wM E) E p l e rm_X10_mark s m args below meth c A Q cX10_mark o) (q : QS) (x1 : Int32) (h : f_X10_mark_20 q x1 = some o) (ls : Array Slot) (hl : lv_has ls 5 [(0, .ref (eA E 0)), (1, .int x1)]) : Wq (wM E) E p l e rm_X10_mark s m args below meth c A 0 0 Q q (F0 m 20 ls []) := by
  intro H locs hP hD hS
  have hx := F.1
  have hb := F.2.1
  unfold f_X10_mark_20 at h
  refine lv_aload_n hx hb dX10_mark_20 rfl (lv_at hl 0 rfl) ?_
  refine r_get F hP i_X10 0 (me_0 E q) rfl 27 (by decide) rfl lf_X10_86 rfl dX10_mark_21 ?_
  refine lv_iload_n hx hb dX10_mark_24 rfl (lv_at hl 1 rfl) ?_
  refine lv_iconst (v := 1) hx hb dX10_mark_25 (by decide) ?_
  obtain ⟨q4, e5, h⟩ := Option.bind_eq_some_iff.mp h
  refine r_iast F hP hD hS 25 (me_25 E q) (ms_25 E q) e5 dX10_mark_26 ?_
  intro H locs hP hD hS
  refine lv_iload_n hx hb dX10_mark_27 rfl (lv_at hl 1 rfl) ?_
  refine lv_istore_n (lv' := [(2, .int x1), (0, .ref (eA E 0)), (1, .int x1)]) hx hb dX10_mark_28 rfl hl (by decide) rfl (fun ls hl => ?_)
  exact g_X10_mark_29 F hA hRt FU q4 x1 h _ (lv_sub hl [1, 0] rfl) _ _ hP hD hS
def f_X10_mark_0 (q : QS) (x1 : Int32) : Option (QS) :=
  f_X10_mark_2 (f_X10_mark_20) FU q x1 (0 : Int32)
set_option maxHeartbeats 4000000 in
set_option maxRecDepth 100000 in
theorem g_X10_mark_0 {E : En} {p : Program} {l : Launch} {e : Env} {s : State} {m : MethodId} {args : Array Value} {below : List Frame} {meth : Method} {c : Code} {A : Nat → Prop} {Q : State → Prop} (F : Fx E p s m args meth c (yX10_mark).cls cX10_mark 5 none) (hA : ∀ z : Nat, s.heap.size ≤ z → A z) {o : QS} (hRt : RtV (wM E) E p l e rm_X10_mark s m args below meth c A Q cX10_mark o) (q : QS) (x1 : Int32) (h : f_X10_mark_0 q x1 = some o) (ls : Array Slot) (hl : lv_has ls 5 [(0, .ref (eA E 0)), (1, .int x1)]) : Wq (wM E) E p l e rm_X10_mark s m args below meth c A 0 0 Q q (F0 m 0 ls []) := by
  intro H locs hP hD hS
  have hx := F.1
  have hb := F.2.1
  unfold f_X10_mark_0 at h
  refine lv_iconst (v := 0) hx hb dX10_mark_0 (by decide) ?_
  refine lv_istore_n (lv' := [(2, .int (0 : Int32)), (0, .ref (eA E 0)), (1, .int x1)]) hx hb dX10_mark_1 rfl hl (by decide) rfl (fun ls hl => ?_)
  exact g_X10_mark_2 F hA hRt (g_X10_mark_20 F hA hRt) FU q x1 (0 : Int32) h _ (lv_sub hl [1, 2, 0] rfl) _ _ hP hD hS
def f_X10_mark (q : QS) (x1 : Int32) : Option (QS) := f_X10_mark_0 q x1
set_option maxRecDepth 100000 in
theorem c_X10_mark {E : En} {l : Launch} (q : QS) (x1 : Int32) {o : QS} (h : f_X10_mark q x1 = some o) : Ct (wM E) E l yX10_mark (wy yX10_mark cX10_mark 5 none) rm_X10_mark q o [.ref (eA E 0), .int x1] none :=
  ct_V (o := o) (by decide +kernel) (fun p e s m below meth c A Q F hA hRt H locs hP hD hS => en_W [.ref (eA E 0), .int x1] (Nat.le_of_ble_eq_true rfl) (fun ls hl => g_X10_mark_0 F hA hRt q x1 h ls (lv_sub hl [0, 1] rfl) H locs hP hD hS))
def rm_X10_isBetter : Room := { frames := 1, cells := 0, slots := 0, locals := 23 }
def f_X10_isBetter_19_b (q : QS) (K69 : Int32 → Int32 → Int32 → Option (Int32)) (B19 : Int32 → Int32 → Int32 → Int32 → Option (Int32)) (x1 : Int32) (x2 : Int32) (x3 : Int32) (x4 : Int32) : Option (Int32) :=
  if (4 : Int32) ≤ x4 then
    K69 x1 x2 x3
  else
    if x3 = 0 then
      (rd (qL q 20) 800 (((4 : Int32) * x2) + x4)).bind fun y9 =>
      (rd (qL q 24) 800 (((4 : Int32) * x1) + x4)).bind fun y11 =>
      (f_X10_sign (y9 ^^^ (-9223372036854775808 : Int64)) (y11 ^^^ (-9223372036854775808 : Int64))).bind fun r13 =>
      B19 x1 x2 r13 (x4 + (1 : Int32))
    else
      K69 x1 x2 x3
set_option maxHeartbeats 4000000 in
set_option maxRecDepth 100000 in
theorem g_X10_isBetter_19_b {E : En} {p : Program} {l : Launch} {e : Env} {s : State} {m : MethodId} {args : Array Value} {below : List Frame} {meth : Method} {c : Code} {A : Nat → Prop} {Q : State → Prop} (F : Fx E p s m args meth c (yX10_isBetter).cls cX10_isBetter 5 (some .boolean)) (hA : ∀ z : Nat, s.heap.size ≤ z → A z) {q : QS} {o : Int32} (hRt : RtZ (wM E) E p l e rm_X10_isBetter s m args below meth c A Q cX10_isBetter (o, q)) {K69 : Int32 → Int32 → Int32 → Option (Int32)} {B19 : Int32 → Int32 → Int32 → Int32 → Option (Int32)} (hK69 : ∀ (x1 : Int32) (x2 : Int32) (x3 : Int32), K69 x1 x2 x3 = some o → ∀ ls : Array Slot, lv_has ls 5 [(0, .ref (eA E 0)), (1, .int x1), (2, .int x2), (3, .int x3)] → Wq (wM E) E p l e rm_X10_isBetter s m args below meth c A 0 0 Q q (F0 m 69 ls [])) (hB19 : ∀ (x1 : Int32) (x2 : Int32) (x3 : Int32) (x4 : Int32), B19 x1 x2 x3 x4 = some o → ∀ ls : Array Slot, lv_has ls 5 [(0, .ref (eA E 0)), (1, .int x1), (2, .int x2), (3, .int x3), (4, .int x4)] → Wq (wM E) E p l e rm_X10_isBetter s m args below meth c A 0 0 Q q (F0 m 19 ls [])) (x1 : Int32) (x2 : Int32) (x3 : Int32) (x4 : Int32) (h : f_X10_isBetter_19_b q K69 B19 x1 x2 x3 x4 = some o) (ls : Array Slot) (hl : lv_has ls 5 [(0, .ref (eA E 0)), (1, .int x1), (2, .int x2), (3, .int x3), (4, .int x4)]) : Wq (wM E) E p l e rm_X10_isBetter s m args below meth c A 0 0 Q q (F0 m 19 ls []) := by
  intro H locs hP hD hS
  have hx := F.1
  have hb := F.2.1
  unfold f_X10_isBetter_19_b at h
  refine lv_iload hx hb dX10_isBetter_19 (lv_at hl 4 rfl) ?_
  refine lv_iconst (v := 4) hx hb dX10_isBetter_21 (by decide) ?_
  refine lv_icmp_ge (tgt := 69) hx hb dX10_isBetter_22 (by decide) (fun c7 => ?_) (fun c7 => ?_)
  · rw [if_pos c7] at h
    exact hK69 x1 x2 x3 h _ (lv_sub hl [0, 1, 2, 3] rfl) _ _ hP hD hS
  · rw [if_neg c7] at h
    refine lv_iload_n hx hb dX10_isBetter_25 rfl (lv_at hl 3 rfl) ?_
    refine lv_if_ne (tgt := 69) hx hb dX10_isBetter_26 (by decide) (fun c8 => ?_) (fun c8 => ?_)
    · rw [if_neg c8] at h
      exact hK69 x1 x2 x3 h _ (lv_sub hl [0, 1, 2, 3] rfl) _ _ hP hD hS
    · rw [if_pos c8] at h
      refine lv_aload_n hx hb dX10_isBetter_29 rfl (lv_at hl 0 rfl) ?_
      refine r_get F hP i_X10 0 (me_0 E q) rfl 22 (by decide) rfl lf_X10_71 rfl dX10_isBetter_30 ?_
      refine lv_iconst (v := 4) hx hb dX10_isBetter_33 (by decide) ?_
      refine lv_iload_n hx hb dX10_isBetter_34 rfl (lv_at hl 2 rfl) ?_
      refine lv_imul hx hb dX10_isBetter_35 ?_
      refine lv_iload hx hb dX10_isBetter_36 (lv_at hl 4 rfl) ?_
      refine lv_iadd hx hb dX10_isBetter_38 ?_
      obtain ⟨y9, e10, h⟩ := Option.bind_eq_some_iff.mp h
      refine r_lald F hP 20 (me_20 E q) e10 dX10_isBetter_39 ?_
      refine lv_ldc2 (v := (-9223372036854775808)) hx hb F.2.2.2.1 (F.2.2.2.2.1 _ lc_X10_210) dX10_isBetter_40 ?_
      refine lv_lxor hx hb dX10_isBetter_43 ?_
      refine lv_aload_n hx hb dX10_isBetter_44 rfl (lv_at hl 0 rfl) ?_
      refine r_get F hP i_X10 0 (me_0 E q) rfl 26 (by decide) rfl lf_X10_83 rfl dX10_isBetter_45 ?_
      refine lv_iconst (v := 4) hx hb dX10_isBetter_48 (by decide) ?_
      refine lv_iload_n hx hb dX10_isBetter_49 rfl (lv_at hl 1 rfl) ?_
      refine lv_imul hx hb dX10_isBetter_50 ?_
      refine lv_iload hx hb dX10_isBetter_51 (lv_at hl 4 rfl) ?_
      refine lv_iadd hx hb dX10_isBetter_53 ?_
      obtain ⟨y11, e12, h⟩ := Option.bind_eq_some_iff.mp h
      refine r_lald F hP 24 (me_24 E q) e12 dX10_isBetter_54 ?_
      refine lv_ldc2 (v := (-9223372036854775808)) hx hb F.2.2.2.1 (F.2.2.2.2.1 _ lc_X10_210) dX10_isBetter_55 ?_
      refine lv_lxor hx hb dX10_isBetter_58 ?_
      obtain ⟨r13, e14, h⟩ := Option.bind_eq_some_iff.mp h
      refine q_callS (As := [.long (y9 ^^^ (-9223372036854775808 : Int64)), .long (y11 ^^^ (-9223372036854775808 : Int64))]) (rest := []) F hA hP hD hS (c_X10_sign (E := E) (l := l) q (y9 ^^^ (-9223372036854775808 : Int64)) (y11 ^^^ (-9223372036854775808 : Int64)) e14) k_X10_sign st_X10_sign lm_X10_206 ⟨rfl, rfl⟩ ⟨by decide, by decide⟩ rfl hl.1 rfl (Nat.le_of_ble_eq_true rfl) dX10_isBetter_59 ⟨by decide, by decide⟩ ?_
      intro H locs hP hD hS
      refine lv_istore_n (lv' := [(3, .int r13), (0, .ref (eA E 0)), (1, .int x1), (2, .int x2), (4, .int x4)]) hx hb dX10_isBetter_62 rfl hl (by decide) rfl (fun ls hl => ?_)
      refine lv_iinc (v := (x4 + (1 : Int32))) (lv' := [(4, .int (x4 + (1 : Int32))), (3, .int r13), (0, .ref (eA E 0)), (1, .int x1), (2, .int x2)]) hx hb dX10_isBetter_63 hl (k := 4) rfl rfl (by decide) rfl (fun ls hl => ?_)
      refine lv_goto (tgt := 19) hx hb dX10_isBetter_66 (by decide) ?_
      exact hB19 x1 x2 r13 (x4 + (1 : Int32)) h _ (lv_sub hl [2, 3, 4, 1, 0] rfl) _ _ hP hD hS
def f_X10_isBetter_19 (q : QS) (K69 : Int32 → Int32 → Int32 → Option (Int32)) : Nat → Int32 → Int32 → Int32 → Int32 → Option (Int32)
  | 0 => fun _ _ _ _ => none
  | n + 1 => f_X10_isBetter_19_b q K69 (f_X10_isBetter_19 q K69 n)
theorem g_X10_isBetter_19 {E : En} {p : Program} {l : Launch} {e : Env} {s : State} {m : MethodId} {args : Array Value} {below : List Frame} {meth : Method} {c : Code} {A : Nat → Prop} {Q : State → Prop} (F : Fx E p s m args meth c (yX10_isBetter).cls cX10_isBetter 5 (some .boolean)) (hA : ∀ z : Nat, s.heap.size ≤ z → A z) {q : QS} {o : Int32} (hRt : RtZ (wM E) E p l e rm_X10_isBetter s m args below meth c A Q cX10_isBetter (o, q)) {K69 : Int32 → Int32 → Int32 → Option (Int32)} (hK69 : ∀ (x1 : Int32) (x2 : Int32) (x3 : Int32), K69 x1 x2 x3 = some o → ∀ ls : Array Slot, lv_has ls 5 [(0, .ref (eA E 0)), (1, .int x1), (2, .int x2), (3, .int x3)] → Wq (wM E) E p l e rm_X10_isBetter s m args below meth c A 0 0 Q q (F0 m 69 ls [])) (n : Nat) : ∀ (x1 : Int32) (x2 : Int32) (x3 : Int32) (x4 : Int32), f_X10_isBetter_19 q K69 n x1 x2 x3 x4 = some o → ∀ ls : Array Slot, lv_has ls 5 [(0, .ref (eA E 0)), (1, .int x1), (2, .int x2), (3, .int x3), (4, .int x4)] → Wq (wM E) E p l e rm_X10_isBetter s m args below meth c A 0 0 Q q (F0 m 19 ls []) := by
  induction n with
  | zero => intro x1 x2 x3 x4 h; cases h
  | succ n ih => intro x1 x2 x3 x4 h; exact g_X10_isBetter_19_b F hA hRt hK69 ih x1 x2 x3 x4 h
def f_X10_isBetter_94 (q : QS) (x1 : Int32) (t0 : Int32) : Option (Int32) :=
  (rd (qI q 11) 200 x1).bind fun y22 =>
  if y22 = (8 : Int32) then
    if 0 ≤ t0 then
      some (0 : Int32)
    else
      some (1 : Int32)
  else
    if t0 ≤ 0 then
      some (0 : Int32)
    else
      some (1 : Int32)
set_option maxHeartbeats 4000000 in
set_option maxRecDepth 100000 in
theorem g_X10_isBetter_94 {E : En} {p : Program} {l : Launch} {e : Env} {s : State} {m : MethodId} {args : Array Value} {below : List Frame} {meth : Method} {c : Code} {A : Nat → Prop} {Q : State → Prop} (F : Fx E p s m args meth c (yX10_isBetter).cls cX10_isBetter 5 (some .boolean)) (hA : ∀ z : Nat, s.heap.size ≤ z → A z) {q : QS} {o : Int32} (hRt : RtZ (wM E) E p l e rm_X10_isBetter s m args below meth c A Q cX10_isBetter (o, q)) (x1 : Int32) (t0 : Int32) (h : f_X10_isBetter_94 q x1 t0 = some o) (ls : Array Slot) (hl : lv_has ls 5 [(0, .ref (eA E 0)), (1, .int x1)]) : Wq (wM E) E p l e rm_X10_isBetter s m args below meth c A 0 0 Q q (F0 m 94 ls [.int t0]) := by
  intro H locs hP hD hS
  have hx := F.1
  have hb := F.2.1
  unfold f_X10_isBetter_94 at h
  refine lv_istore_n (lv' := [(3, .int t0), (0, .ref (eA E 0)), (1, .int x1)]) hx hb dX10_isBetter_94 rfl hl (by decide) rfl (fun ls hl => ?_)
  refine lv_aload_n hx hb dX10_isBetter_95 rfl (lv_at hl 1 rfl) ?_
  refine r_get F hP i_X10 0 (me_0 E q) rfl 13 (by decide) rfl lf_X10_43 rfl dX10_isBetter_96 ?_
  refine lv_iload_n hx hb dX10_isBetter_99 rfl (lv_at hl 2 rfl) ?_
  obtain ⟨y22, e23, h⟩ := Option.bind_eq_some_iff.mp h
  refine r_iald F hP 11 (me_11 E q) e23 dX10_isBetter_100 ?_
  refine lv_bipush (v := 8) hx hb dX10_isBetter_101 (by decide) ?_
  refine lv_icmp_ne (tgt := 118) hx hb dX10_isBetter_103 (by decide) (fun c24 => ?_) (fun c24 => ?_)
  · rw [if_neg c24] at h
    refine lv_iload_n hx hb dX10_isBetter_118 rfl (lv_at hl 0 rfl) ?_
    refine lv_if_le (tgt := 126) hx hb dX10_isBetter_119 (by decide) (fun c25 => ?_) (fun c25 => ?_)
    · rw [if_pos c25] at h
      refine lv_iconst (v := 0) hx hb dX10_isBetter_126 (by decide) ?_
      cases h
      exact hRt _ _ zz_0 dX10_isBetter_127 _ _ hP hD hS
    · rw [if_neg c25] at h
      refine lv_iconst (v := 1) hx hb dX10_isBetter_122 (by decide) ?_
      refine lv_goto (tgt := 127) hx hb dX10_isBetter_123 (by decide) ?_
      cases h
      exact hRt _ _ zz_1 dX10_isBetter_127 _ _ hP hD hS
  · rw [if_pos c24] at h
    refine lv_iload_n hx hb dX10_isBetter_106 rfl (lv_at hl 0 rfl) ?_
    refine lv_if_ge (tgt := 114) hx hb dX10_isBetter_107 (by decide) (fun c26 => ?_) (fun c26 => ?_)
    · rw [if_pos c26] at h
      refine lv_iconst (v := 0) hx hb dX10_isBetter_114 (by decide) ?_
      refine lv_goto (tgt := 127) hx hb dX10_isBetter_115 (by decide) ?_
      cases h
      exact hRt _ _ zz_0 dX10_isBetter_127 _ _ hP hD hS
    · rw [if_neg c26] at h
      refine lv_iconst (v := 1) hx hb dX10_isBetter_110 (by decide) ?_
      refine lv_goto (tgt := 127) hx hb dX10_isBetter_111 (by decide) ?_
      cases h
      exact hRt _ _ zz_1 dX10_isBetter_127 _ _ hP hD hS
def f_X10_isBetter_69 (q : QS) (x1 : Int32) (x2 : Int32) (x3 : Int32) : Option (Int32) :=
  if x3 = 0 then
    (rd (qI q 19) 200 x2).bind fun y16 =>
    (rd (qI q 23) 200 x1).bind fun y18 =>
    (f_X10_sign ((y16).toInt64) ((y18).toInt64)).bind fun r20 =>
    f_X10_isBetter_94 q x1 r20
  else
    f_X10_isBetter_94 q x1 x3
set_option maxHeartbeats 4000000 in
set_option maxRecDepth 100000 in
theorem g_X10_isBetter_69 {E : En} {p : Program} {l : Launch} {e : Env} {s : State} {m : MethodId} {args : Array Value} {below : List Frame} {meth : Method} {c : Code} {A : Nat → Prop} {Q : State → Prop} (F : Fx E p s m args meth c (yX10_isBetter).cls cX10_isBetter 5 (some .boolean)) (hA : ∀ z : Nat, s.heap.size ≤ z → A z) {q : QS} {o : Int32} (hRt : RtZ (wM E) E p l e rm_X10_isBetter s m args below meth c A Q cX10_isBetter (o, q)) (x1 : Int32) (x2 : Int32) (x3 : Int32) (h : f_X10_isBetter_69 q x1 x2 x3 = some o) (ls : Array Slot) (hl : lv_has ls 5 [(0, .ref (eA E 0)), (1, .int x1), (2, .int x2), (3, .int x3)]) : Wq (wM E) E p l e rm_X10_isBetter s m args below meth c A 0 0 Q q (F0 m 69 ls []) := by
  intro H locs hP hD hS
  have hx := F.1
  have hb := F.2.1
  unfold f_X10_isBetter_69 at h
  refine lv_iload_n hx hb dX10_isBetter_69 rfl (lv_at hl 3 rfl) ?_
  refine lv_if_eq (tgt := 77) hx hb dX10_isBetter_70 (by decide) (fun c15 => ?_) (fun c15 => ?_)
  · rw [if_pos c15] at h
    refine lv_aload_n hx hb dX10_isBetter_77 rfl (lv_at hl 0 rfl) ?_
    refine r_get F hP i_X10 0 (me_0 E q) rfl 21 (by decide) rfl lf_X10_68 rfl dX10_isBetter_78 ?_
    refine lv_iload_n hx hb dX10_isBetter_81 rfl (lv_at hl 2 rfl) ?_
    obtain ⟨y16, e17, h⟩ := Option.bind_eq_some_iff.mp h
    refine r_iald F hP 19 (me_19 E q) e17 dX10_isBetter_82 ?_
    refine lv_i2l (v := ((y16).toInt64)) hx hb dX10_isBetter_83 rfl ?_
    refine lv_aload_n hx hb dX10_isBetter_84 rfl (lv_at hl 0 rfl) ?_
    refine r_get F hP i_X10 0 (me_0 E q) rfl 25 (by decide) rfl lf_X10_80 rfl dX10_isBetter_85 ?_
    refine lv_iload_n hx hb dX10_isBetter_88 rfl (lv_at hl 1 rfl) ?_
    obtain ⟨y18, e19, h⟩ := Option.bind_eq_some_iff.mp h
    refine r_iald F hP 23 (me_23 E q) e19 dX10_isBetter_89 ?_
    refine lv_i2l (v := ((y18).toInt64)) hx hb dX10_isBetter_90 rfl ?_
    obtain ⟨r20, e21, h⟩ := Option.bind_eq_some_iff.mp h
    refine q_callS (As := [.long ((y16).toInt64), .long ((y18).toInt64)]) (rest := []) F hA hP hD hS (c_X10_sign (E := E) (l := l) q ((y16).toInt64) ((y18).toInt64) e21) k_X10_sign st_X10_sign lm_X10_206 ⟨rfl, rfl⟩ ⟨by decide, by decide⟩ rfl hl.1 rfl (Nat.le_of_ble_eq_true rfl) dX10_isBetter_91 ⟨by decide, by decide⟩ ?_
    intro H locs hP hD hS
    exact g_X10_isBetter_94 F hA hRt x1 r20 h _ (lv_sub hl [0, 1] rfl) _ _ hP hD hS
  · rw [if_neg c15] at h
    refine lv_iload_n hx hb dX10_isBetter_73 rfl (lv_at hl 3 rfl) ?_
    refine lv_goto (tgt := 94) hx hb dX10_isBetter_74 (by decide) ?_
    exact g_X10_isBetter_94 F hA hRt x1 x3 h _ (lv_sub hl [0, 1] rfl) _ _ hP hD hS
def f_X10_isBetter_0 (q : QS) (x1 : Int32) (x2 : Int32) : Option (Int32) :=
  (rd (qL q 18) 200 x2).bind fun y1 =>
  (rd (qL q 22) 200 x1).bind fun y3 =>
  (f_X10_sign y1 y3).bind fun r5 =>
  f_X10_isBetter_19 q (f_X10_isBetter_69 q) FU x1 x2 r5 (0 : Int32)
set_option maxHeartbeats 4000000 in
set_option maxRecDepth 100000 in
theorem g_X10_isBetter_0 {E : En} {p : Program} {l : Launch} {e : Env} {s : State} {m : MethodId} {args : Array Value} {below : List Frame} {meth : Method} {c : Code} {A : Nat → Prop} {Q : State → Prop} (F : Fx E p s m args meth c (yX10_isBetter).cls cX10_isBetter 5 (some .boolean)) (hA : ∀ z : Nat, s.heap.size ≤ z → A z) {q : QS} {o : Int32} (hRt : RtZ (wM E) E p l e rm_X10_isBetter s m args below meth c A Q cX10_isBetter (o, q)) (x1 : Int32) (x2 : Int32) (h : f_X10_isBetter_0 q x1 x2 = some o) (ls : Array Slot) (hl : lv_has ls 5 [(0, .ref (eA E 0)), (1, .int x1), (2, .int x2)]) : Wq (wM E) E p l e rm_X10_isBetter s m args below meth c A 0 0 Q q (F0 m 0 ls []) := by
  intro H locs hP hD hS
  have hx := F.1
  have hb := F.2.1
  unfold f_X10_isBetter_0 at h
  refine lv_aload_n hx hb dX10_isBetter_0 rfl (lv_at hl 0 rfl) ?_
  refine r_get F hP i_X10 0 (me_0 E q) rfl 20 (by decide) rfl lf_X10_65 rfl dX10_isBetter_1 ?_
  refine lv_iload_n hx hb dX10_isBetter_4 rfl (lv_at hl 2 rfl) ?_
  obtain ⟨y1, e2, h⟩ := Option.bind_eq_some_iff.mp h
  refine r_lald F hP 18 (me_18 E q) e2 dX10_isBetter_5 ?_
  refine lv_aload_n hx hb dX10_isBetter_6 rfl (lv_at hl 0 rfl) ?_
  refine r_get F hP i_X10 0 (me_0 E q) rfl 24 (by decide) rfl lf_X10_77 rfl dX10_isBetter_7 ?_
  refine lv_iload_n hx hb dX10_isBetter_10 rfl (lv_at hl 1 rfl) ?_
  obtain ⟨y3, e4, h⟩ := Option.bind_eq_some_iff.mp h
  refine r_lald F hP 22 (me_22 E q) e4 dX10_isBetter_11 ?_
  obtain ⟨r5, e6, h⟩ := Option.bind_eq_some_iff.mp h
  refine q_callS (As := [.long y1, .long y3]) (rest := []) F hA hP hD hS (c_X10_sign (E := E) (l := l) q y1 y3 e6) k_X10_sign st_X10_sign lm_X10_206 ⟨rfl, rfl⟩ ⟨by decide, by decide⟩ rfl hl.1 rfl (Nat.le_of_ble_eq_true rfl) dX10_isBetter_12 ⟨by decide, by decide⟩ ?_
  intro H locs hP hD hS
  refine lv_istore_n (lv' := [(3, .int r5), (0, .ref (eA E 0)), (1, .int x1), (2, .int x2)]) hx hb dX10_isBetter_15 rfl hl (by decide) rfl (fun ls hl => ?_)
  refine lv_iconst (v := 0) hx hb dX10_isBetter_16 (by decide) ?_
  refine lv_istore (lv' := [(4, .int (0 : Int32)), (3, .int r5), (0, .ref (eA E 0)), (1, .int x1), (2, .int x2)]) hx hb dX10_isBetter_17 hl (by decide) rfl (fun ls hl => ?_)
  exact g_X10_isBetter_19 F hA hRt (g_X10_isBetter_69 F hA hRt) FU x1 x2 r5 (0 : Int32) h _ (lv_sub hl [2, 3, 4, 1, 0] rfl) _ _ hP hD hS
def f_X10_isBetter (q : QS) (x1 : Int32) (x2 : Int32) : Option (Int32) := f_X10_isBetter_0 q x1 x2
set_option maxRecDepth 100000 in
theorem c_X10_isBetter {E : En} {l : Launch} (q : QS) (x1 : Int32) (x2 : Int32) {o : Int32} (h : f_X10_isBetter q x1 x2 = some o) : Ct (wM E) E l yX10_isBetter (wy yX10_isBetter cX10_isBetter 5 (some .boolean)) rm_X10_isBetter q q [.ref (eA E 0), .int x1, .int x2] (some (.int o)) :=
  ct_Z (o := (o, q)) (by decide +kernel) (fun p e s m below meth c A Q F hA hRt H locs hP hD hS => en_W [.ref (eA E 0), .int x1, .int x2] (Nat.le_of_ble_eq_true rfl) (fun ls hl => g_X10_isBetter_0 F hA hRt x1 x2 h ls (lv_sub hl [0, 1, 2] rfl) H locs hP hD hS))
def rm_X10_gather : Room := { frames := 2, cells := 0, slots := 0, locals := 47 }
def f_X10_gather_174 (q : QS) (x1 : Int32) (x3 : Int32) : Option (QS) :=
  if x3 = 0 then
    (rd (qL q 21) 200 x1).bind fun y12 =>
    (wL q 21 200 x1 y12).bind fun q14 =>
    some q14
  else
    (rd (qL q 21) 200 x1).bind fun y16 =>
    (wL q 21 200 x1 (y16 + (1 : Int64))).bind fun q18 =>
    some q18
set_option maxHeartbeats 4000000 in
set_option maxRecDepth 100000 in
theorem g_X10_gather_174 {E : En} {p : Program} {l : Launch} {e : Env} {s : State} {m : MethodId} {args : Array Value} {below : List Frame} {meth : Method} {c : Code} {A : Nat → Prop} {Q : State → Prop} (F : Fx E p s m args meth c (yX10_gather).cls cX10_gather 6 none) (hA : ∀ z : Nat, s.heap.size ≤ z → A z) {o : QS} (hRt : RtV (wM E) E p l e rm_X10_gather s m args below meth c A Q cX10_gather o) (q : QS) (x1 : Int32) (x3 : Int32) (h : f_X10_gather_174 q x1 x3 = some o) (ls : Array Slot) (hl : lv_has ls 6 [(0, .ref (eA E 0)), (1, .int x1), (3, .int x3)]) : Wq (wM E) E p l e rm_X10_gather s m args below meth c A 0 0 Q q (F0 m 174 ls []) := by
  intro H locs hP hD hS
  have hx := F.1
  have hb := F.2.1
  unfold f_X10_gather_174 at h
  refine lv_aload_n hx hb dX10_gather_174 rfl (lv_at hl 0 rfl) ?_
  refine r_get F hP i_X10 0 (me_0 E q) rfl 23 (by decide) rfl lf_X10_74 rfl dX10_gather_175 ?_
  refine lv_iload_n hx hb dX10_gather_178 rfl (lv_at hl 1 rfl) ?_
  refine lv_iload_n hx hb dX10_gather_179 rfl (lv_at hl 2 rfl) ?_
  refine lv_if_eq (tgt := 194) hx hb dX10_gather_180 (by decide) (fun c11 => ?_) (fun c11 => ?_)
  · rw [if_pos c11] at h
    refine lv_aload_n hx hb dX10_gather_194 rfl (lv_at hl 0 rfl) ?_
    refine r_get F hP i_X10 0 (me_0 E q) rfl 23 (by decide) rfl lf_X10_74 rfl dX10_gather_195 ?_
    refine lv_iload_n hx hb dX10_gather_198 rfl (lv_at hl 1 rfl) ?_
    obtain ⟨y12, e13, h⟩ := Option.bind_eq_some_iff.mp h
    refine r_lald F hP 21 (me_21 E q) e13 dX10_gather_199 ?_
    obtain ⟨q14, e15, h⟩ := Option.bind_eq_some_iff.mp h
    refine r_last F hP hD hS 21 (me_21 E q) (ms_21 E q) e15 dX10_gather_200 ?_
    intro H locs hP hD hS
    cases h
    exact hRt _ _ dX10_gather_201 _ _ hP hD hS
  · rw [if_neg c11] at h
    refine lv_aload_n hx hb dX10_gather_183 rfl (lv_at hl 0 rfl) ?_
    refine r_get F hP i_X10 0 (me_0 E q) rfl 23 (by decide) rfl lf_X10_74 rfl dX10_gather_184 ?_
    refine lv_iload_n hx hb dX10_gather_187 rfl (lv_at hl 1 rfl) ?_
    obtain ⟨y16, e17, h⟩ := Option.bind_eq_some_iff.mp h
    refine r_lald F hP 21 (me_21 E q) e17 dX10_gather_188 ?_
    refine lv_lconst (v := 1) hx hb dX10_gather_189 (by decide) ?_
    refine lv_ladd hx hb dX10_gather_190 ?_
    refine lv_goto (tgt := 200) hx hb dX10_gather_191 (by decide) ?_
    obtain ⟨q18, e19, h⟩ := Option.bind_eq_some_iff.mp h
    refine r_last F hP hD hS 21 (me_21 E q) (ms_21 E q) e19 dX10_gather_200 ?_
    intro H locs hP hD hS
    cases h
    exact hRt _ _ dX10_gather_201 _ _ hP hD hS
def f_X10_gather_140_b (K174 : QS → Int32 → Int32 → Option (QS)) (B140 : QS → Int32 → Int32 → Int32 → Int32 → Option (QS)) (q : QS) (x1 : Int32) (x2 : Int32) (x3 : Int32) (x5 : Int32) : Option (QS) :=
  if (4 : Int32) ≤ x5 then
    K174 q x1 x3
  else
    (rd (qL q 20) 800 (((4 : Int32) * x2) + x5)).bind fun y29 =>
    (wL q 24 800 (((4 : Int32) * x1) + x5) y29).bind fun q31 =>
    B140 q31 x1 x2 x3 (x5 + (1 : Int32))
set_option maxHeartbeats 4000000 in
set_option maxRecDepth 100000 in
theorem g_X10_gather_140_b {E : En} {p : Program} {l : Launch} {e : Env} {s : State} {m : MethodId} {args : Array Value} {below : List Frame} {meth : Method} {c : Code} {A : Nat → Prop} {Q : State → Prop} (F : Fx E p s m args meth c (yX10_gather).cls cX10_gather 6 none) (hA : ∀ z : Nat, s.heap.size ≤ z → A z) {o : QS} (hRt : RtV (wM E) E p l e rm_X10_gather s m args below meth c A Q cX10_gather o) {K174 : QS → Int32 → Int32 → Option (QS)} {B140 : QS → Int32 → Int32 → Int32 → Int32 → Option (QS)} (hK174 : ∀ (q : QS) (x1 : Int32) (x3 : Int32), K174 q x1 x3 = some o → ∀ ls : Array Slot, lv_has ls 6 [(0, .ref (eA E 0)), (1, .int x1), (3, .int x3)] → Wq (wM E) E p l e rm_X10_gather s m args below meth c A 0 0 Q q (F0 m 174 ls [])) (hB140 : ∀ (q : QS) (x1 : Int32) (x2 : Int32) (x3 : Int32) (x5 : Int32), B140 q x1 x2 x3 x5 = some o → ∀ ls : Array Slot, lv_has ls 6 [(0, .ref (eA E 0)), (1, .int x1), (2, .int x2), (3, .int x3), (5, .int x5)] → Wq (wM E) E p l e rm_X10_gather s m args below meth c A 0 0 Q q (F0 m 140 ls [])) (q : QS) (x1 : Int32) (x2 : Int32) (x3 : Int32) (x5 : Int32) (h : f_X10_gather_140_b K174 B140 q x1 x2 x3 x5 = some o) (ls : Array Slot) (hl : lv_has ls 6 [(0, .ref (eA E 0)), (1, .int x1), (2, .int x2), (3, .int x3), (5, .int x5)]) : Wq (wM E) E p l e rm_X10_gather s m args below meth c A 0 0 Q q (F0 m 140 ls []) := by
  intro H locs hP hD hS
  have hx := F.1
  have hb := F.2.1
  unfold f_X10_gather_140_b at h
  refine lv_iload hx hb dX10_gather_140 (lv_at hl 4 rfl) ?_
  refine lv_iconst (v := 4) hx hb dX10_gather_142 (by decide) ?_
  refine lv_icmp_ge (tgt := 174) hx hb dX10_gather_143 (by decide) (fun c28 => ?_) (fun c28 => ?_)
  · rw [if_pos c28] at h
    exact hK174 q x1 x3 h _ (lv_sub hl [0, 1, 3] rfl) _ _ hP hD hS
  · rw [if_neg c28] at h
    refine lv_aload_n hx hb dX10_gather_146 rfl (lv_at hl 0 rfl) ?_
    refine r_get F hP i_X10 0 (me_0 E q) rfl 26 (by decide) rfl lf_X10_83 rfl dX10_gather_147 ?_
    refine lv_iconst (v := 4) hx hb dX10_gather_150 (by decide) ?_
    refine lv_iload_n hx hb dX10_gather_151 rfl (lv_at hl 1 rfl) ?_
    refine lv_imul hx hb dX10_gather_152 ?_
    refine lv_iload hx hb dX10_gather_153 (lv_at hl 4 rfl) ?_
    refine lv_iadd hx hb dX10_gather_155 ?_
    refine lv_aload_n hx hb dX10_gather_156 rfl (lv_at hl 0 rfl) ?_
    refine r_get F hP i_X10 0 (me_0 E q) rfl 22 (by decide) rfl lf_X10_71 rfl dX10_gather_157 ?_
    refine lv_iconst (v := 4) hx hb dX10_gather_160 (by decide) ?_
    refine lv_iload_n hx hb dX10_gather_161 rfl (lv_at hl 2 rfl) ?_
    refine lv_imul hx hb dX10_gather_162 ?_
    refine lv_iload hx hb dX10_gather_163 (lv_at hl 4 rfl) ?_
    refine lv_iadd hx hb dX10_gather_165 ?_
    obtain ⟨y29, e30, h⟩ := Option.bind_eq_some_iff.mp h
    refine r_lald F hP 20 (me_20 E q) e30 dX10_gather_166 ?_
    obtain ⟨q31, e32, h⟩ := Option.bind_eq_some_iff.mp h
    refine r_last F hP hD hS 24 (me_24 E q) (ms_24 E q) e32 dX10_gather_167 ?_
    intro H locs hP hD hS
    refine lv_iinc (v := (x5 + (1 : Int32))) (lv' := [(5, .int (x5 + (1 : Int32))), (0, .ref (eA E 0)), (1, .int x1), (2, .int x2), (3, .int x3)]) hx hb dX10_gather_168 hl (k := 4) rfl rfl (by decide) rfl (fun ls hl => ?_)
    refine lv_goto (tgt := 140) hx hb dX10_gather_171 (by decide) ?_
    exact hB140 q31 x1 x2 x3 (x5 + (1 : Int32)) h _ (lv_sub hl [1, 2, 3, 4, 0] rfl) _ _ hP hD hS
def f_X10_gather_140 (K174 : QS → Int32 → Int32 → Option (QS)) : Nat → QS → Int32 → Int32 → Int32 → Int32 → Option (QS)
  | 0 => fun _ _ _ _ _ => none
  | n + 1 => f_X10_gather_140_b K174 (f_X10_gather_140 K174 n)
theorem g_X10_gather_140 {E : En} {p : Program} {l : Launch} {e : Env} {s : State} {m : MethodId} {args : Array Value} {below : List Frame} {meth : Method} {c : Code} {A : Nat → Prop} {Q : State → Prop} (F : Fx E p s m args meth c (yX10_gather).cls cX10_gather 6 none) (hA : ∀ z : Nat, s.heap.size ≤ z → A z) {o : QS} (hRt : RtV (wM E) E p l e rm_X10_gather s m args below meth c A Q cX10_gather o) {K174 : QS → Int32 → Int32 → Option (QS)} (hK174 : ∀ (q : QS) (x1 : Int32) (x3 : Int32), K174 q x1 x3 = some o → ∀ ls : Array Slot, lv_has ls 6 [(0, .ref (eA E 0)), (1, .int x1), (3, .int x3)] → Wq (wM E) E p l e rm_X10_gather s m args below meth c A 0 0 Q q (F0 m 174 ls [])) (n : Nat) : ∀ (q : QS) (x1 : Int32) (x2 : Int32) (x3 : Int32) (x5 : Int32), f_X10_gather_140 K174 n q x1 x2 x3 x5 = some o → ∀ ls : Array Slot, lv_has ls 6 [(0, .ref (eA E 0)), (1, .int x1), (2, .int x2), (3, .int x3), (5, .int x5)] → Wq (wM E) E p l e rm_X10_gather s m args below meth c A 0 0 Q q (F0 m 140 ls []) := by
  induction n with
  | zero => intro q x1 x2 x3 x5 h; cases h
  | succ n ih => intro q x1 x2 x3 x5 h; exact g_X10_gather_140_b F hA hRt hK174 ih q x1 x2 x3 x5 h
def f_X10_gather_108 (q : QS) (x1 : Int32) (x2 : Int32) (x3 : Int32) (x4 : Int32) : Option (QS) :=
  if x4 = 0 then
    f_X10_gather_174 q x1 x3
  else
    (rd (qL q 18) 200 x2).bind fun y20 =>
    (wL q 22 200 x1 y20).bind fun q22 =>
    (rd (qI q22 19) 200 x2).bind fun y24 =>
    (wI q22 23 200 x1 y24).bind fun q26 =>
    f_X10_gather_140 (f_X10_gather_174) FU q26 x1 x2 x3 (0 : Int32)
set_option maxHeartbeats 4000000 in
set_option maxRecDepth 100000 in
theorem g_X10_gather_108 {E : En} {p : Program} {l : Launch} {e : Env} {s : State} {m : MethodId} {args : Array Value} {below : List Frame} {meth : Method} {c : Code} {A : Nat → Prop} {Q : State → Prop} (F : Fx E p s m args meth c (yX10_gather).cls cX10_gather 6 none) (hA : ∀ z : Nat, s.heap.size ≤ z → A z) {o : QS} (hRt : RtV (wM E) E p l e rm_X10_gather s m args below meth c A Q cX10_gather o) (q : QS) (x1 : Int32) (x2 : Int32) (x3 : Int32) (x4 : Int32) (h : f_X10_gather_108 q x1 x2 x3 x4 = some o) (ls : Array Slot) (hl : lv_has ls 6 [(0, .ref (eA E 0)), (1, .int x1), (2, .int x2), (3, .int x3), (4, .int x4)]) : Wq (wM E) E p l e rm_X10_gather s m args below meth c A 0 0 Q q (F0 m 108 ls []) := by
  intro H locs hP hD hS
  have hx := F.1
  have hb := F.2.1
  unfold f_X10_gather_108 at h
  refine lv_iload hx hb dX10_gather_108 (lv_at hl 4 rfl) ?_
  refine lv_if_eq (tgt := 174) hx hb dX10_gather_110 (by decide) (fun c10 => ?_) (fun c10 => ?_)
  · rw [if_pos c10] at h
    exact g_X10_gather_174 F hA hRt q x1 x3 h _ (lv_sub hl [0, 1, 3] rfl) _ _ hP hD hS
  · rw [if_neg c10] at h
    refine lv_aload_n hx hb dX10_gather_113 rfl (lv_at hl 0 rfl) ?_
    refine r_get F hP i_X10 0 (me_0 E q) rfl 24 (by decide) rfl lf_X10_77 rfl dX10_gather_114 ?_
    refine lv_iload_n hx hb dX10_gather_117 rfl (lv_at hl 1 rfl) ?_
    refine lv_aload_n hx hb dX10_gather_118 rfl (lv_at hl 0 rfl) ?_
    refine r_get F hP i_X10 0 (me_0 E q) rfl 20 (by decide) rfl lf_X10_65 rfl dX10_gather_119 ?_
    refine lv_iload_n hx hb dX10_gather_122 rfl (lv_at hl 2 rfl) ?_
    obtain ⟨y20, e21, h⟩ := Option.bind_eq_some_iff.mp h
    refine r_lald F hP 18 (me_18 E q) e21 dX10_gather_123 ?_
    obtain ⟨q22, e23, h⟩ := Option.bind_eq_some_iff.mp h
    refine r_last F hP hD hS 22 (me_22 E q) (ms_22 E q) e23 dX10_gather_124 ?_
    intro H locs hP hD hS
    refine lv_aload_n hx hb dX10_gather_125 rfl (lv_at hl 0 rfl) ?_
    refine r_get F hP i_X10 0 (me_0 E q22) rfl 25 (by decide) rfl lf_X10_80 rfl dX10_gather_126 ?_
    refine lv_iload_n hx hb dX10_gather_129 rfl (lv_at hl 1 rfl) ?_
    refine lv_aload_n hx hb dX10_gather_130 rfl (lv_at hl 0 rfl) ?_
    refine r_get F hP i_X10 0 (me_0 E q22) rfl 21 (by decide) rfl lf_X10_68 rfl dX10_gather_131 ?_
    refine lv_iload_n hx hb dX10_gather_134 rfl (lv_at hl 2 rfl) ?_
    obtain ⟨y24, e25, h⟩ := Option.bind_eq_some_iff.mp h
    refine r_iald F hP 19 (me_19 E q22) e25 dX10_gather_135 ?_
    obtain ⟨q26, e27, h⟩ := Option.bind_eq_some_iff.mp h
    refine r_iast F hP hD hS 23 (me_23 E q22) (ms_23 E q22) e27 dX10_gather_136 ?_
    intro H locs hP hD hS
    refine lv_iconst (v := 0) hx hb dX10_gather_137 (by decide) ?_
    refine lv_istore (lv' := [(5, .int (0 : Int32)), (0, .ref (eA E 0)), (1, .int x1), (2, .int x2), (3, .int x3), (4, .int x4)]) hx hb dX10_gather_138 hl (by decide) rfl (fun ls hl => ?_)
    exact g_X10_gather_140 F hA hRt (g_X10_gather_174 F hA hRt) FU q26 x1 x2 x3 (0 : Int32) h _ (lv_sub hl [1, 2, 3, 4, 0] rfl) _ _ hP hD hS
def f_X10_gather_72 (q : QS) (x1 : Int32) (x2 : Int32) (x3 : Int32) (t0 : Int32) : Option (QS) :=
  (rd (qI q 11) 200 x1).bind fun y7 =>
  if y7 = (7 : Int32) then
    if x3 = 0 then
      f_X10_gather_108 q x1 x2 x3 t0
    else
      (rd (qL q 22) 200 x1).bind fun y34 =>
      (rd (qL q 18) 200 x2).bind fun y36 =>
      (wL q 22 200 x1 (y34 + y36)).bind fun q38 =>
      f_X10_gather_108 q38 x1 x2 x3 t0
  else
    f_X10_gather_108 q x1 x2 x3 t0
set_option maxHeartbeats 4000000 in
set_option maxRecDepth 100000 in
theorem g_X10_gather_72 {E : En} {p : Program} {l : Launch} {e : Env} {s : State} {m : MethodId} {args : Array Value} {below : List Frame} {meth : Method} {c : Code} {A : Nat → Prop} {Q : State → Prop} (F : Fx E p s m args meth c (yX10_gather).cls cX10_gather 6 none) (hA : ∀ z : Nat, s.heap.size ≤ z → A z) {o : QS} (hRt : RtV (wM E) E p l e rm_X10_gather s m args below meth c A Q cX10_gather o) (q : QS) (x1 : Int32) (x2 : Int32) (x3 : Int32) (t0 : Int32) (h : f_X10_gather_72 q x1 x2 x3 t0 = some o) (ls : Array Slot) (hl : lv_has ls 6 [(0, .ref (eA E 0)), (1, .int x1), (2, .int x2), (3, .int x3)]) : Wq (wM E) E p l e rm_X10_gather s m args below meth c A 0 0 Q q (F0 m 72 ls [.int t0]) := by
  intro H locs hP hD hS
  have hx := F.1
  have hb := F.2.1
  unfold f_X10_gather_72 at h
  refine lv_istore (lv' := [(4, .int t0), (0, .ref (eA E 0)), (1, .int x1), (2, .int x2), (3, .int x3)]) hx hb dX10_gather_72 hl (by decide) rfl (fun ls hl => ?_)
  refine lv_aload_n hx hb dX10_gather_74 rfl (lv_at hl 1 rfl) ?_
  refine r_get F hP i_X10 0 (me_0 E q) rfl 13 (by decide) rfl lf_X10_43 rfl dX10_gather_75 ?_
  refine lv_iload_n hx hb dX10_gather_78 rfl (lv_at hl 2 rfl) ?_
  obtain ⟨y7, e8, h⟩ := Option.bind_eq_some_iff.mp h
  refine r_iald F hP 11 (me_11 E q) e8 dX10_gather_79 ?_
  refine lv_bipush (v := 7) hx hb dX10_gather_80 (by decide) ?_
  refine lv_icmp_ne (tgt := 108) hx hb dX10_gather_82 (by decide) (fun c9 => ?_) (fun c9 => ?_)
  · rw [if_neg c9] at h
    exact g_X10_gather_108 F hA hRt q x1 x2 x3 t0 h _ (lv_sub hl [1, 2, 3, 4, 0] rfl) _ _ hP hD hS
  · rw [if_pos c9] at h
    refine lv_iload_n hx hb dX10_gather_85 rfl (lv_at hl 4 rfl) ?_
    refine lv_if_eq (tgt := 108) hx hb dX10_gather_86 (by decide) (fun c33 => ?_) (fun c33 => ?_)
    · rw [if_pos c33] at h
      exact g_X10_gather_108 F hA hRt q x1 x2 x3 t0 h _ (lv_sub hl [1, 2, 3, 4, 0] rfl) _ _ hP hD hS
    · rw [if_neg c33] at h
      refine lv_aload_n hx hb dX10_gather_89 rfl (lv_at hl 1 rfl) ?_
      refine r_get F hP i_X10 0 (me_0 E q) rfl 24 (by decide) rfl lf_X10_77 rfl dX10_gather_90 ?_
      refine lv_iload_n hx hb dX10_gather_93 rfl (lv_at hl 2 rfl) ?_
      refine lv_aload_n hx hb dX10_gather_94 rfl (lv_at hl 1 rfl) ?_
      refine r_get F hP i_X10 0 (me_0 E q) rfl 24 (by decide) rfl lf_X10_77 rfl dX10_gather_95 ?_
      refine lv_iload_n hx hb dX10_gather_98 rfl (lv_at hl 2 rfl) ?_
      obtain ⟨y34, e35, h⟩ := Option.bind_eq_some_iff.mp h
      refine r_lald F hP 22 (me_22 E q) e35 dX10_gather_99 ?_
      refine lv_aload_n hx hb dX10_gather_100 rfl (lv_at hl 1 rfl) ?_
      refine r_get F hP i_X10 0 (me_0 E q) rfl 20 (by decide) rfl lf_X10_65 rfl dX10_gather_101 ?_
      refine lv_iload_n hx hb dX10_gather_104 rfl (lv_at hl 3 rfl) ?_
      obtain ⟨y36, e37, h⟩ := Option.bind_eq_some_iff.mp h
      refine r_lald F hP 18 (me_18 E q) e37 dX10_gather_105 ?_
      refine lv_ladd hx hb dX10_gather_106 ?_
      obtain ⟨q38, e39, h⟩ := Option.bind_eq_some_iff.mp h
      refine r_last F hP hD hS 22 (me_22 E q) (ms_22 E q) e39 dX10_gather_107 ?_
      intro H locs hP hD hS
      exact g_X10_gather_108 F hA hRt q38 x1 x2 x3 t0 h _ (lv_sub hl [1, 2, 3, 4, 0] rfl) _ _ hP hD hS
def f_X10_gather_71 (q : QS) (x1 : Int32) (x2 : Int32) (x3 : Int32) : Option (QS) :=
  f_X10_gather_72 q x1 x2 x3 (0 : Int32)
set_option maxHeartbeats 4000000 in
set_option maxRecDepth 100000 in
theorem g_X10_gather_71 {E : En} {p : Program} {l : Launch} {e : Env} {s : State} {m : MethodId} {args : Array Value} {below : List Frame} {meth : Method} {c : Code} {A : Nat → Prop} {Q : State → Prop} (F : Fx E p s m args meth c (yX10_gather).cls cX10_gather 6 none) (hA : ∀ z : Nat, s.heap.size ≤ z → A z) {o : QS} (hRt : RtV (wM E) E p l e rm_X10_gather s m args below meth c A Q cX10_gather o) (q : QS) (x1 : Int32) (x2 : Int32) (x3 : Int32) (h : f_X10_gather_71 q x1 x2 x3 = some o) (ls : Array Slot) (hl : lv_has ls 6 [(0, .ref (eA E 0)), (1, .int x1), (2, .int x2), (3, .int x3)]) : Wq (wM E) E p l e rm_X10_gather s m args below meth c A 0 0 Q q (F0 m 71 ls []) := by
  intro H locs hP hD hS
  have hx := F.1
  have hb := F.2.1
  unfold f_X10_gather_71 at h
  refine lv_iconst (v := 0) hx hb dX10_gather_71 (by decide) ?_
  exact g_X10_gather_72 F hA hRt q x1 x2 x3 (0 : Int32) h _ (lv_sub hl [0, 1, 2, 3] rfl) _ _ hP hD hS
def f_X10_gather_67 (q : QS) (x1 : Int32) (x2 : Int32) (x3 : Int32) : Option (QS) :=
  f_X10_gather_72 q x1 x2 x3 (1 : Int32)
set_option maxHeartbeats 4000000 in
set_option maxRecDepth 100000 in
theorem g_X10_gather_67 {E : En} {p : Program} {l : Launch} {e : Env} {s : State} {m : MethodId} {args : Array Value} {below : List Frame} {meth : Method} {c : Code} {A : Nat → Prop} {Q : State → Prop} (F : Fx E p s m args meth c (yX10_gather).cls cX10_gather 6 none) (hA : ∀ z : Nat, s.heap.size ≤ z → A z) {o : QS} (hRt : RtV (wM E) E p l e rm_X10_gather s m args below meth c A Q cX10_gather o) (q : QS) (x1 : Int32) (x2 : Int32) (x3 : Int32) (h : f_X10_gather_67 q x1 x2 x3 = some o) (ls : Array Slot) (hl : lv_has ls 6 [(0, .ref (eA E 0)), (1, .int x1), (2, .int x2), (3, .int x3)]) : Wq (wM E) E p l e rm_X10_gather s m args below meth c A 0 0 Q q (F0 m 67 ls []) := by
  intro H locs hP hD hS
  have hx := F.1
  have hb := F.2.1
  unfold f_X10_gather_67 at h
  refine lv_iconst (v := 1) hx hb dX10_gather_67 (by decide) ?_
  refine lv_goto (tgt := 72) hx hb dX10_gather_68 (by decide) ?_
  exact g_X10_gather_72 F hA hRt q x1 x2 x3 (1 : Int32) h _ (lv_sub hl [0, 1, 2, 3] rfl) _ _ hP hD hS
def f_X10_gather_31 (q : QS) (x1 : Int32) (x2 : Int32) (t0 : Int32) : Option (QS) :=
  if t0 = 0 then
    f_X10_gather_71 q x1 x2 t0
  else
    (rd (qI q 11) 200 x1).bind fun y40 =>
    if y40 ≤ (7 : Int32) then
      f_X10_gather_71 q x1 x2 t0
    else
      (rd (qL q 21) 200 x1).bind fun y43 =>
      if (lg_cmp y43 (0 : Int64)) = 0 then
        f_X10_gather_67 q x1 x2 t0
      else
        (f_X10_isBetter q x1 x2).bind fun r46 =>
        if r46 = 0 then
          f_X10_gather_71 q x1 x2 t0
        else
          f_X10_gather_67 q x1 x2 t0
set_option maxHeartbeats 4000000 in
set_option maxRecDepth 100000 in
theorem g_X10_gather_31 {E : En} {p : Program} {l : Launch} {e : Env} {s : State} {m : MethodId} {args : Array Value} {below : List Frame} {meth : Method} {c : Code} {A : Nat → Prop} {Q : State → Prop} (F : Fx E p s m args meth c (yX10_gather).cls cX10_gather 6 none) (hA : ∀ z : Nat, s.heap.size ≤ z → A z) {o : QS} (hRt : RtV (wM E) E p l e rm_X10_gather s m args below meth c A Q cX10_gather o) (q : QS) (x1 : Int32) (x2 : Int32) (t0 : Int32) (h : f_X10_gather_31 q x1 x2 t0 = some o) (ls : Array Slot) (hl : lv_has ls 6 [(0, .ref (eA E 0)), (1, .int x1), (2, .int x2)]) : Wq (wM E) E p l e rm_X10_gather s m args below meth c A 0 0 Q q (F0 m 31 ls [.int t0]) := by
  intro H locs hP hD hS
  have hx := F.1
  have hb := F.2.1
  unfold f_X10_gather_31 at h
  refine lv_istore_n (lv' := [(3, .int t0), (0, .ref (eA E 0)), (1, .int x1), (2, .int x2)]) hx hb dX10_gather_31 rfl hl (by decide) rfl (fun ls hl => ?_)
  refine lv_iload_n hx hb dX10_gather_32 rfl (lv_at hl 0 rfl) ?_
  refine lv_if_eq (tgt := 71) hx hb dX10_gather_33 (by decide) (fun c6 => ?_) (fun c6 => ?_)
  · rw [if_pos c6] at h
    exact g_X10_gather_71 F hA hRt q x1 x2 t0 h _ (lv_sub hl [1, 2, 3, 0] rfl) _ _ hP hD hS
  · rw [if_neg c6] at h
    refine lv_aload_n hx hb dX10_gather_36 rfl (lv_at hl 1 rfl) ?_
    refine r_get F hP i_X10 0 (me_0 E q) rfl 13 (by decide) rfl lf_X10_43 rfl dX10_gather_37 ?_
    refine lv_iload_n hx hb dX10_gather_40 rfl (lv_at hl 2 rfl) ?_
    obtain ⟨y40, e41, h⟩ := Option.bind_eq_some_iff.mp h
    refine r_iald F hP 11 (me_11 E q) e41 dX10_gather_41 ?_
    refine lv_bipush (v := 7) hx hb dX10_gather_42 (by decide) ?_
    refine lv_icmp_le (tgt := 71) hx hb dX10_gather_44 (by decide) (fun c42 => ?_) (fun c42 => ?_)
    · rw [if_pos c42] at h
      exact g_X10_gather_71 F hA hRt q x1 x2 t0 h _ (lv_sub hl [1, 2, 3, 0] rfl) _ _ hP hD hS
    · rw [if_neg c42] at h
      refine lv_aload_n hx hb dX10_gather_47 rfl (lv_at hl 1 rfl) ?_
      refine r_get F hP i_X10 0 (me_0 E q) rfl 23 (by decide) rfl lf_X10_74 rfl dX10_gather_48 ?_
      refine lv_iload_n hx hb dX10_gather_51 rfl (lv_at hl 2 rfl) ?_
      obtain ⟨y43, e44, h⟩ := Option.bind_eq_some_iff.mp h
      refine r_lald F hP 21 (me_21 E q) e44 dX10_gather_52 ?_
      refine lv_lconst (v := 0) hx hb dX10_gather_53 (by decide) ?_
      refine W.lcmp hx hb dX10_gather_54 ?_
      refine lv_if_eq (tgt := 67) hx hb dX10_gather_55 (by decide) (fun c45 => ?_) (fun c45 => ?_)
      · rw [if_pos c45] at h
        exact g_X10_gather_67 F hA hRt q x1 x2 t0 h _ (lv_sub hl [1, 2, 3, 0] rfl) _ _ hP hD hS
      · rw [if_neg c45] at h
        refine lv_aload_n hx hb dX10_gather_58 rfl (lv_at hl 1 rfl) ?_
        refine lv_iload_n hx hb dX10_gather_59 rfl (lv_at hl 2 rfl) ?_
        refine lv_iload_n hx hb dX10_gather_60 rfl (lv_at hl 3 rfl) ?_
        obtain ⟨r46, e47, h⟩ := Option.bind_eq_some_iff.mp h
        refine q_callV (As := [.int x1, .int x2]) (rest := []) F hA hP hD hS (c_X10_isBetter (E := E) (l := l) q x1 x2 e47) k_X10_isBetter in_X10_isBetter se_X10_isBetter lm_X10_240 0 (me_0 E q) rfl ⟨rfl, rfl⟩ ⟨by decide, by decide⟩ rfl hl.1 rfl (Nat.le_of_ble_eq_true rfl) dX10_gather_61 ⟨by decide, by decide⟩ ?_
        intro H locs hP hD hS
        refine lv_if_eq (tgt := 71) hx hb dX10_gather_64 (by decide) (fun c48 => ?_) (fun c48 => ?_)
        · rw [if_pos c48] at h
          exact g_X10_gather_71 F hA hRt q x1 x2 t0 h _ (lv_sub hl [1, 2, 3, 0] rfl) _ _ hP hD hS
        · rw [if_neg c48] at h
          exact g_X10_gather_67 F hA hRt q x1 x2 t0 h _ (lv_sub hl [1, 2, 3, 0] rfl) _ _ hP hD hS
def f_X10_gather_26 (q : QS) (x1 : Int32) (x2 : Int32) : Option (QS) :=
  f_X10_gather_31 q x1 x2 (1 : Int32)
set_option maxHeartbeats 4000000 in
set_option maxRecDepth 100000 in
theorem g_X10_gather_26 {E : En} {p : Program} {l : Launch} {e : Env} {s : State} {m : MethodId} {args : Array Value} {below : List Frame} {meth : Method} {c : Code} {A : Nat → Prop} {Q : State → Prop} (F : Fx E p s m args meth c (yX10_gather).cls cX10_gather 6 none) (hA : ∀ z : Nat, s.heap.size ≤ z → A z) {o : QS} (hRt : RtV (wM E) E p l e rm_X10_gather s m args below meth c A Q cX10_gather o) (q : QS) (x1 : Int32) (x2 : Int32) (h : f_X10_gather_26 q x1 x2 = some o) (ls : Array Slot) (hl : lv_has ls 6 [(0, .ref (eA E 0)), (1, .int x1), (2, .int x2)]) : Wq (wM E) E p l e rm_X10_gather s m args below meth c A 0 0 Q q (F0 m 26 ls []) := by
  intro H locs hP hD hS
  have hx := F.1
  have hb := F.2.1
  unfold f_X10_gather_26 at h
  refine lv_iconst (v := 1) hx hb dX10_gather_26 (by decide) ?_
  refine lv_goto (tgt := 31) hx hb dX10_gather_27 (by decide) ?_
  exact g_X10_gather_31 F hA hRt q x1 x2 (1 : Int32) h _ (lv_sub hl [0, 1, 2] rfl) _ _ hP hD hS
def f_X10_gather_0 (q : QS) (x1 : Int32) : Option (QS) :=
  (rd (qI q 12) 200 x1).bind fun y1 =>
  (rd (qI q 11) 200 x1).bind fun y3 =>
  if y3 = (5 : Int32) then
    f_X10_gather_26 q x1 y1
  else
    (rd (qI q 17) 200 y1).bind fun y49 =>
    if y49 = 0 then
      f_X10_gather_26 q x1 y1
    else
      f_X10_gather_31 q x1 y1 (0 : Int32)
set_option maxHeartbeats 4000000 in
set_option maxRecDepth 100000 in
theorem g_X10_gather_0 {E : En} {p : Program} {l : Launch} {e : Env} {s : State} {m : MethodId} {args : Array Value} {below : List Frame} {meth : Method} {c : Code} {A : Nat → Prop} {Q : State → Prop} (F : Fx E p s m args meth c (yX10_gather).cls cX10_gather 6 none) (hA : ∀ z : Nat, s.heap.size ≤ z → A z) {o : QS} (hRt : RtV (wM E) E p l e rm_X10_gather s m args below meth c A Q cX10_gather o) (q : QS) (x1 : Int32) (h : f_X10_gather_0 q x1 = some o) (ls : Array Slot) (hl : lv_has ls 6 [(0, .ref (eA E 0)), (1, .int x1)]) : Wq (wM E) E p l e rm_X10_gather s m args below meth c A 0 0 Q q (F0 m 0 ls []) := by
  intro H locs hP hD hS
  have hx := F.1
  have hb := F.2.1
  unfold f_X10_gather_0 at h
  refine lv_aload_n hx hb dX10_gather_0 rfl (lv_at hl 0 rfl) ?_
  refine r_get F hP i_X10 0 (me_0 E q) rfl 14 (by decide) rfl lf_X10_46 rfl dX10_gather_1 ?_
  refine lv_iload_n hx hb dX10_gather_4 rfl (lv_at hl 1 rfl) ?_
  obtain ⟨y1, e2, h⟩ := Option.bind_eq_some_iff.mp h
  refine r_iald F hP 12 (me_12 E q) e2 dX10_gather_5 ?_
  refine lv_istore_n (lv' := [(2, .int y1), (0, .ref (eA E 0)), (1, .int x1)]) hx hb dX10_gather_6 rfl hl (by decide) rfl (fun ls hl => ?_)
  refine lv_aload_n hx hb dX10_gather_7 rfl (lv_at hl 1 rfl) ?_
  refine r_get F hP i_X10 0 (me_0 E q) rfl 13 (by decide) rfl lf_X10_43 rfl dX10_gather_8 ?_
  refine lv_iload_n hx hb dX10_gather_11 rfl (lv_at hl 2 rfl) ?_
  obtain ⟨y3, e4, h⟩ := Option.bind_eq_some_iff.mp h
  refine r_iald F hP 11 (me_11 E q) e4 dX10_gather_12 ?_
  refine lv_iconst (v := 5) hx hb dX10_gather_13 (by decide) ?_
  refine lv_icmp_eq (tgt := 26) hx hb dX10_gather_14 (by decide) (fun c5 => ?_) (fun c5 => ?_)
  · rw [if_pos c5] at h
    exact g_X10_gather_26 F hA hRt q x1 y1 h _ (lv_sub hl [1, 2, 0] rfl) _ _ hP hD hS
  · rw [if_neg c5] at h
    refine lv_aload_n hx hb dX10_gather_17 rfl (lv_at hl 1 rfl) ?_
    refine r_get F hP i_X10 0 (me_0 E q) rfl 19 (by decide) rfl lf_X10_62 rfl dX10_gather_18 ?_
    refine lv_iload_n hx hb dX10_gather_21 rfl (lv_at hl 0 rfl) ?_
    obtain ⟨y49, e50, h⟩ := Option.bind_eq_some_iff.mp h
    refine r_zald F hP 17 (me_17 E q) e50 dX10_gather_22 ?_
    refine lv_if_ne (tgt := 30) hx hb dX10_gather_23 (by decide) (fun c51 => ?_) (fun c51 => ?_)
    · rw [if_neg c51] at h
      refine lv_iconst (v := 0) hx hb dX10_gather_30 (by decide) ?_
      exact g_X10_gather_31 F hA hRt q x1 y1 (0 : Int32) h _ (lv_sub hl [1, 2, 0] rfl) _ _ hP hD hS
    · rw [if_pos c51] at h
      exact g_X10_gather_26 F hA hRt q x1 y1 h _ (lv_sub hl [1, 2, 0] rfl) _ _ hP hD hS
def f_X10_gather (q : QS) (x1 : Int32) : Option (QS) := f_X10_gather_0 q x1
set_option maxRecDepth 100000 in
theorem c_X10_gather {E : En} {l : Launch} (q : QS) (x1 : Int32) {o : QS} (h : f_X10_gather q x1 = some o) : Ct (wM E) E l yX10_gather (wy yX10_gather cX10_gather 6 none) rm_X10_gather q o [.ref (eA E 0), .int x1] none :=
  ct_V (o := o) (by decide +kernel) (fun p e s m below meth c A Q F hA hRt H locs hP hD hS => en_W [.ref (eA E 0), .int x1] (Nat.le_of_ble_eq_true rfl) (fun ls hl => g_X10_gather_0 F hA hRt q x1 h ls (lv_sub hl [0, 1] rfl) H locs hP hD hS))
def rm_X10_setGathered : Room := { frames := 1, cells := 0, slots := 0, locals := 25 }
def f_X10_setGathered_137 (B89 : QS → Int32 → Int32 → Option (QS)) (q : QS) (x1 : Int32) (x2 : Int32) (t1 : Int32) (t2 : Int64) : Option (QS) :=
  (wL q 20 800 t1 t2).bind fun q20 =>
  B89 q20 x1 (x2 + (1 : Int32))
set_option maxHeartbeats 4000000 in
set_option maxRecDepth 100000 in
theorem g_X10_setGathered_137 {E : En} {p : Program} {l : Launch} {e : Env} {s : State} {m : MethodId} {args : Array Value} {below : List Frame} {meth : Method} {c : Code} {A : Nat → Prop} {Q : State → Prop} (F : Fx E p s m args meth c (yX10_setGathered).cls cX10_setGathered 3 none) (hA : ∀ z : Nat, s.heap.size ≤ z → A z) {o : QS} (hRt : RtV (wM E) E p l e rm_X10_setGathered s m args below meth c A Q cX10_setGathered o) {B89 : QS → Int32 → Int32 → Option (QS)} (hB89 : ∀ (q : QS) (x1 : Int32) (x2 : Int32), B89 q x1 x2 = some o → ∀ ls : Array Slot, lv_has ls 3 [(0, .ref (eA E 0)), (1, .int x1), (2, .int x2)] → Wq (wM E) E p l e rm_X10_setGathered s m args below meth c A 0 0 Q q (F0 m 89 ls [])) (q : QS) (x1 : Int32) (x2 : Int32) (t1 : Int32) (t2 : Int64) (h : f_X10_setGathered_137 B89 q x1 x2 t1 t2 = some o) (ls : Array Slot) (hl : lv_has ls 3 [(0, .ref (eA E 0)), (1, .int x1), (2, .int x2)]) : Wq (wM E) E p l e rm_X10_setGathered s m args below meth c A 0 0 Q q (F0 m 137 ls [.long t2, .int t1, .ref (eA E 20)]) := by
  intro H locs hP hD hS
  have hx := F.1
  have hb := F.2.1
  unfold f_X10_setGathered_137 at h
  obtain ⟨q20, e21, h⟩ := Option.bind_eq_some_iff.mp h
  refine r_last F hP hD hS 20 (me_20 E q) (ms_20 E q) e21 dX10_setGathered_137 ?_
  intro H locs hP hD hS
  refine lv_iinc (v := (x2 + (1 : Int32))) (lv' := [(2, .int (x2 + (1 : Int32))), (0, .ref (eA E 0)), (1, .int x1)]) hx hb dX10_setGathered_138 hl (k := 2) rfl rfl (by decide) rfl (fun ls hl => ?_)
  refine lv_goto (tgt := 89) hx hb dX10_setGathered_141 (by decide) ?_
  exact hB89 q20 x1 (x2 + (1 : Int32)) h _ (lv_sub hl [1, 2, 0] rfl) _ _ hP hD hS
def f_X10_setGathered_123 (B89 : QS → Int32 → Int32 → Option (QS)) (q : QS) (x1 : Int32) (x2 : Int32) (t1 : Int32) : Option (QS) :=
  f_X10_setGathered_137 B89 q x1 x2 t1 (0 : Int64)
set_option maxHeartbeats 4000000 in
set_option maxRecDepth 100000 in
theorem g_X10_setGathered_123 {E : En} {p : Program} {l : Launch} {e : Env} {s : State} {m : MethodId} {args : Array Value} {below : List Frame} {meth : Method} {c : Code} {A : Nat → Prop} {Q : State → Prop} (F : Fx E p s m args meth c (yX10_setGathered).cls cX10_setGathered 3 none) (hA : ∀ z : Nat, s.heap.size ≤ z → A z) {o : QS} (hRt : RtV (wM E) E p l e rm_X10_setGathered s m args below meth c A Q cX10_setGathered o) {B89 : QS → Int32 → Int32 → Option (QS)} (hB89 : ∀ (q : QS) (x1 : Int32) (x2 : Int32), B89 q x1 x2 = some o → ∀ ls : Array Slot, lv_has ls 3 [(0, .ref (eA E 0)), (1, .int x1), (2, .int x2)] → Wq (wM E) E p l e rm_X10_setGathered s m args below meth c A 0 0 Q q (F0 m 89 ls [])) (q : QS) (x1 : Int32) (x2 : Int32) (t1 : Int32) (h : f_X10_setGathered_123 B89 q x1 x2 t1 = some o) (ls : Array Slot) (hl : lv_has ls 3 [(0, .ref (eA E 0)), (1, .int x1), (2, .int x2)]) : Wq (wM E) E p l e rm_X10_setGathered s m args below meth c A 0 0 Q q (F0 m 123 ls [.int t1, .ref (eA E 20)]) := by
  intro H locs hP hD hS
  have hx := F.1
  have hb := F.2.1
  unfold f_X10_setGathered_123 at h
  refine lv_lconst (v := 0) hx hb dX10_setGathered_123 (by decide) ?_
  refine lv_goto (tgt := 137) hx hb dX10_setGathered_124 (by decide) ?_
  exact g_X10_setGathered_137 F hA hRt hB89 q x1 x2 t1 (0 : Int64) h _ (lv_sub hl [0, 1, 2] rfl) _ _ hP hD hS
def f_X10_setGathered_89_b (B89 : QS → Int32 → Int32 → Option (QS)) (q : QS) (x1 : Int32) (x2 : Int32) : Option (QS) :=
  if (4 : Int32) ≤ x2 then
    some q
  else
    (rd (qI q 17) 200 x1).bind fun y17 =>
    if y17 = 0 then
      (rd (qI q 11) 200 x1).bind fun y22 =>
      if y22 = (7 : Int32) then
        f_X10_setGathered_123 B89 q x1 x2 (((4 : Int32) * x1) + x2)
      else
        (rd (qL q 24) 800 (((4 : Int32) * x1) + x2)).bind fun y25 =>
        f_X10_setGathered_137 B89 q x1 x2 (((4 : Int32) * x1) + x2) y25
    else
      f_X10_setGathered_123 B89 q x1 x2 (((4 : Int32) * x1) + x2)
set_option maxHeartbeats 4000000 in
set_option maxRecDepth 100000 in
theorem g_X10_setGathered_89_b {E : En} {p : Program} {l : Launch} {e : Env} {s : State} {m : MethodId} {args : Array Value} {below : List Frame} {meth : Method} {c : Code} {A : Nat → Prop} {Q : State → Prop} (F : Fx E p s m args meth c (yX10_setGathered).cls cX10_setGathered 3 none) (hA : ∀ z : Nat, s.heap.size ≤ z → A z) {o : QS} (hRt : RtV (wM E) E p l e rm_X10_setGathered s m args below meth c A Q cX10_setGathered o) {B89 : QS → Int32 → Int32 → Option (QS)} (hB89 : ∀ (q : QS) (x1 : Int32) (x2 : Int32), B89 q x1 x2 = some o → ∀ ls : Array Slot, lv_has ls 3 [(0, .ref (eA E 0)), (1, .int x1), (2, .int x2)] → Wq (wM E) E p l e rm_X10_setGathered s m args below meth c A 0 0 Q q (F0 m 89 ls [])) (q : QS) (x1 : Int32) (x2 : Int32) (h : f_X10_setGathered_89_b B89 q x1 x2 = some o) (ls : Array Slot) (hl : lv_has ls 3 [(0, .ref (eA E 0)), (1, .int x1), (2, .int x2)]) : Wq (wM E) E p l e rm_X10_setGathered s m args below meth c A 0 0 Q q (F0 m 89 ls []) := by
  intro H locs hP hD hS
  have hx := F.1
  have hb := F.2.1
  unfold f_X10_setGathered_89_b at h
  refine lv_iload_n hx hb dX10_setGathered_89 rfl (lv_at hl 2 rfl) ?_
  refine lv_iconst (v := 4) hx hb dX10_setGathered_90 (by decide) ?_
  refine lv_icmp_ge (tgt := 144) hx hb dX10_setGathered_91 (by decide) (fun c16 => ?_) (fun c16 => ?_)
  · rw [if_pos c16] at h
    cases h
    exact hRt _ _ dX10_setGathered_144 _ _ hP hD hS
  · rw [if_neg c16] at h
    refine lv_aload_n hx hb dX10_setGathered_94 rfl (lv_at hl 0 rfl) ?_
    refine r_get F hP i_X10 0 (me_0 E q) rfl 22 (by decide) rfl lf_X10_71 rfl dX10_setGathered_95 ?_
    refine lv_iconst (v := 4) hx hb dX10_setGathered_98 (by decide) ?_
    refine lv_iload_n hx hb dX10_setGathered_99 rfl (lv_at hl 1 rfl) ?_
    refine lv_imul hx hb dX10_setGathered_100 ?_
    refine lv_iload_n hx hb dX10_setGathered_101 rfl (lv_at hl 2 rfl) ?_
    refine lv_iadd hx hb dX10_setGathered_102 ?_
    refine lv_aload_n hx hb dX10_setGathered_103 rfl (lv_at hl 0 rfl) ?_
    refine r_get F hP i_X10 0 (me_0 E q) rfl 19 (by decide) rfl lf_X10_62 rfl dX10_setGathered_104 ?_
    refine lv_iload_n hx hb dX10_setGathered_107 rfl (lv_at hl 1 rfl) ?_
    obtain ⟨y17, e18, h⟩ := Option.bind_eq_some_iff.mp h
    refine r_zald F hP 17 (me_17 E q) e18 dX10_setGathered_108 ?_
    refine lv_if_ne (tgt := 123) hx hb dX10_setGathered_109 (by decide) (fun c19 => ?_) (fun c19 => ?_)
    · rw [if_neg c19] at h
      exact g_X10_setGathered_123 F hA hRt hB89 q x1 x2 (((4 : Int32) * x1) + x2) h _ (lv_sub hl [0, 1, 2] rfl) _ _ hP hD hS
    · rw [if_pos c19] at h
      refine lv_aload_n hx hb dX10_setGathered_112 rfl (lv_at hl 0 rfl) ?_
      refine r_get F hP i_X10 0 (me_0 E q) rfl 13 (by decide) rfl lf_X10_43 rfl dX10_setGathered_113 ?_
      refine lv_iload_n hx hb dX10_setGathered_116 rfl (lv_at hl 1 rfl) ?_
      obtain ⟨y22, e23, h⟩ := Option.bind_eq_some_iff.mp h
      refine r_iald F hP 11 (me_11 E q) e23 dX10_setGathered_117 ?_
      refine lv_bipush (v := 7) hx hb dX10_setGathered_118 (by decide) ?_
      refine lv_icmp_ne (tgt := 127) hx hb dX10_setGathered_120 (by decide) (fun c24 => ?_) (fun c24 => ?_)
      · rw [if_neg c24] at h
        refine lv_aload_n hx hb dX10_setGathered_127 rfl (lv_at hl 0 rfl) ?_
        refine r_get F hP i_X10 0 (me_0 E q) rfl 26 (by decide) rfl lf_X10_83 rfl dX10_setGathered_128 ?_
        refine lv_iconst (v := 4) hx hb dX10_setGathered_131 (by decide) ?_
        refine lv_iload_n hx hb dX10_setGathered_132 rfl (lv_at hl 1 rfl) ?_
        refine lv_imul hx hb dX10_setGathered_133 ?_
        refine lv_iload_n hx hb dX10_setGathered_134 rfl (lv_at hl 2 rfl) ?_
        refine lv_iadd hx hb dX10_setGathered_135 ?_
        obtain ⟨y25, e26, h⟩ := Option.bind_eq_some_iff.mp h
        refine r_lald F hP 24 (me_24 E q) e26 dX10_setGathered_136 ?_
        exact g_X10_setGathered_137 F hA hRt hB89 q x1 x2 (((4 : Int32) * x1) + x2) y25 h _ (lv_sub hl [0, 1, 2] rfl) _ _ hP hD hS
      · rw [if_pos c24] at h
        exact g_X10_setGathered_123 F hA hRt hB89 q x1 x2 (((4 : Int32) * x1) + x2) h _ (lv_sub hl [0, 1, 2] rfl) _ _ hP hD hS
def f_X10_setGathered_89 : Nat → QS → Int32 → Int32 → Option (QS)
  | 0 => fun _ _ _ => none
  | n + 1 => f_X10_setGathered_89_b (f_X10_setGathered_89 n)
theorem g_X10_setGathered_89 {E : En} {p : Program} {l : Launch} {e : Env} {s : State} {m : MethodId} {args : Array Value} {below : List Frame} {meth : Method} {c : Code} {A : Nat → Prop} {Q : State → Prop} (F : Fx E p s m args meth c (yX10_setGathered).cls cX10_setGathered 3 none) (hA : ∀ z : Nat, s.heap.size ≤ z → A z) {o : QS} (hRt : RtV (wM E) E p l e rm_X10_setGathered s m args below meth c A Q cX10_setGathered o) (n : Nat) : ∀ (q : QS) (x1 : Int32) (x2 : Int32), f_X10_setGathered_89 n q x1 x2 = some o → ∀ ls : Array Slot, lv_has ls 3 [(0, .ref (eA E 0)), (1, .int x1), (2, .int x2)] → Wq (wM E) E p l e rm_X10_setGathered s m args below meth c A 0 0 Q q (F0 m 89 ls []) := by
  induction n with
  | zero => intro q x1 x2 h; cases h
  | succ n ih => intro q x1 x2 h; exact g_X10_setGathered_89_b F hA hRt ih q x1 x2 h
def f_X10_setGathered_86 (q : QS) (x1 : Int32) (t1 : Int32) (t2 : Int32) : Option (QS) :=
  (wI q 19 200 t1 t2).bind fun q14 =>
  f_X10_setGathered_89 FU q14 x1 (0 : Int32)
set_option maxHeartbeats 4000000 in
set_option maxRecDepth 100000 in
theorem g_X10_setGathered_86 {E : En} {p : Program} {l : Launch} {e : Env} {s : State} {m : MethodId} {args : Array Value} {below : List Frame} {meth : Method} {c : Code} {A : Nat → Prop} {Q : State → Prop} (F : Fx E p s m args meth c (yX10_setGathered).cls cX10_setGathered 3 none) (hA : ∀ z : Nat, s.heap.size ≤ z → A z) {o : QS} (hRt : RtV (wM E) E p l e rm_X10_setGathered s m args below meth c A Q cX10_setGathered o) (q : QS) (x1 : Int32) (t1 : Int32) (t2 : Int32) (h : f_X10_setGathered_86 q x1 t1 t2 = some o) (ls : Array Slot) (hl : lv_has ls 3 [(0, .ref (eA E 0)), (1, .int x1)]) : Wq (wM E) E p l e rm_X10_setGathered s m args below meth c A 0 0 Q q (F0 m 86 ls [.int t2, .int t1, .ref (eA E 19)]) := by
  intro H locs hP hD hS
  have hx := F.1
  have hb := F.2.1
  unfold f_X10_setGathered_86 at h
  obtain ⟨q14, e15, h⟩ := Option.bind_eq_some_iff.mp h
  refine r_iast F hP hD hS 19 (me_19 E q) (ms_19 E q) e15 dX10_setGathered_86 ?_
  intro H locs hP hD hS
  refine lv_iconst (v := 0) hx hb dX10_setGathered_87 (by decide) ?_
  refine lv_istore_n (lv' := [(2, .int (0 : Int32)), (0, .ref (eA E 0)), (1, .int x1)]) hx hb dX10_setGathered_88 rfl hl (by decide) rfl (fun ls hl => ?_)
  exact g_X10_setGathered_89 F hA hRt FU q14 x1 (0 : Int32) h _ (lv_sub hl [1, 2, 0] rfl) _ _ hP hD hS
def f_X10_setGathered_76 (q : QS) (x1 : Int32) (t1 : Int32) : Option (QS) :=
  f_X10_setGathered_86 q x1 t1 (0 : Int32)
set_option maxHeartbeats 4000000 in
set_option maxRecDepth 100000 in
theorem g_X10_setGathered_76 {E : En} {p : Program} {l : Launch} {e : Env} {s : State} {m : MethodId} {args : Array Value} {below : List Frame} {meth : Method} {c : Code} {A : Nat → Prop} {Q : State → Prop} (F : Fx E p s m args meth c (yX10_setGathered).cls cX10_setGathered 3 none) (hA : ∀ z : Nat, s.heap.size ≤ z → A z) {o : QS} (hRt : RtV (wM E) E p l e rm_X10_setGathered s m args below meth c A Q cX10_setGathered o) (q : QS) (x1 : Int32) (t1 : Int32) (h : f_X10_setGathered_76 q x1 t1 = some o) (ls : Array Slot) (hl : lv_has ls 3 [(0, .ref (eA E 0)), (1, .int x1)]) : Wq (wM E) E p l e rm_X10_setGathered s m args below meth c A 0 0 Q q (F0 m 76 ls [.int t1, .ref (eA E 19)]) := by
  intro H locs hP hD hS
  have hx := F.1
  have hb := F.2.1
  unfold f_X10_setGathered_76 at h
  refine lv_iconst (v := 0) hx hb dX10_setGathered_76 (by decide) ?_
  refine lv_goto (tgt := 86) hx hb dX10_setGathered_77 (by decide) ?_
  exact g_X10_setGathered_86 F hA hRt q x1 t1 (0 : Int32) h _ (lv_sub hl [0, 1] rfl) _ _ hP hD hS
def f_X10_setGathered_42 (q : QS) (x1 : Int32) (t1 : Int32) (t2 : Int32) : Option (QS) :=
  (rd (qL q 22) 200 x1).bind fun y7 =>
  (f_X10_setNumber q t1 t2 y7).bind fun r9 =>
  (rd (qI r9 17) 200 x1).bind fun y11 =>
  if y11 = 0 then
    (rd (qI r9 11) 200 x1).bind fun y27 =>
    if y27 = (7 : Int32) then
      f_X10_setGathered_76 r9 x1 x1
    else
      (rd (qI r9 23) 200 x1).bind fun y30 =>
      f_X10_setGathered_86 r9 x1 x1 y30
  else
    f_X10_setGathered_76 r9 x1 x1
set_option maxHeartbeats 4000000 in
set_option maxRecDepth 100000 in
theorem g_X10_setGathered_42 {E : En} {p : Program} {l : Launch} {e : Env} {s : State} {m : MethodId} {args : Array Value} {below : List Frame} {meth : Method} {c : Code} {A : Nat → Prop} {Q : State → Prop} (F : Fx E p s m args meth c (yX10_setGathered).cls cX10_setGathered 3 none) (hA : ∀ z : Nat, s.heap.size ≤ z → A z) {o : QS} (hRt : RtV (wM E) E p l e rm_X10_setGathered s m args below meth c A Q cX10_setGathered o) (q : QS) (x1 : Int32) (t1 : Int32) (t2 : Int32) (h : f_X10_setGathered_42 q x1 t1 t2 = some o) (ls : Array Slot) (hl : lv_has ls 3 [(0, .ref (eA E 0)), (1, .int x1)]) : Wq (wM E) E p l e rm_X10_setGathered s m args below meth c A 0 0 Q q (F0 m 42 ls [.int t2, .int t1, .ref (eA E 0)]) := by
  intro H locs hP hD hS
  have hx := F.1
  have hb := F.2.1
  unfold f_X10_setGathered_42 at h
  refine lv_aload_n hx hb dX10_setGathered_42 rfl (lv_at hl 0 rfl) ?_
  refine r_get F hP i_X10 0 (me_0 E q) rfl 24 (by decide) rfl lf_X10_77 rfl dX10_setGathered_43 ?_
  refine lv_iload_n hx hb dX10_setGathered_46 rfl (lv_at hl 1 rfl) ?_
  obtain ⟨y7, e8, h⟩ := Option.bind_eq_some_iff.mp h
  refine r_lald F hP 22 (me_22 E q) e8 dX10_setGathered_47 ?_
  obtain ⟨r9, e10, h⟩ := Option.bind_eq_some_iff.mp h
  refine q_callV (As := [.int t1, .int t2, .long y7]) (rest := []) F hA hP hD hS (c_X10_setNumber (E := E) (l := l) q t1 t2 y7 e10) k_X10_setNumber in_X10_setNumber se_X10_setNumber lm_X10_212 0 (me_0 E q) rfl ⟨rfl, rfl⟩ ⟨by decide, by decide⟩ rfl hl.1 rfl (Nat.le_of_ble_eq_true rfl) dX10_setGathered_48 ⟨by decide, by decide⟩ ?_
  intro H locs hP hD hS
  refine lv_aload_n hx hb dX10_setGathered_51 rfl (lv_at hl 0 rfl) ?_
  refine r_get F hP i_X10 0 (me_0 E r9) rfl 21 (by decide) rfl lf_X10_68 rfl dX10_setGathered_52 ?_
  refine lv_iload_n hx hb dX10_setGathered_55 rfl (lv_at hl 1 rfl) ?_
  refine lv_aload_n hx hb dX10_setGathered_56 rfl (lv_at hl 0 rfl) ?_
  refine r_get F hP i_X10 0 (me_0 E r9) rfl 19 (by decide) rfl lf_X10_62 rfl dX10_setGathered_57 ?_
  refine lv_iload_n hx hb dX10_setGathered_60 rfl (lv_at hl 1 rfl) ?_
  obtain ⟨y11, e12, h⟩ := Option.bind_eq_some_iff.mp h
  refine r_zald F hP 17 (me_17 E r9) e12 dX10_setGathered_61 ?_
  refine lv_if_ne (tgt := 76) hx hb dX10_setGathered_62 (by decide) (fun c13 => ?_) (fun c13 => ?_)
  · rw [if_neg c13] at h
    exact g_X10_setGathered_76 F hA hRt r9 x1 x1 h _ (lv_sub hl [0, 1] rfl) _ _ hP hD hS
  · rw [if_pos c13] at h
    refine lv_aload_n hx hb dX10_setGathered_65 rfl (lv_at hl 0 rfl) ?_
    refine r_get F hP i_X10 0 (me_0 E r9) rfl 13 (by decide) rfl lf_X10_43 rfl dX10_setGathered_66 ?_
    refine lv_iload_n hx hb dX10_setGathered_69 rfl (lv_at hl 1 rfl) ?_
    obtain ⟨y27, e28, h⟩ := Option.bind_eq_some_iff.mp h
    refine r_iald F hP 11 (me_11 E r9) e28 dX10_setGathered_70 ?_
    refine lv_bipush (v := 7) hx hb dX10_setGathered_71 (by decide) ?_
    refine lv_icmp_ne (tgt := 80) hx hb dX10_setGathered_73 (by decide) (fun c29 => ?_) (fun c29 => ?_)
    · rw [if_neg c29] at h
      refine lv_aload_n hx hb dX10_setGathered_80 rfl (lv_at hl 0 rfl) ?_
      refine r_get F hP i_X10 0 (me_0 E r9) rfl 25 (by decide) rfl lf_X10_80 rfl dX10_setGathered_81 ?_
      refine lv_iload_n hx hb dX10_setGathered_84 rfl (lv_at hl 1 rfl) ?_
      obtain ⟨y30, e31, h⟩ := Option.bind_eq_some_iff.mp h
      refine r_iald F hP 23 (me_23 E r9) e31 dX10_setGathered_85 ?_
      exact g_X10_setGathered_86 F hA hRt r9 x1 x1 y30 h _ (lv_sub hl [0, 1] rfl) _ _ hP hD hS
    · rw [if_pos c29] at h
      exact g_X10_setGathered_76 F hA hRt r9 x1 x1 h _ (lv_sub hl [0, 1] rfl) _ _ hP hD hS
def f_X10_setGathered_0 (q : QS) (x1 : Int32) : Option (QS) :=
  (rd (qI q 11) 200 x1).bind fun y1 =>
  if (7 : Int32) ≤ y1 then
    (rd (qL q 21) 200 x1).bind fun y4 =>
    if (lg_cmp y4 (0 : Int64)) = 0 then
      f_X10_setGathered_42 q x1 x1 (1 : Int32)
    else
      f_X10_setGathered_42 q x1 x1 (0 : Int32)
  else
    (rd (qL q 21) 200 x1).bind fun y32 =>
    (f_X10_setNumber q x1 (0 : Int32) y32).bind fun r34 =>
    some r34
set_option maxHeartbeats 4000000 in
set_option maxRecDepth 100000 in
theorem g_X10_setGathered_0 {E : En} {p : Program} {l : Launch} {e : Env} {s : State} {m : MethodId} {args : Array Value} {below : List Frame} {meth : Method} {c : Code} {A : Nat → Prop} {Q : State → Prop} (F : Fx E p s m args meth c (yX10_setGathered).cls cX10_setGathered 3 none) (hA : ∀ z : Nat, s.heap.size ≤ z → A z) {o : QS} (hRt : RtV (wM E) E p l e rm_X10_setGathered s m args below meth c A Q cX10_setGathered o) (q : QS) (x1 : Int32) (h : f_X10_setGathered_0 q x1 = some o) (ls : Array Slot) (hl : lv_has ls 3 [(0, .ref (eA E 0)), (1, .int x1)]) : Wq (wM E) E p l e rm_X10_setGathered s m args below meth c A 0 0 Q q (F0 m 0 ls []) := by
  intro H locs hP hD hS
  have hx := F.1
  have hb := F.2.1
  unfold f_X10_setGathered_0 at h
  refine lv_aload_n hx hb dX10_setGathered_0 rfl (lv_at hl 0 rfl) ?_
  refine r_get F hP i_X10 0 (me_0 E q) rfl 13 (by decide) rfl lf_X10_43 rfl dX10_setGathered_1 ?_
  refine lv_iload_n hx hb dX10_setGathered_4 rfl (lv_at hl 1 rfl) ?_
  obtain ⟨y1, e2, h⟩ := Option.bind_eq_some_iff.mp h
  refine r_iald F hP 11 (me_11 E q) e2 dX10_setGathered_5 ?_
  refine lv_bipush (v := 7) hx hb dX10_setGathered_6 (by decide) ?_
  refine lv_icmp_ge (tgt := 24) hx hb dX10_setGathered_8 (by decide) (fun c3 => ?_) (fun c3 => ?_)
  · rw [if_pos c3] at h
    refine lv_aload_n hx hb dX10_setGathered_24 rfl (lv_at hl 0 rfl) ?_
    refine lv_iload_n hx hb dX10_setGathered_25 rfl (lv_at hl 1 rfl) ?_
    refine lv_aload_n hx hb dX10_setGathered_26 rfl (lv_at hl 0 rfl) ?_
    refine r_get F hP i_X10 0 (me_0 E q) rfl 23 (by decide) rfl lf_X10_74 rfl dX10_setGathered_27 ?_
    refine lv_iload_n hx hb dX10_setGathered_30 rfl (lv_at hl 1 rfl) ?_
    obtain ⟨y4, e5, h⟩ := Option.bind_eq_some_iff.mp h
    refine r_lald F hP 21 (me_21 E q) e5 dX10_setGathered_31 ?_
    refine lv_lconst (v := 0) hx hb dX10_setGathered_32 (by decide) ?_
    refine W.lcmp hx hb dX10_setGathered_33 ?_
    refine lv_if_ne (tgt := 41) hx hb dX10_setGathered_34 (by decide) (fun c6 => ?_) (fun c6 => ?_)
    · rw [if_neg c6] at h
      refine lv_iconst (v := 0) hx hb dX10_setGathered_41 (by decide) ?_
      exact g_X10_setGathered_42 F hA hRt q x1 x1 (0 : Int32) h _ (lv_sub hl [0, 1] rfl) _ _ hP hD hS
    · rw [if_pos c6] at h
      refine lv_iconst (v := 1) hx hb dX10_setGathered_37 (by decide) ?_
      refine lv_goto (tgt := 42) hx hb dX10_setGathered_38 (by decide) ?_
      exact g_X10_setGathered_42 F hA hRt q x1 x1 (1 : Int32) h _ (lv_sub hl [0, 1] rfl) _ _ hP hD hS
  · rw [if_neg c3] at h
    refine lv_aload_n hx hb dX10_setGathered_11 rfl (lv_at hl 0 rfl) ?_
    refine lv_iload_n hx hb dX10_setGathered_12 rfl (lv_at hl 1 rfl) ?_
    refine lv_iconst (v := 0) hx hb dX10_setGathered_13 (by decide) ?_
    refine lv_aload_n hx hb dX10_setGathered_14 rfl (lv_at hl 0 rfl) ?_
    refine r_get F hP i_X10 0 (me_0 E q) rfl 23 (by decide) rfl lf_X10_74 rfl dX10_setGathered_15 ?_
    refine lv_iload_n hx hb dX10_setGathered_18 rfl (lv_at hl 1 rfl) ?_
    obtain ⟨y32, e33, h⟩ := Option.bind_eq_some_iff.mp h
    refine r_lald F hP 21 (me_21 E q) e33 dX10_setGathered_19 ?_
    obtain ⟨r34, e35, h⟩ := Option.bind_eq_some_iff.mp h
    refine q_callV (As := [.int x1, .int (0 : Int32), .long y32]) (rest := []) F hA hP hD hS (c_X10_setNumber (E := E) (l := l) q x1 (0 : Int32) y32 e35) k_X10_setNumber in_X10_setNumber se_X10_setNumber lm_X10_212 0 (me_0 E q) rfl ⟨rfl, rfl⟩ ⟨by decide, by decide⟩ rfl hl.1 rfl (Nat.le_of_ble_eq_true rfl) dX10_setGathered_20 ⟨by decide, by decide⟩ ?_
    intro H locs hP hD hS
    cases h
    exact hRt _ _ dX10_setGathered_23 _ _ hP hD hS
def f_X10_setGathered (q : QS) (x1 : Int32) : Option (QS) := f_X10_setGathered_0 q x1
set_option maxRecDepth 100000 in
theorem c_X10_setGathered {E : En} {l : Launch} (q : QS) (x1 : Int32) {o : QS} (h : f_X10_setGathered q x1 = some o) : Ct (wM E) E l yX10_setGathered (wy yX10_setGathered cX10_setGathered 3 none) rm_X10_setGathered q o [.ref (eA E 0), .int x1] none :=
  ct_V (o := o) (by decide +kernel) (fun p e s m below meth c A Q F hA hRt H locs hP hD hS => en_W [.ref (eA E 0), .int x1] (Nat.le_of_ble_eq_true rfl) (fun ls hl => g_X10_setGathered_0 F hA hRt q x1 h ls (lv_sub hl [0, 1] rfl) H locs hP hD hS))
def rm_X10_evaluate : Room := { frames := 3, cells := 0, slots := 0, locals := 78 }
def f_X10_evaluate_7_b (K32 : QS → Int32 → Int32 → Option (QS)) (B7 : QS → Int32 → Int32 → Int32 → Option (QS)) (q : QS) (x1 : Int32) (x2 : Int32) (x3 : Int32) : Option (QS) :=
  if x1 < x3 then
    K32 q x1 x2
  else
    (wL q 21 200 x3 (0 : Int64)).bind fun q4 =>
    (wL q4 22 200 x3 (0 : Int64)).bind fun q6 =>
    B7 q6 x1 x2 (x3 + (1 : Int32))
set_option maxHeartbeats 4000000 in
set_option maxRecDepth 100000 in
theorem g_X10_evaluate_7_b {E : En} {p : Program} {l : Launch} {e : Env} {s : State} {m : MethodId} {args : Array Value} {below : List Frame} {meth : Method} {c : Code} {A : Nat → Prop} {Q : State → Prop} (F : Fx E p s m args meth c (yX10_evaluate).cls cX10_evaluate 5 none) (hA : ∀ z : Nat, s.heap.size ≤ z → A z) {o : QS} (hRt : RtV (wM E) E p l e rm_X10_evaluate s m args below meth c A Q cX10_evaluate o) {K32 : QS → Int32 → Int32 → Option (QS)} {B7 : QS → Int32 → Int32 → Int32 → Option (QS)} (hK32 : ∀ (q : QS) (x1 : Int32) (x2 : Int32), K32 q x1 x2 = some o → ∀ ls : Array Slot, lv_has ls 5 [(0, .ref (eA E 0)), (1, .int x1), (2, .int x2)] → Wq (wM E) E p l e rm_X10_evaluate s m args below meth c A 0 0 Q q (F0 m 32 ls [])) (hB7 : ∀ (q : QS) (x1 : Int32) (x2 : Int32) (x3 : Int32), B7 q x1 x2 x3 = some o → ∀ ls : Array Slot, lv_has ls 5 [(0, .ref (eA E 0)), (1, .int x1), (2, .int x2), (3, .int x3)] → Wq (wM E) E p l e rm_X10_evaluate s m args below meth c A 0 0 Q q (F0 m 7 ls [])) (q : QS) (x1 : Int32) (x2 : Int32) (x3 : Int32) (h : f_X10_evaluate_7_b K32 B7 q x1 x2 x3 = some o) (ls : Array Slot) (hl : lv_has ls 5 [(0, .ref (eA E 0)), (1, .int x1), (2, .int x2), (3, .int x3)]) : Wq (wM E) E p l e rm_X10_evaluate s m args below meth c A 0 0 Q q (F0 m 7 ls []) := by
  intro H locs hP hD hS
  have hx := F.1
  have hb := F.2.1
  unfold f_X10_evaluate_7_b at h
  refine lv_iload_n hx hb dX10_evaluate_7 rfl (lv_at hl 3 rfl) ?_
  refine lv_iload_n hx hb dX10_evaluate_8 rfl (lv_at hl 1 rfl) ?_
  refine lv_icmp_gt (tgt := 32) hx hb dX10_evaluate_9 (by decide) (fun c3 => ?_) (fun c3 => ?_)
  · rw [if_pos c3] at h
    exact hK32 q x1 x2 h _ (lv_sub hl [0, 1, 2] rfl) _ _ hP hD hS
  · rw [if_neg c3] at h
    refine lv_aload_n hx hb dX10_evaluate_12 rfl (lv_at hl 0 rfl) ?_
    refine r_get F hP i_X10 0 (me_0 E q) rfl 23 (by decide) rfl lf_X10_74 rfl dX10_evaluate_13 ?_
    refine lv_iload_n hx hb dX10_evaluate_16 rfl (lv_at hl 3 rfl) ?_
    refine lv_lconst (v := 0) hx hb dX10_evaluate_17 (by decide) ?_
    obtain ⟨q4, e5, h⟩ := Option.bind_eq_some_iff.mp h
    refine r_last F hP hD hS 21 (me_21 E q) (ms_21 E q) e5 dX10_evaluate_18 ?_
    intro H locs hP hD hS
    refine lv_aload_n hx hb dX10_evaluate_19 rfl (lv_at hl 0 rfl) ?_
    refine r_get F hP i_X10 0 (me_0 E q4) rfl 24 (by decide) rfl lf_X10_77 rfl dX10_evaluate_20 ?_
    refine lv_iload_n hx hb dX10_evaluate_23 rfl (lv_at hl 3 rfl) ?_
    refine lv_lconst (v := 0) hx hb dX10_evaluate_24 (by decide) ?_
    obtain ⟨q6, e7, h⟩ := Option.bind_eq_some_iff.mp h
    refine r_last F hP hD hS 22 (me_22 E q4) (ms_22 E q4) e7 dX10_evaluate_25 ?_
    intro H locs hP hD hS
    refine lv_iinc (v := (x3 + (1 : Int32))) (lv' := [(3, .int (x3 + (1 : Int32))), (0, .ref (eA E 0)), (1, .int x1), (2, .int x2)]) hx hb dX10_evaluate_26 hl (k := 3) rfl rfl (by decide) rfl (fun ls hl => ?_)
    refine lv_goto (tgt := 7) hx hb dX10_evaluate_29 (by decide) ?_
    exact hB7 q6 x1 x2 (x3 + (1 : Int32)) h _ (lv_sub hl [1, 2, 3, 0] rfl) _ _ hP hD hS
def f_X10_evaluate_7 (K32 : QS → Int32 → Int32 → Option (QS)) : Nat → QS → Int32 → Int32 → Int32 → Option (QS)
  | 0 => fun _ _ _ _ => none
  | n + 1 => f_X10_evaluate_7_b K32 (f_X10_evaluate_7 K32 n)
theorem g_X10_evaluate_7 {E : En} {p : Program} {l : Launch} {e : Env} {s : State} {m : MethodId} {args : Array Value} {below : List Frame} {meth : Method} {c : Code} {A : Nat → Prop} {Q : State → Prop} (F : Fx E p s m args meth c (yX10_evaluate).cls cX10_evaluate 5 none) (hA : ∀ z : Nat, s.heap.size ≤ z → A z) {o : QS} (hRt : RtV (wM E) E p l e rm_X10_evaluate s m args below meth c A Q cX10_evaluate o) {K32 : QS → Int32 → Int32 → Option (QS)} (hK32 : ∀ (q : QS) (x1 : Int32) (x2 : Int32), K32 q x1 x2 = some o → ∀ ls : Array Slot, lv_has ls 5 [(0, .ref (eA E 0)), (1, .int x1), (2, .int x2)] → Wq (wM E) E p l e rm_X10_evaluate s m args below meth c A 0 0 Q q (F0 m 32 ls [])) (n : Nat) : ∀ (q : QS) (x1 : Int32) (x2 : Int32) (x3 : Int32), f_X10_evaluate_7 K32 n q x1 x2 x3 = some o → ∀ ls : Array Slot, lv_has ls 5 [(0, .ref (eA E 0)), (1, .int x1), (2, .int x2), (3, .int x3)] → Wq (wM E) E p l e rm_X10_evaluate s m args below meth c A 0 0 Q q (F0 m 7 ls []) := by
  induction n with
  | zero => intro q x1 x2 x3 h; cases h
  | succ n ih => intro q x1 x2 x3 h; exact g_X10_evaluate_7_b F hA hRt hK32 ih q x1 x2 x3 h
def f_X10_evaluate_112 (B50 : QS → Int32 → Int32 → Int32 → Int32 → Option (QS)) (q : QS) (x1 : Int32) (x2 : Int32) (x3 : Int32) (x4 : Int32) : Option (QS) :=
  B50 q x1 x2 x3 (x4 + (1 : Int32))
set_option maxHeartbeats 4000000 in
set_option maxRecDepth 100000 in
theorem g_X10_evaluate_112 {E : En} {p : Program} {l : Launch} {e : Env} {s : State} {m : MethodId} {args : Array Value} {below : List Frame} {meth : Method} {c : Code} {A : Nat → Prop} {Q : State → Prop} (F : Fx E p s m args meth c (yX10_evaluate).cls cX10_evaluate 5 none) (hA : ∀ z : Nat, s.heap.size ≤ z → A z) {o : QS} (hRt : RtV (wM E) E p l e rm_X10_evaluate s m args below meth c A Q cX10_evaluate o) {B50 : QS → Int32 → Int32 → Int32 → Int32 → Option (QS)} (hB50 : ∀ (q : QS) (x1 : Int32) (x2 : Int32) (x3 : Int32) (x4 : Int32), B50 q x1 x2 x3 x4 = some o → ∀ ls : Array Slot, lv_has ls 5 [(0, .ref (eA E 0)), (1, .int x1), (2, .int x2), (3, .int x3), (4, .int x4)] → Wq (wM E) E p l e rm_X10_evaluate s m args below meth c A 0 0 Q q (F0 m 50 ls [])) (q : QS) (x1 : Int32) (x2 : Int32) (x3 : Int32) (x4 : Int32) (h : f_X10_evaluate_112 B50 q x1 x2 x3 x4 = some o) (ls : Array Slot) (hl : lv_has ls 5 [(0, .ref (eA E 0)), (1, .int x1), (2, .int x2), (3, .int x3), (4, .int x4)]) : Wq (wM E) E p l e rm_X10_evaluate s m args below meth c A 0 0 Q q (F0 m 112 ls []) := by
  intro H locs hP hD hS
  have hx := F.1
  have hb := F.2.1
  unfold f_X10_evaluate_112 at h
  refine lv_iinc (v := (x4 + (1 : Int32))) (lv' := [(4, .int (x4 + (1 : Int32))), (0, .ref (eA E 0)), (1, .int x1), (2, .int x2), (3, .int x3)]) hx hb dX10_evaluate_112 hl (k := 4) rfl rfl (by decide) rfl (fun ls hl => ?_)
  refine lv_goto (tgt := 50) hx hb dX10_evaluate_115 (by decide) ?_
  exact hB50 q x1 x2 x3 (x4 + (1 : Int32)) h _ (lv_sub hl [1, 2, 3, 4, 0] rfl) _ _ hP hD hS
def f_X10_evaluate_79 (B50 : QS → Int32 → Int32 → Int32 → Int32 → Option (QS)) (q : QS) (x1 : Int32) (x2 : Int32) (x3 : Int32) (x4 : Int32) : Option (QS) :=
  (rd (qI q 25) 200 x4).bind fun y16 =>
  if y16 = (1 : Int32) then
    (rd (qI q 11) 200 x4).bind fun y19 =>
    (f_X10_in y19 (5 : Int32) (9 : Int32)).bind fun r21 =>
    if r21 = 0 then
      f_X10_evaluate_112 B50 q x1 x2 x3 x4
    else
      (f_X10_gather q x4).bind fun r24 =>
      f_X10_evaluate_112 B50 r24 x1 x2 x3 x4
  else
    f_X10_evaluate_112 B50 q x1 x2 x3 x4
set_option maxHeartbeats 4000000 in
set_option maxRecDepth 100000 in
theorem g_X10_evaluate_79 {E : En} {p : Program} {l : Launch} {e : Env} {s : State} {m : MethodId} {args : Array Value} {below : List Frame} {meth : Method} {c : Code} {A : Nat → Prop} {Q : State → Prop} (F : Fx E p s m args meth c (yX10_evaluate).cls cX10_evaluate 5 none) (hA : ∀ z : Nat, s.heap.size ≤ z → A z) {o : QS} (hRt : RtV (wM E) E p l e rm_X10_evaluate s m args below meth c A Q cX10_evaluate o) {B50 : QS → Int32 → Int32 → Int32 → Int32 → Option (QS)} (hB50 : ∀ (q : QS) (x1 : Int32) (x2 : Int32) (x3 : Int32) (x4 : Int32), B50 q x1 x2 x3 x4 = some o → ∀ ls : Array Slot, lv_has ls 5 [(0, .ref (eA E 0)), (1, .int x1), (2, .int x2), (3, .int x3), (4, .int x4)] → Wq (wM E) E p l e rm_X10_evaluate s m args below meth c A 0 0 Q q (F0 m 50 ls [])) (q : QS) (x1 : Int32) (x2 : Int32) (x3 : Int32) (x4 : Int32) (h : f_X10_evaluate_79 B50 q x1 x2 x3 x4 = some o) (ls : Array Slot) (hl : lv_has ls 5 [(0, .ref (eA E 0)), (1, .int x1), (2, .int x2), (3, .int x3), (4, .int x4)]) : Wq (wM E) E p l e rm_X10_evaluate s m args below meth c A 0 0 Q q (F0 m 79 ls []) := by
  intro H locs hP hD hS
  have hx := F.1
  have hb := F.2.1
  unfold f_X10_evaluate_79 at h
  refine lv_aload_n hx hb dX10_evaluate_79 rfl (lv_at hl 0 rfl) ?_
  refine r_get F hP i_X10 0 (me_0 E q) rfl 27 (by decide) rfl lf_X10_86 rfl dX10_evaluate_80 ?_
  refine lv_iload hx hb dX10_evaluate_83 (lv_at hl 4 rfl) ?_
  obtain ⟨y16, e17, h⟩ := Option.bind_eq_some_iff.mp h
  refine r_iald F hP 25 (me_25 E q) e17 dX10_evaluate_85 ?_
  refine lv_iconst (v := 1) hx hb dX10_evaluate_86 (by decide) ?_
  refine lv_icmp_ne (tgt := 112) hx hb dX10_evaluate_87 (by decide) (fun c18 => ?_) (fun c18 => ?_)
  · rw [if_neg c18] at h
    exact g_X10_evaluate_112 F hA hRt hB50 q x1 x2 x3 x4 h _ (lv_sub hl [0, 1, 2, 3, 4] rfl) _ _ hP hD hS
  · rw [if_pos c18] at h
    refine lv_aload_n hx hb dX10_evaluate_90 rfl (lv_at hl 0 rfl) ?_
    refine r_get F hP i_X10 0 (me_0 E q) rfl 13 (by decide) rfl lf_X10_43 rfl dX10_evaluate_91 ?_
    refine lv_iload hx hb dX10_evaluate_94 (lv_at hl 4 rfl) ?_
    obtain ⟨y19, e20, h⟩ := Option.bind_eq_some_iff.mp h
    refine r_iald F hP 11 (me_11 E q) e20 dX10_evaluate_96 ?_
    refine lv_iconst (v := 5) hx hb dX10_evaluate_97 (by decide) ?_
    refine lv_bipush (v := 9) hx hb dX10_evaluate_98 (by decide) ?_
    obtain ⟨r21, e22, h⟩ := Option.bind_eq_some_iff.mp h
    refine q_callS (As := [.int y19, .int (5 : Int32), .int (9 : Int32)]) (rest := []) F hA hP hD hS (c_X10_in (E := E) (l := l) q y19 (5 : Int32) (9 : Int32) e22) k_X10_in st_X10_in lm_X10_169 ⟨rfl, rfl⟩ ⟨by decide, by decide⟩ rfl hl.1 rfl (Nat.le_of_ble_eq_true rfl) dX10_evaluate_100 ⟨by decide, by decide⟩ ?_
    intro H locs hP hD hS
    refine lv_if_eq (tgt := 112) hx hb dX10_evaluate_103 (by decide) (fun c23 => ?_) (fun c23 => ?_)
    · rw [if_pos c23] at h
      exact g_X10_evaluate_112 F hA hRt hB50 q x1 x2 x3 x4 h _ (lv_sub hl [0, 1, 2, 3, 4] rfl) _ _ hP hD hS
    · rw [if_neg c23] at h
      refine lv_aload_n hx hb dX10_evaluate_106 rfl (lv_at hl 0 rfl) ?_
      refine lv_iload hx hb dX10_evaluate_107 (lv_at hl 4 rfl) ?_
      obtain ⟨r24, e25, h⟩ := Option.bind_eq_some_iff.mp h
      refine q_callV (As := [.int x4]) (rest := []) F hA hP hD hS (c_X10_gather (E := E) (l := l) q x4 e25) k_X10_gather in_X10_gather se_X10_gather lm_X10_250 0 (me_0 E q) rfl ⟨rfl, rfl⟩ ⟨by decide, by decide⟩ rfl hl.1 rfl (Nat.le_of_ble_eq_true rfl) dX10_evaluate_109 ⟨by decide, by decide⟩ ?_
      intro H locs hP hD hS
      exact g_X10_evaluate_112 F hA hRt hB50 r24 x1 x2 x3 x4 h _ (lv_sub hl [0, 1, 2, 3, 4] rfl) _ _ hP hD hS
def f_X10_evaluate_50_b (K118 : QS → Int32 → Int32 → Int32 → Option (QS)) (B50 : QS → Int32 → Int32 → Int32 → Int32 → Option (QS)) (q : QS) (x1 : Int32) (x2 : Int32) (x3 : Int32) (x4 : Int32) : Option (QS) :=
  if x1 < x4 then
    K118 q x1 x2 x3
  else
    (rd (qI q 25) 200 x4).bind fun y13 =>
    if y13 = (2 : Int32) then
      (rd (qI q 30) 2000 x3).bind fun y26 =>
      (f_X10_compute q x4 y26).bind fun r28 =>
      f_X10_evaluate_79 B50 r28 x1 x2 x3 x4
    else
      f_X10_evaluate_79 B50 q x1 x2 x3 x4
set_option maxHeartbeats 4000000 in
set_option maxRecDepth 100000 in
theorem g_X10_evaluate_50_b {E : En} {p : Program} {l : Launch} {e : Env} {s : State} {m : MethodId} {args : Array Value} {below : List Frame} {meth : Method} {c : Code} {A : Nat → Prop} {Q : State → Prop} (F : Fx E p s m args meth c (yX10_evaluate).cls cX10_evaluate 5 none) (hA : ∀ z : Nat, s.heap.size ≤ z → A z) {o : QS} (hRt : RtV (wM E) E p l e rm_X10_evaluate s m args below meth c A Q cX10_evaluate o) {K118 : QS → Int32 → Int32 → Int32 → Option (QS)} {B50 : QS → Int32 → Int32 → Int32 → Int32 → Option (QS)} (hK118 : ∀ (q : QS) (x1 : Int32) (x2 : Int32) (x3 : Int32), K118 q x1 x2 x3 = some o → ∀ ls : Array Slot, lv_has ls 5 [(0, .ref (eA E 0)), (1, .int x1), (2, .int x2), (3, .int x3)] → Wq (wM E) E p l e rm_X10_evaluate s m args below meth c A 0 0 Q q (F0 m 118 ls [])) (hB50 : ∀ (q : QS) (x1 : Int32) (x2 : Int32) (x3 : Int32) (x4 : Int32), B50 q x1 x2 x3 x4 = some o → ∀ ls : Array Slot, lv_has ls 5 [(0, .ref (eA E 0)), (1, .int x1), (2, .int x2), (3, .int x3), (4, .int x4)] → Wq (wM E) E p l e rm_X10_evaluate s m args below meth c A 0 0 Q q (F0 m 50 ls [])) (q : QS) (x1 : Int32) (x2 : Int32) (x3 : Int32) (x4 : Int32) (h : f_X10_evaluate_50_b K118 B50 q x1 x2 x3 x4 = some o) (ls : Array Slot) (hl : lv_has ls 5 [(0, .ref (eA E 0)), (1, .int x1), (2, .int x2), (3, .int x3), (4, .int x4)]) : Wq (wM E) E p l e rm_X10_evaluate s m args below meth c A 0 0 Q q (F0 m 50 ls []) := by
  intro H locs hP hD hS
  have hx := F.1
  have hb := F.2.1
  unfold f_X10_evaluate_50_b at h
  refine lv_iload hx hb dX10_evaluate_50 (lv_at hl 4 rfl) ?_
  refine lv_iload_n hx hb dX10_evaluate_52 rfl (lv_at hl 1 rfl) ?_
  refine lv_icmp_gt (tgt := 118) hx hb dX10_evaluate_53 (by decide) (fun c12 => ?_) (fun c12 => ?_)
  · rw [if_pos c12] at h
    exact hK118 q x1 x2 x3 h _ (lv_sub hl [0, 1, 2, 3] rfl) _ _ hP hD hS
  · rw [if_neg c12] at h
    refine lv_aload_n hx hb dX10_evaluate_56 rfl (lv_at hl 0 rfl) ?_
    refine r_get F hP i_X10 0 (me_0 E q) rfl 27 (by decide) rfl lf_X10_86 rfl dX10_evaluate_57 ?_
    refine lv_iload hx hb dX10_evaluate_60 (lv_at hl 4 rfl) ?_
    obtain ⟨y13, e14, h⟩ := Option.bind_eq_some_iff.mp h
    refine r_iald F hP 25 (me_25 E q) e14 dX10_evaluate_62 ?_
    refine lv_iconst (v := 2) hx hb dX10_evaluate_63 (by decide) ?_
    refine lv_icmp_ne (tgt := 79) hx hb dX10_evaluate_64 (by decide) (fun c15 => ?_) (fun c15 => ?_)
    · rw [if_neg c15] at h
      exact g_X10_evaluate_79 F hA hRt hB50 q x1 x2 x3 x4 h _ (lv_sub hl [0, 1, 2, 3, 4] rfl) _ _ hP hD hS
    · rw [if_pos c15] at h
      refine lv_aload_n hx hb dX10_evaluate_67 rfl (lv_at hl 0 rfl) ?_
      refine lv_iload hx hb dX10_evaluate_68 (lv_at hl 4 rfl) ?_
      refine lv_aload_n hx hb dX10_evaluate_70 rfl (lv_at hl 0 rfl) ?_
      refine r_get F hP i_X10 0 (me_0 E q) rfl 39 (by decide) rfl lf_X10_108 rfl dX10_evaluate_71 ?_
      refine lv_iload_n hx hb dX10_evaluate_74 rfl (lv_at hl 3 rfl) ?_
      obtain ⟨y26, e27, h⟩ := Option.bind_eq_some_iff.mp h
      refine r_iald F hP 30 (me_30 E q) e27 dX10_evaluate_75 ?_
      obtain ⟨r28, e29, h⟩ := Option.bind_eq_some_iff.mp h
      refine q_callV (As := [.int x4, .int y26]) (rest := []) F hA hP hD hS (c_X10_compute (E := E) (l := l) q x4 y26 e29) k_X10_compute in_X10_compute se_X10_compute lm_X10_247 0 (me_0 E q) rfl ⟨rfl, rfl⟩ ⟨by decide, by decide⟩ rfl hl.1 rfl (Nat.le_of_ble_eq_true rfl) dX10_evaluate_76 ⟨by decide, by decide⟩ ?_
      intro H locs hP hD hS
      exact g_X10_evaluate_79 F hA hRt hB50 r28 x1 x2 x3 x4 h _ (lv_sub hl [0, 1, 2, 3, 4] rfl) _ _ hP hD hS
def f_X10_evaluate_50 (K118 : QS → Int32 → Int32 → Int32 → Option (QS)) : Nat → QS → Int32 → Int32 → Int32 → Int32 → Option (QS)
  | 0 => fun _ _ _ _ _ => none
  | n + 1 => f_X10_evaluate_50_b K118 (f_X10_evaluate_50 K118 n)
theorem g_X10_evaluate_50 {E : En} {p : Program} {l : Launch} {e : Env} {s : State} {m : MethodId} {args : Array Value} {below : List Frame} {meth : Method} {c : Code} {A : Nat → Prop} {Q : State → Prop} (F : Fx E p s m args meth c (yX10_evaluate).cls cX10_evaluate 5 none) (hA : ∀ z : Nat, s.heap.size ≤ z → A z) {o : QS} (hRt : RtV (wM E) E p l e rm_X10_evaluate s m args below meth c A Q cX10_evaluate o) {K118 : QS → Int32 → Int32 → Int32 → Option (QS)} (hK118 : ∀ (q : QS) (x1 : Int32) (x2 : Int32) (x3 : Int32), K118 q x1 x2 x3 = some o → ∀ ls : Array Slot, lv_has ls 5 [(0, .ref (eA E 0)), (1, .int x1), (2, .int x2), (3, .int x3)] → Wq (wM E) E p l e rm_X10_evaluate s m args below meth c A 0 0 Q q (F0 m 118 ls [])) (n : Nat) : ∀ (q : QS) (x1 : Int32) (x2 : Int32) (x3 : Int32) (x4 : Int32), f_X10_evaluate_50 K118 n q x1 x2 x3 x4 = some o → ∀ ls : Array Slot, lv_has ls 5 [(0, .ref (eA E 0)), (1, .int x1), (2, .int x2), (3, .int x3), (4, .int x4)] → Wq (wM E) E p l e rm_X10_evaluate s m args below meth c A 0 0 Q q (F0 m 50 ls []) := by
  induction n with
  | zero => intro q x1 x2 x3 x4 h; cases h
  | succ n ih => intro q x1 x2 x3 x4 h; exact g_X10_evaluate_50_b F hA hRt hK118 ih q x1 x2 x3 x4 h
def f_X10_evaluate_118 (B34 : QS → Int32 → Int32 → Int32 → Option (QS)) (q : QS) (x1 : Int32) (x2 : Int32) (x3 : Int32) : Option (QS) :=
  (rd (qI q 31) 2000 x3).bind fun y30 =>
  B34 q x1 x2 y30
set_option maxHeartbeats 4000000 in
set_option maxRecDepth 100000 in
theorem g_X10_evaluate_118 {E : En} {p : Program} {l : Launch} {e : Env} {s : State} {m : MethodId} {args : Array Value} {below : List Frame} {meth : Method} {c : Code} {A : Nat → Prop} {Q : State → Prop} (F : Fx E p s m args meth c (yX10_evaluate).cls cX10_evaluate 5 none) (hA : ∀ z : Nat, s.heap.size ≤ z → A z) {o : QS} (hRt : RtV (wM E) E p l e rm_X10_evaluate s m args below meth c A Q cX10_evaluate o) {B34 : QS → Int32 → Int32 → Int32 → Option (QS)} (hB34 : ∀ (q : QS) (x1 : Int32) (x2 : Int32) (x3 : Int32), B34 q x1 x2 x3 = some o → ∀ ls : Array Slot, lv_has ls 5 [(0, .ref (eA E 0)), (1, .int x1), (2, .int x2), (3, .int x3)] → Wq (wM E) E p l e rm_X10_evaluate s m args below meth c A 0 0 Q q (F0 m 34 ls [])) (q : QS) (x1 : Int32) (x2 : Int32) (x3 : Int32) (h : f_X10_evaluate_118 B34 q x1 x2 x3 = some o) (ls : Array Slot) (hl : lv_has ls 5 [(0, .ref (eA E 0)), (1, .int x1), (2, .int x2), (3, .int x3)]) : Wq (wM E) E p l e rm_X10_evaluate s m args below meth c A 0 0 Q q (F0 m 118 ls []) := by
  intro H locs hP hD hS
  have hx := F.1
  have hb := F.2.1
  unfold f_X10_evaluate_118 at h
  refine lv_aload_n hx hb dX10_evaluate_118 rfl (lv_at hl 0 rfl) ?_
  refine r_get F hP i_X10 0 (me_0 E q) rfl 40 (by decide) rfl lf_X10_111 rfl dX10_evaluate_119 ?_
  refine lv_iload_n hx hb dX10_evaluate_122 rfl (lv_at hl 3 rfl) ?_
  obtain ⟨y30, e31, h⟩ := Option.bind_eq_some_iff.mp h
  refine r_sald F hP 31 (me_31 E q) e31 dX10_evaluate_123 ?_
  refine lv_istore_n (lv' := [(3, .int y30), (0, .ref (eA E 0)), (1, .int x1), (2, .int x2)]) hx hb dX10_evaluate_124 rfl hl (by decide) rfl (fun ls hl => ?_)
  refine lv_goto (tgt := 34) hx hb dX10_evaluate_125 (by decide) ?_
  exact hB34 q x1 x2 y30 h _ (lv_sub hl [1, 2, 3, 0] rfl) _ _ hP hD hS
def f_X10_evaluate_34_b (K128 : QS → Int32 → Int32 → Option (QS)) (B34 : QS → Int32 → Int32 → Int32 → Option (QS)) (q : QS) (x1 : Int32) (x2 : Int32) (x3 : Int32) : Option (QS) :=
  if x3 < 0 then
    K128 q x1 x2
  else
    (rd (qI q 15) 200 x1).bind fun y9 =>
    if y9 = 0 then
      K128 q x1 x2
    else
      f_X10_evaluate_50 (f_X10_evaluate_118 B34) FU q x1 x2 x3 (0 : Int32)
set_option maxHeartbeats 4000000 in
set_option maxRecDepth 100000 in
theorem g_X10_evaluate_34_b {E : En} {p : Program} {l : Launch} {e : Env} {s : State} {m : MethodId} {args : Array Value} {below : List Frame} {meth : Method} {c : Code} {A : Nat → Prop} {Q : State → Prop} (F : Fx E p s m args meth c (yX10_evaluate).cls cX10_evaluate 5 none) (hA : ∀ z : Nat, s.heap.size ≤ z → A z) {o : QS} (hRt : RtV (wM E) E p l e rm_X10_evaluate s m args below meth c A Q cX10_evaluate o) {K128 : QS → Int32 → Int32 → Option (QS)} {B34 : QS → Int32 → Int32 → Int32 → Option (QS)} (hK128 : ∀ (q : QS) (x1 : Int32) (x2 : Int32), K128 q x1 x2 = some o → ∀ ls : Array Slot, lv_has ls 5 [(0, .ref (eA E 0)), (1, .int x1), (2, .int x2)] → Wq (wM E) E p l e rm_X10_evaluate s m args below meth c A 0 0 Q q (F0 m 128 ls [])) (hB34 : ∀ (q : QS) (x1 : Int32) (x2 : Int32) (x3 : Int32), B34 q x1 x2 x3 = some o → ∀ ls : Array Slot, lv_has ls 5 [(0, .ref (eA E 0)), (1, .int x1), (2, .int x2), (3, .int x3)] → Wq (wM E) E p l e rm_X10_evaluate s m args below meth c A 0 0 Q q (F0 m 34 ls [])) (q : QS) (x1 : Int32) (x2 : Int32) (x3 : Int32) (h : f_X10_evaluate_34_b K128 B34 q x1 x2 x3 = some o) (ls : Array Slot) (hl : lv_has ls 5 [(0, .ref (eA E 0)), (1, .int x1), (2, .int x2), (3, .int x3)]) : Wq (wM E) E p l e rm_X10_evaluate s m args below meth c A 0 0 Q q (F0 m 34 ls []) := by
  intro H locs hP hD hS
  have hx := F.1
  have hb := F.2.1
  unfold f_X10_evaluate_34_b at h
  refine lv_iload_n hx hb dX10_evaluate_34 rfl (lv_at hl 3 rfl) ?_
  refine lv_if_lt (tgt := 128) hx hb dX10_evaluate_35 (by decide) (fun c8 => ?_) (fun c8 => ?_)
  · rw [if_pos c8] at h
    exact hK128 q x1 x2 h _ (lv_sub hl [0, 1, 2] rfl) _ _ hP hD hS
  · rw [if_neg c8] at h
    refine lv_aload_n hx hb dX10_evaluate_38 rfl (lv_at hl 0 rfl) ?_
    refine r_get F hP i_X10 0 (me_0 E q) rfl 17 (by decide) rfl lf_X10_55 rfl dX10_evaluate_39 ?_
    refine lv_iload_n hx hb dX10_evaluate_42 rfl (lv_at hl 1 rfl) ?_
    obtain ⟨y9, e10, h⟩ := Option.bind_eq_some_iff.mp h
    refine r_zald F hP 15 (me_15 E q) e10 dX10_evaluate_43 ?_
    refine lv_if_eq (tgt := 128) hx hb dX10_evaluate_44 (by decide) (fun c11 => ?_) (fun c11 => ?_)
    · rw [if_pos c11] at h
      exact hK128 q x1 x2 h _ (lv_sub hl [0, 1, 2] rfl) _ _ hP hD hS
    · rw [if_neg c11] at h
      refine lv_iconst (v := 0) hx hb dX10_evaluate_47 (by decide) ?_
      refine lv_istore (lv' := [(4, .int (0 : Int32)), (0, .ref (eA E 0)), (1, .int x1), (2, .int x2), (3, .int x3)]) hx hb dX10_evaluate_48 hl (by decide) rfl (fun ls hl => ?_)
      exact g_X10_evaluate_50 F hA hRt (g_X10_evaluate_118 F hA hRt hB34) FU q x1 x2 x3 (0 : Int32) h _ (lv_sub hl [1, 2, 3, 4, 0] rfl) _ _ hP hD hS
def f_X10_evaluate_34 (K128 : QS → Int32 → Int32 → Option (QS)) : Nat → QS → Int32 → Int32 → Int32 → Option (QS)
  | 0 => fun _ _ _ _ => none
  | n + 1 => f_X10_evaluate_34_b K128 (f_X10_evaluate_34 K128 n)
theorem g_X10_evaluate_34 {E : En} {p : Program} {l : Launch} {e : Env} {s : State} {m : MethodId} {args : Array Value} {below : List Frame} {meth : Method} {c : Code} {A : Nat → Prop} {Q : State → Prop} (F : Fx E p s m args meth c (yX10_evaluate).cls cX10_evaluate 5 none) (hA : ∀ z : Nat, s.heap.size ≤ z → A z) {o : QS} (hRt : RtV (wM E) E p l e rm_X10_evaluate s m args below meth c A Q cX10_evaluate o) {K128 : QS → Int32 → Int32 → Option (QS)} (hK128 : ∀ (q : QS) (x1 : Int32) (x2 : Int32), K128 q x1 x2 = some o → ∀ ls : Array Slot, lv_has ls 5 [(0, .ref (eA E 0)), (1, .int x1), (2, .int x2)] → Wq (wM E) E p l e rm_X10_evaluate s m args below meth c A 0 0 Q q (F0 m 128 ls [])) (n : Nat) : ∀ (q : QS) (x1 : Int32) (x2 : Int32) (x3 : Int32), f_X10_evaluate_34 K128 n q x1 x2 x3 = some o → ∀ ls : Array Slot, lv_has ls 5 [(0, .ref (eA E 0)), (1, .int x1), (2, .int x2), (3, .int x3)] → Wq (wM E) E p l e rm_X10_evaluate s m args below meth c A 0 0 Q q (F0 m 34 ls []) := by
  induction n with
  | zero => intro q x1 x2 x3 h; cases h
  | succ n ih => intro q x1 x2 x3 h; exact g_X10_evaluate_34_b F hA hRt hK128 ih q x1 x2 x3 h
def f_X10_evaluate_197 (B130 : QS → Int32 → Int32 → Int32 → Option (QS)) (q : QS) (x1 : Int32) (x2 : Int32) (x3 : Int32) : Option (QS) :=
  B130 q x1 x2 (x3 + (1 : Int32))
set_option maxHeartbeats 4000000 in
set_option maxRecDepth 100000 in
theorem g_X10_evaluate_197 {E : En} {p : Program} {l : Launch} {e : Env} {s : State} {m : MethodId} {args : Array Value} {below : List Frame} {meth : Method} {c : Code} {A : Nat → Prop} {Q : State → Prop} (F : Fx E p s m args meth c (yX10_evaluate).cls cX10_evaluate 5 none) (hA : ∀ z : Nat, s.heap.size ≤ z → A z) {o : QS} (hRt : RtV (wM E) E p l e rm_X10_evaluate s m args below meth c A Q cX10_evaluate o) {B130 : QS → Int32 → Int32 → Int32 → Option (QS)} (hB130 : ∀ (q : QS) (x1 : Int32) (x2 : Int32) (x3 : Int32), B130 q x1 x2 x3 = some o → ∀ ls : Array Slot, lv_has ls 5 [(0, .ref (eA E 0)), (1, .int x1), (2, .int x2), (3, .int x3)] → Wq (wM E) E p l e rm_X10_evaluate s m args below meth c A 0 0 Q q (F0 m 130 ls [])) (q : QS) (x1 : Int32) (x2 : Int32) (x3 : Int32) (h : f_X10_evaluate_197 B130 q x1 x2 x3 = some o) (ls : Array Slot) (hl : lv_has ls 5 [(0, .ref (eA E 0)), (1, .int x1), (2, .int x2), (3, .int x3)]) : Wq (wM E) E p l e rm_X10_evaluate s m args below meth c A 0 0 Q q (F0 m 197 ls []) := by
  intro H locs hP hD hS
  have hx := F.1
  have hb := F.2.1
  unfold f_X10_evaluate_197 at h
  refine lv_iinc (v := (x3 + (1 : Int32))) (lv' := [(3, .int (x3 + (1 : Int32))), (0, .ref (eA E 0)), (1, .int x1), (2, .int x2)]) hx hb dX10_evaluate_197 hl (k := 3) rfl rfl (by decide) rfl (fun ls hl => ?_)
  refine lv_goto (tgt := 130) hx hb dX10_evaluate_200 (by decide) ?_
  exact hB130 q x1 x2 (x3 + (1 : Int32)) h _ (lv_sub hl [1, 2, 3, 0] rfl) _ _ hP hD hS
def f_X10_evaluate_194 (B130 : QS → Int32 → Int32 → Int32 → Option (QS)) (q : QS) (x1 : Int32) (x2 : Int32) (x3 : Int32) (t1 : Int32) (t2 : Int32) : Option (QS) :=
  (f_X10_compute q t1 t2).bind fun r42 =>
  f_X10_evaluate_197 B130 r42 x1 x2 x3
set_option maxHeartbeats 4000000 in
set_option maxRecDepth 100000 in
theorem g_X10_evaluate_194 {E : En} {p : Program} {l : Launch} {e : Env} {s : State} {m : MethodId} {args : Array Value} {below : List Frame} {meth : Method} {c : Code} {A : Nat → Prop} {Q : State → Prop} (F : Fx E p s m args meth c (yX10_evaluate).cls cX10_evaluate 5 none) (hA : ∀ z : Nat, s.heap.size ≤ z → A z) {o : QS} (hRt : RtV (wM E) E p l e rm_X10_evaluate s m args below meth c A Q cX10_evaluate o) {B130 : QS → Int32 → Int32 → Int32 → Option (QS)} (hB130 : ∀ (q : QS) (x1 : Int32) (x2 : Int32) (x3 : Int32), B130 q x1 x2 x3 = some o → ∀ ls : Array Slot, lv_has ls 5 [(0, .ref (eA E 0)), (1, .int x1), (2, .int x2), (3, .int x3)] → Wq (wM E) E p l e rm_X10_evaluate s m args below meth c A 0 0 Q q (F0 m 130 ls [])) (q : QS) (x1 : Int32) (x2 : Int32) (x3 : Int32) (t1 : Int32) (t2 : Int32) (h : f_X10_evaluate_194 B130 q x1 x2 x3 t1 t2 = some o) (ls : Array Slot) (hl : lv_has ls 5 [(0, .ref (eA E 0)), (1, .int x1), (2, .int x2), (3, .int x3)]) : Wq (wM E) E p l e rm_X10_evaluate s m args below meth c A 0 0 Q q (F0 m 194 ls [.int t2, .int t1, .ref (eA E 0)]) := by
  intro H locs hP hD hS
  have hx := F.1
  have hb := F.2.1
  unfold f_X10_evaluate_194 at h
  obtain ⟨r42, e43, h⟩ := Option.bind_eq_some_iff.mp h
  refine q_callV (As := [.int t1, .int t2]) (rest := []) F hA hP hD hS (c_X10_compute (E := E) (l := l) q t1 t2 e43) k_X10_compute in_X10_compute se_X10_compute lm_X10_247 0 (me_0 E q) rfl ⟨rfl, rfl⟩ ⟨by decide, by decide⟩ rfl hl.1 rfl (Nat.le_of_ble_eq_true rfl) dX10_evaluate_194 ⟨by decide, by decide⟩ ?_
  intro H locs hP hD hS
  exact g_X10_evaluate_197 F hA hRt hB130 r42 x1 x2 x3 h _ (lv_sub hl [0, 1, 2, 3] rfl) _ _ hP hD hS
def f_X10_evaluate_168 (B130 : QS → Int32 → Int32 → Int32 → Option (QS)) (q : QS) (x1 : Int32) (x2 : Int32) (x3 : Int32) : Option (QS) :=
  (rd (qI q 25) 200 x3).bind fun y36 =>
  if y36 = (1 : Int32) then
    if 0 ≤ x2 then
      (rd (qI q 30) 2000 x2).bind fun y40 =>
      f_X10_evaluate_194 B130 q x1 x2 x3 x3 y40
    else
      f_X10_evaluate_194 B130 q x1 x2 x3 x3 (0 : Int32)
  else
    f_X10_evaluate_197 B130 q x1 x2 x3
set_option maxHeartbeats 4000000 in
set_option maxRecDepth 100000 in
theorem g_X10_evaluate_168 {E : En} {p : Program} {l : Launch} {e : Env} {s : State} {m : MethodId} {args : Array Value} {below : List Frame} {meth : Method} {c : Code} {A : Nat → Prop} {Q : State → Prop} (F : Fx E p s m args meth c (yX10_evaluate).cls cX10_evaluate 5 none) (hA : ∀ z : Nat, s.heap.size ≤ z → A z) {o : QS} (hRt : RtV (wM E) E p l e rm_X10_evaluate s m args below meth c A Q cX10_evaluate o) {B130 : QS → Int32 → Int32 → Int32 → Option (QS)} (hB130 : ∀ (q : QS) (x1 : Int32) (x2 : Int32) (x3 : Int32), B130 q x1 x2 x3 = some o → ∀ ls : Array Slot, lv_has ls 5 [(0, .ref (eA E 0)), (1, .int x1), (2, .int x2), (3, .int x3)] → Wq (wM E) E p l e rm_X10_evaluate s m args below meth c A 0 0 Q q (F0 m 130 ls [])) (q : QS) (x1 : Int32) (x2 : Int32) (x3 : Int32) (h : f_X10_evaluate_168 B130 q x1 x2 x3 = some o) (ls : Array Slot) (hl : lv_has ls 5 [(0, .ref (eA E 0)), (1, .int x1), (2, .int x2), (3, .int x3)]) : Wq (wM E) E p l e rm_X10_evaluate s m args below meth c A 0 0 Q q (F0 m 168 ls []) := by
  intro H locs hP hD hS
  have hx := F.1
  have hb := F.2.1
  unfold f_X10_evaluate_168 at h
  refine lv_aload_n hx hb dX10_evaluate_168 rfl (lv_at hl 0 rfl) ?_
  refine r_get F hP i_X10 0 (me_0 E q) rfl 27 (by decide) rfl lf_X10_86 rfl dX10_evaluate_169 ?_
  refine lv_iload_n hx hb dX10_evaluate_172 rfl (lv_at hl 3 rfl) ?_
  obtain ⟨y36, e37, h⟩ := Option.bind_eq_some_iff.mp h
  refine r_iald F hP 25 (me_25 E q) e37 dX10_evaluate_173 ?_
  refine lv_iconst (v := 1) hx hb dX10_evaluate_174 (by decide) ?_
  refine lv_icmp_ne (tgt := 197) hx hb dX10_evaluate_175 (by decide) (fun c38 => ?_) (fun c38 => ?_)
  · rw [if_neg c38] at h
    exact g_X10_evaluate_197 F hA hRt hB130 q x1 x2 x3 h _ (lv_sub hl [0, 1, 2, 3] rfl) _ _ hP hD hS
  · rw [if_pos c38] at h
    refine lv_aload_n hx hb dX10_evaluate_178 rfl (lv_at hl 0 rfl) ?_
    refine lv_iload_n hx hb dX10_evaluate_179 rfl (lv_at hl 3 rfl) ?_
    refine lv_iload_n hx hb dX10_evaluate_180 rfl (lv_at hl 2 rfl) ?_
    refine lv_if_ge (tgt := 188) hx hb dX10_evaluate_181 (by decide) (fun c39 => ?_) (fun c39 => ?_)
    · rw [if_pos c39] at h
      refine lv_aload_n hx hb dX10_evaluate_188 rfl (lv_at hl 0 rfl) ?_
      refine r_get F hP i_X10 0 (me_0 E q) rfl 39 (by decide) rfl lf_X10_108 rfl dX10_evaluate_189 ?_
      refine lv_iload_n hx hb dX10_evaluate_192 rfl (lv_at hl 2 rfl) ?_
      obtain ⟨y40, e41, h⟩ := Option.bind_eq_some_iff.mp h
      refine r_iald F hP 30 (me_30 E q) e41 dX10_evaluate_193 ?_
      exact g_X10_evaluate_194 F hA hRt hB130 q x1 x2 x3 x3 y40 h _ (lv_sub hl [0, 1, 2, 3] rfl) _ _ hP hD hS
    · rw [if_neg c39] at h
      refine lv_iconst (v := 0) hx hb dX10_evaluate_184 (by decide) ?_
      refine lv_goto (tgt := 194) hx hb dX10_evaluate_185 (by decide) ?_
      exact g_X10_evaluate_194 F hA hRt hB130 q x1 x2 x3 x3 (0 : Int32) h _ (lv_sub hl [0, 1, 2, 3] rfl) _ _ hP hD hS
def f_X10_evaluate_130_b (B130 : QS → Int32 → Int32 → Int32 → Option (QS)) (q : QS) (x1 : Int32) (x2 : Int32) (x3 : Int32) : Option (QS) :=
  if x1 < x3 then
    some q
  else
    (rd (qI q 25) 200 x3).bind fun y33 =>
    if y33 = (1 : Int32) then
      (rd (qI q 11) 200 x3).bind fun y44 =>
      (f_X10_in y44 (5 : Int32) (9 : Int32)).bind fun r46 =>
      if r46 = 0 then
        f_X10_evaluate_168 B130 q x1 x2 x3
      else
        (f_X10_setGathered q x3).bind fun r49 =>
        f_X10_evaluate_197 B130 r49 x1 x2 x3
    else
      f_X10_evaluate_168 B130 q x1 x2 x3
set_option maxHeartbeats 4000000 in
set_option maxRecDepth 100000 in
theorem g_X10_evaluate_130_b {E : En} {p : Program} {l : Launch} {e : Env} {s : State} {m : MethodId} {args : Array Value} {below : List Frame} {meth : Method} {c : Code} {A : Nat → Prop} {Q : State → Prop} (F : Fx E p s m args meth c (yX10_evaluate).cls cX10_evaluate 5 none) (hA : ∀ z : Nat, s.heap.size ≤ z → A z) {o : QS} (hRt : RtV (wM E) E p l e rm_X10_evaluate s m args below meth c A Q cX10_evaluate o) {B130 : QS → Int32 → Int32 → Int32 → Option (QS)} (hB130 : ∀ (q : QS) (x1 : Int32) (x2 : Int32) (x3 : Int32), B130 q x1 x2 x3 = some o → ∀ ls : Array Slot, lv_has ls 5 [(0, .ref (eA E 0)), (1, .int x1), (2, .int x2), (3, .int x3)] → Wq (wM E) E p l e rm_X10_evaluate s m args below meth c A 0 0 Q q (F0 m 130 ls [])) (q : QS) (x1 : Int32) (x2 : Int32) (x3 : Int32) (h : f_X10_evaluate_130_b B130 q x1 x2 x3 = some o) (ls : Array Slot) (hl : lv_has ls 5 [(0, .ref (eA E 0)), (1, .int x1), (2, .int x2), (3, .int x3)]) : Wq (wM E) E p l e rm_X10_evaluate s m args below meth c A 0 0 Q q (F0 m 130 ls []) := by
  intro H locs hP hD hS
  have hx := F.1
  have hb := F.2.1
  unfold f_X10_evaluate_130_b at h
  refine lv_iload_n hx hb dX10_evaluate_130 rfl (lv_at hl 3 rfl) ?_
  refine lv_iload_n hx hb dX10_evaluate_131 rfl (lv_at hl 1 rfl) ?_
  refine lv_icmp_gt (tgt := 203) hx hb dX10_evaluate_132 (by decide) (fun c32 => ?_) (fun c32 => ?_)
  · rw [if_pos c32] at h
    cases h
    exact hRt _ _ dX10_evaluate_203 _ _ hP hD hS
  · rw [if_neg c32] at h
    refine lv_aload_n hx hb dX10_evaluate_135 rfl (lv_at hl 0 rfl) ?_
    refine r_get F hP i_X10 0 (me_0 E q) rfl 27 (by decide) rfl lf_X10_86 rfl dX10_evaluate_136 ?_
    refine lv_iload_n hx hb dX10_evaluate_139 rfl (lv_at hl 3 rfl) ?_
    obtain ⟨y33, e34, h⟩ := Option.bind_eq_some_iff.mp h
    refine r_iald F hP 25 (me_25 E q) e34 dX10_evaluate_140 ?_
    refine lv_iconst (v := 1) hx hb dX10_evaluate_141 (by decide) ?_
    refine lv_icmp_ne (tgt := 168) hx hb dX10_evaluate_142 (by decide) (fun c35 => ?_) (fun c35 => ?_)
    · rw [if_neg c35] at h
      exact g_X10_evaluate_168 F hA hRt hB130 q x1 x2 x3 h _ (lv_sub hl [0, 1, 2, 3] rfl) _ _ hP hD hS
    · rw [if_pos c35] at h
      refine lv_aload_n hx hb dX10_evaluate_145 rfl (lv_at hl 0 rfl) ?_
      refine r_get F hP i_X10 0 (me_0 E q) rfl 13 (by decide) rfl lf_X10_43 rfl dX10_evaluate_146 ?_
      refine lv_iload_n hx hb dX10_evaluate_149 rfl (lv_at hl 3 rfl) ?_
      obtain ⟨y44, e45, h⟩ := Option.bind_eq_some_iff.mp h
      refine r_iald F hP 11 (me_11 E q) e45 dX10_evaluate_150 ?_
      refine lv_iconst (v := 5) hx hb dX10_evaluate_151 (by decide) ?_
      refine lv_bipush (v := 9) hx hb dX10_evaluate_152 (by decide) ?_
      obtain ⟨r46, e47, h⟩ := Option.bind_eq_some_iff.mp h
      refine q_callS (As := [.int y44, .int (5 : Int32), .int (9 : Int32)]) (rest := []) F hA hP hD hS (c_X10_in (E := E) (l := l) q y44 (5 : Int32) (9 : Int32) e47) k_X10_in st_X10_in lm_X10_169 ⟨rfl, rfl⟩ ⟨by decide, by decide⟩ rfl hl.1 rfl (Nat.le_of_ble_eq_true rfl) dX10_evaluate_154 ⟨by decide, by decide⟩ ?_
      intro H locs hP hD hS
      refine lv_if_eq (tgt := 168) hx hb dX10_evaluate_157 (by decide) (fun c48 => ?_) (fun c48 => ?_)
      · rw [if_pos c48] at h
        exact g_X10_evaluate_168 F hA hRt hB130 q x1 x2 x3 h _ (lv_sub hl [0, 1, 2, 3] rfl) _ _ hP hD hS
      · rw [if_neg c48] at h
        refine lv_aload_n hx hb dX10_evaluate_160 rfl (lv_at hl 0 rfl) ?_
        refine lv_iload_n hx hb dX10_evaluate_161 rfl (lv_at hl 3 rfl) ?_
        obtain ⟨r49, e50, h⟩ := Option.bind_eq_some_iff.mp h
        refine q_callV (As := [.int x3]) (rest := []) F hA hP hD hS (c_X10_setGathered (E := E) (l := l) q x3 e50) k_X10_setGathered in_X10_setGathered se_X10_setGathered lm_X10_253 0 (me_0 E q) rfl ⟨rfl, rfl⟩ ⟨by decide, by decide⟩ rfl hl.1 rfl (Nat.le_of_ble_eq_true rfl) dX10_evaluate_162 ⟨by decide, by decide⟩ ?_
        intro H locs hP hD hS
        refine lv_goto (tgt := 197) hx hb dX10_evaluate_165 (by decide) ?_
        exact g_X10_evaluate_197 F hA hRt hB130 r49 x1 x2 x3 h _ (lv_sub hl [0, 1, 2, 3] rfl) _ _ hP hD hS
def f_X10_evaluate_130 : Nat → QS → Int32 → Int32 → Int32 → Option (QS)
  | 0 => fun _ _ _ _ => none
  | n + 1 => f_X10_evaluate_130_b (f_X10_evaluate_130 n)
theorem g_X10_evaluate_130 {E : En} {p : Program} {l : Launch} {e : Env} {s : State} {m : MethodId} {args : Array Value} {below : List Frame} {meth : Method} {c : Code} {A : Nat → Prop} {Q : State → Prop} (F : Fx E p s m args meth c (yX10_evaluate).cls cX10_evaluate 5 none) (hA : ∀ z : Nat, s.heap.size ≤ z → A z) {o : QS} (hRt : RtV (wM E) E p l e rm_X10_evaluate s m args below meth c A Q cX10_evaluate o) (n : Nat) : ∀ (q : QS) (x1 : Int32) (x2 : Int32) (x3 : Int32), f_X10_evaluate_130 n q x1 x2 x3 = some o → ∀ ls : Array Slot, lv_has ls 5 [(0, .ref (eA E 0)), (1, .int x1), (2, .int x2), (3, .int x3)] → Wq (wM E) E p l e rm_X10_evaluate s m args below meth c A 0 0 Q q (F0 m 130 ls []) := by
  induction n with
  | zero => intro q x1 x2 x3 h; cases h
  | succ n ih => intro q x1 x2 x3 h; exact g_X10_evaluate_130_b F hA hRt ih q x1 x2 x3 h
def f_X10_evaluate_128 (q : QS) (x1 : Int32) (x2 : Int32) : Option (QS) :=
  f_X10_evaluate_130 FU q x1 x2 (0 : Int32)
set_option maxHeartbeats 4000000 in
set_option maxRecDepth 100000 in
theorem g_X10_evaluate_128 {E : En} {p : Program} {l : Launch} {e : Env} {s : State} {m : MethodId} {args : Array Value} {below : List Frame} {meth : Method} {c : Code} {A : Nat → Prop} {Q : State → Prop} (F : Fx E p s m args meth c (yX10_evaluate).cls cX10_evaluate 5 none) (hA : ∀ z : Nat, s.heap.size ≤ z → A z) {o : QS} (hRt : RtV (wM E) E p l e rm_X10_evaluate s m args below meth c A Q cX10_evaluate o) (q : QS) (x1 : Int32) (x2 : Int32) (h : f_X10_evaluate_128 q x1 x2 = some o) (ls : Array Slot) (hl : lv_has ls 5 [(0, .ref (eA E 0)), (1, .int x1), (2, .int x2)]) : Wq (wM E) E p l e rm_X10_evaluate s m args below meth c A 0 0 Q q (F0 m 128 ls []) := by
  intro H locs hP hD hS
  have hx := F.1
  have hb := F.2.1
  unfold f_X10_evaluate_128 at h
  refine lv_iconst (v := 0) hx hb dX10_evaluate_128 (by decide) ?_
  refine lv_istore_n (lv' := [(3, .int (0 : Int32)), (0, .ref (eA E 0)), (1, .int x1), (2, .int x2)]) hx hb dX10_evaluate_129 rfl hl (by decide) rfl (fun ls hl => ?_)
  exact g_X10_evaluate_130 F hA hRt FU q x1 x2 (0 : Int32) h _ (lv_sub hl [1, 2, 3, 0] rfl) _ _ hP hD hS
def f_X10_evaluate_32 (q : QS) (x1 : Int32) (x2 : Int32) : Option (QS) :=
  f_X10_evaluate_34 (f_X10_evaluate_128) FU q x1 x2 x2
set_option maxHeartbeats 4000000 in
set_option maxRecDepth 100000 in
theorem g_X10_evaluate_32 {E : En} {p : Program} {l : Launch} {e : Env} {s : State} {m : MethodId} {args : Array Value} {below : List Frame} {meth : Method} {c : Code} {A : Nat → Prop} {Q : State → Prop} (F : Fx E p s m args meth c (yX10_evaluate).cls cX10_evaluate 5 none) (hA : ∀ z : Nat, s.heap.size ≤ z → A z) {o : QS} (hRt : RtV (wM E) E p l e rm_X10_evaluate s m args below meth c A Q cX10_evaluate o) (q : QS) (x1 : Int32) (x2 : Int32) (h : f_X10_evaluate_32 q x1 x2 = some o) (ls : Array Slot) (hl : lv_has ls 5 [(0, .ref (eA E 0)), (1, .int x1), (2, .int x2)]) : Wq (wM E) E p l e rm_X10_evaluate s m args below meth c A 0 0 Q q (F0 m 32 ls []) := by
  intro H locs hP hD hS
  have hx := F.1
  have hb := F.2.1
  unfold f_X10_evaluate_32 at h
  refine lv_iload_n hx hb dX10_evaluate_32 rfl (lv_at hl 2 rfl) ?_
  refine lv_istore_n (lv' := [(3, .int x2), (0, .ref (eA E 0)), (1, .int x1), (2, .int x2)]) hx hb dX10_evaluate_33 rfl hl (by decide) rfl (fun ls hl => ?_)
  exact g_X10_evaluate_34 F hA hRt (g_X10_evaluate_128 F hA hRt) FU q x1 x2 x2 h _ (lv_sub hl [1, 2, 3, 0] rfl) _ _ hP hD hS
def f_X10_evaluate_0 (q : QS) (x1 : Int32) (x2 : Int32) : Option (QS) :=
  (f_X10_mark q x1).bind fun r1 =>
  f_X10_evaluate_7 (f_X10_evaluate_32) FU r1 x1 x2 (0 : Int32)
set_option maxHeartbeats 4000000 in
set_option maxRecDepth 100000 in
theorem g_X10_evaluate_0 {E : En} {p : Program} {l : Launch} {e : Env} {s : State} {m : MethodId} {args : Array Value} {below : List Frame} {meth : Method} {c : Code} {A : Nat → Prop} {Q : State → Prop} (F : Fx E p s m args meth c (yX10_evaluate).cls cX10_evaluate 5 none) (hA : ∀ z : Nat, s.heap.size ≤ z → A z) {o : QS} (hRt : RtV (wM E) E p l e rm_X10_evaluate s m args below meth c A Q cX10_evaluate o) (q : QS) (x1 : Int32) (x2 : Int32) (h : f_X10_evaluate_0 q x1 x2 = some o) (ls : Array Slot) (hl : lv_has ls 5 [(0, .ref (eA E 0)), (1, .int x1), (2, .int x2)]) : Wq (wM E) E p l e rm_X10_evaluate s m args below meth c A 0 0 Q q (F0 m 0 ls []) := by
  intro H locs hP hD hS
  have hx := F.1
  have hb := F.2.1
  unfold f_X10_evaluate_0 at h
  refine lv_aload_n hx hb dX10_evaluate_0 rfl (lv_at hl 0 rfl) ?_
  refine lv_iload_n hx hb dX10_evaluate_1 rfl (lv_at hl 1 rfl) ?_
  obtain ⟨r1, e2, h⟩ := Option.bind_eq_some_iff.mp h
  refine q_callV (As := [.int x1]) (rest := []) F hA hP hD hS (c_X10_mark (E := E) (l := l) q x1 e2) k_X10_mark in_X10_mark se_X10_mark lm_X10_243 0 (me_0 E q) rfl ⟨rfl, rfl⟩ ⟨by decide, by decide⟩ rfl hl.1 rfl (Nat.le_of_ble_eq_true rfl) dX10_evaluate_2 ⟨by decide, by decide⟩ ?_
  intro H locs hP hD hS
  refine lv_iconst (v := 0) hx hb dX10_evaluate_5 (by decide) ?_
  refine lv_istore_n (lv' := [(3, .int (0 : Int32)), (0, .ref (eA E 0)), (1, .int x1), (2, .int x2)]) hx hb dX10_evaluate_6 rfl hl (by decide) rfl (fun ls hl => ?_)
  exact g_X10_evaluate_7 F hA hRt (g_X10_evaluate_32 F hA hRt) FU r1 x1 x2 (0 : Int32) h _ (lv_sub hl [1, 2, 3, 0] rfl) _ _ hP hD hS
def f_X10_evaluate (q : QS) (x1 : Int32) (x2 : Int32) : Option (QS) := f_X10_evaluate_0 q x1 x2
set_option maxRecDepth 100000 in
theorem c_X10_evaluate {E : En} {l : Launch} (q : QS) (x1 : Int32) (x2 : Int32) {o : QS} (h : f_X10_evaluate q x1 x2 = some o) : Ct (wM E) E l yX10_evaluate (wy yX10_evaluate cX10_evaluate 5 none) rm_X10_evaluate q o [.ref (eA E 0), .int x1, .int x2] none :=
  ct_V (o := o) (by decide +kernel) (fun p e s m below meth c A Q F hA hRt H locs hP hD hS => en_W [.ref (eA E 0), .int x1, .int x2] (Nat.le_of_ble_eq_true rfl) (fun ls hl => g_X10_evaluate_0 F hA hRt q x1 x2 h ls (lv_sub hl [0, 1, 2] rfl) H locs hP hD hS))
def rm_X10_take : Room := { frames := 0, cells := 0, slots := 0, locals := 0 }
def f_X10_take_38_b (B38 : QS → Int32 → Int32 → Int32 → Option (QS)) (q : QS) (x1 : Int32) (x2 : Int32) (x3 : Int32) : Option (QS) :=
  if (4 : Int32) ≤ x3 then
    some q
  else
    (rd (qL q 20) 800 (((4 : Int32) * x1) + x3)).bind fun y14 =>
    (wL q 37 8 (((4 : Int32) * x2) + x3) y14).bind fun q16 =>
    B38 q16 x1 x2 (x3 + (1 : Int32))
set_option maxHeartbeats 4000000 in
set_option maxRecDepth 100000 in
theorem g_X10_take_38_b {E : En} {p : Program} {l : Launch} {e : Env} {s : State} {m : MethodId} {args : Array Value} {below : List Frame} {meth : Method} {c : Code} {A : Nat → Prop} {Q : State → Prop} (F : Fx E p s m args meth c (yX10_take).cls cX10_take 4 none) (hA : ∀ z : Nat, s.heap.size ≤ z → A z) {o : QS} (hRt : RtV (wM E) E p l e rm_X10_take s m args below meth c A Q cX10_take o) {B38 : QS → Int32 → Int32 → Int32 → Option (QS)} (hB38 : ∀ (q : QS) (x1 : Int32) (x2 : Int32) (x3 : Int32), B38 q x1 x2 x3 = some o → ∀ ls : Array Slot, lv_has ls 4 [(0, .ref (eA E 0)), (1, .int x1), (2, .int x2), (3, .int x3)] → Wq (wM E) E p l e rm_X10_take s m args below meth c A 0 0 Q q (F0 m 38 ls [])) (q : QS) (x1 : Int32) (x2 : Int32) (x3 : Int32) (h : f_X10_take_38_b B38 q x1 x2 x3 = some o) (ls : Array Slot) (hl : lv_has ls 4 [(0, .ref (eA E 0)), (1, .int x1), (2, .int x2), (3, .int x3)]) : Wq (wM E) E p l e rm_X10_take s m args below meth c A 0 0 Q q (F0 m 38 ls []) := by
  intro H locs hP hD hS
  have hx := F.1
  have hb := F.2.1
  unfold f_X10_take_38_b at h
  refine lv_iload_n hx hb dX10_take_38 rfl (lv_at hl 3 rfl) ?_
  refine lv_iconst (v := 4) hx hb dX10_take_39 (by decide) ?_
  refine lv_icmp_ge (tgt := 69) hx hb dX10_take_40 (by decide) (fun c13 => ?_) (fun c13 => ?_)
  · rw [if_pos c13] at h
    cases h
    exact hRt _ _ dX10_take_69 _ _ hP hD hS
  · rw [if_neg c13] at h
    refine lv_aload_n hx hb dX10_take_43 rfl (lv_at hl 0 rfl) ?_
    refine r_get F hP i_X10 0 (me_0 E q) rfl 47 (by decide) rfl lf_X10_129 rfl dX10_take_44 ?_
    refine lv_iconst (v := 4) hx hb dX10_take_47 (by decide) ?_
    refine lv_iload_n hx hb dX10_take_48 rfl (lv_at hl 2 rfl) ?_
    refine lv_imul hx hb dX10_take_49 ?_
    refine lv_iload_n hx hb dX10_take_50 rfl (lv_at hl 3 rfl) ?_
    refine lv_iadd hx hb dX10_take_51 ?_
    refine lv_aload_n hx hb dX10_take_52 rfl (lv_at hl 0 rfl) ?_
    refine r_get F hP i_X10 0 (me_0 E q) rfl 22 (by decide) rfl lf_X10_71 rfl dX10_take_53 ?_
    refine lv_iconst (v := 4) hx hb dX10_take_56 (by decide) ?_
    refine lv_iload_n hx hb dX10_take_57 rfl (lv_at hl 1 rfl) ?_
    refine lv_imul hx hb dX10_take_58 ?_
    refine lv_iload_n hx hb dX10_take_59 rfl (lv_at hl 3 rfl) ?_
    refine lv_iadd hx hb dX10_take_60 ?_
    obtain ⟨y14, e15, h⟩ := Option.bind_eq_some_iff.mp h
    refine r_lald F hP 20 (me_20 E q) e15 dX10_take_61 ?_
    obtain ⟨q16, e17, h⟩ := Option.bind_eq_some_iff.mp h
    refine r_last F hP hD hS 37 (me_37 E q) (ms_37 E q) e17 dX10_take_62 ?_
    intro H locs hP hD hS
    refine lv_iinc (v := (x3 + (1 : Int32))) (lv' := [(3, .int (x3 + (1 : Int32))), (0, .ref (eA E 0)), (1, .int x1), (2, .int x2)]) hx hb dX10_take_63 hl (k := 3) rfl rfl (by decide) rfl (fun ls hl => ?_)
    refine lv_goto (tgt := 38) hx hb dX10_take_66 (by decide) ?_
    exact hB38 q16 x1 x2 (x3 + (1 : Int32)) h _ (lv_sub hl [1, 2, 3, 0] rfl) _ _ hP hD hS
def f_X10_take_38 : Nat → QS → Int32 → Int32 → Int32 → Option (QS)
  | 0 => fun _ _ _ _ => none
  | n + 1 => f_X10_take_38_b (f_X10_take_38 n)
theorem g_X10_take_38 {E : En} {p : Program} {l : Launch} {e : Env} {s : State} {m : MethodId} {args : Array Value} {below : List Frame} {meth : Method} {c : Code} {A : Nat → Prop} {Q : State → Prop} (F : Fx E p s m args meth c (yX10_take).cls cX10_take 4 none) (hA : ∀ z : Nat, s.heap.size ≤ z → A z) {o : QS} (hRt : RtV (wM E) E p l e rm_X10_take s m args below meth c A Q cX10_take o) (n : Nat) : ∀ (q : QS) (x1 : Int32) (x2 : Int32) (x3 : Int32), f_X10_take_38 n q x1 x2 x3 = some o → ∀ ls : Array Slot, lv_has ls 4 [(0, .ref (eA E 0)), (1, .int x1), (2, .int x2), (3, .int x3)] → Wq (wM E) E p l e rm_X10_take s m args below meth c A 0 0 Q q (F0 m 38 ls []) := by
  induction n with
  | zero => intro q x1 x2 x3 h; cases h
  | succ n ih => intro q x1 x2 x3 h; exact g_X10_take_38_b F hA hRt ih q x1 x2 x3 h
def f_X10_take_0 (q : QS) (x1 : Int32) (x2 : Int32) : Option (QS) :=
  (rd (qI q 17) 200 x1).bind fun y1 =>
  (wI q 34 2 x2 (vp_nar .boolean y1)).bind fun q3 =>
  (rd (qL q3 18) 200 x1).bind fun y5 =>
  (wL q3 35 2 x2 y5).bind fun q7 =>
  (rd (qI q7 19) 200 x1).bind fun y9 =>
  (wI q7 36 2 x2 y9).bind fun q11 =>
  f_X10_take_38 FU q11 x1 x2 (0 : Int32)
set_option maxHeartbeats 4000000 in
set_option maxRecDepth 100000 in
theorem g_X10_take_0 {E : En} {p : Program} {l : Launch} {e : Env} {s : State} {m : MethodId} {args : Array Value} {below : List Frame} {meth : Method} {c : Code} {A : Nat → Prop} {Q : State → Prop} (F : Fx E p s m args meth c (yX10_take).cls cX10_take 4 none) (hA : ∀ z : Nat, s.heap.size ≤ z → A z) {o : QS} (hRt : RtV (wM E) E p l e rm_X10_take s m args below meth c A Q cX10_take o) (q : QS) (x1 : Int32) (x2 : Int32) (h : f_X10_take_0 q x1 x2 = some o) (ls : Array Slot) (hl : lv_has ls 4 [(0, .ref (eA E 0)), (1, .int x1), (2, .int x2)]) : Wq (wM E) E p l e rm_X10_take s m args below meth c A 0 0 Q q (F0 m 0 ls []) := by
  intro H locs hP hD hS
  have hx := F.1
  have hb := F.2.1
  unfold f_X10_take_0 at h
  refine lv_aload_n hx hb dX10_take_0 rfl (lv_at hl 0 rfl) ?_
  refine r_get F hP i_X10 0 (me_0 E q) rfl 44 (by decide) rfl lf_X10_120 rfl dX10_take_1 ?_
  refine lv_iload_n hx hb dX10_take_4 rfl (lv_at hl 2 rfl) ?_
  refine lv_aload_n hx hb dX10_take_5 rfl (lv_at hl 0 rfl) ?_
  refine r_get F hP i_X10 0 (me_0 E q) rfl 19 (by decide) rfl lf_X10_62 rfl dX10_take_6 ?_
  refine lv_iload_n hx hb dX10_take_9 rfl (lv_at hl 1 rfl) ?_
  obtain ⟨y1, e2, h⟩ := Option.bind_eq_some_iff.mp h
  refine r_zald F hP 17 (me_17 E q) e2 dX10_take_10 ?_
  obtain ⟨q3, e4, h⟩ := Option.bind_eq_some_iff.mp h
  refine r_zast F hP hD hS 34 (me_34 E q) (ms_34 E q) e4 dX10_take_11 ?_
  intro H locs hP hD hS
  refine lv_aload_n hx hb dX10_take_12 rfl (lv_at hl 0 rfl) ?_
  refine r_get F hP i_X10 0 (me_0 E q3) rfl 45 (by decide) rfl lf_X10_123 rfl dX10_take_13 ?_
  refine lv_iload_n hx hb dX10_take_16 rfl (lv_at hl 2 rfl) ?_
  refine lv_aload_n hx hb dX10_take_17 rfl (lv_at hl 0 rfl) ?_
  refine r_get F hP i_X10 0 (me_0 E q3) rfl 20 (by decide) rfl lf_X10_65 rfl dX10_take_18 ?_
  refine lv_iload_n hx hb dX10_take_21 rfl (lv_at hl 1 rfl) ?_
  obtain ⟨y5, e6, h⟩ := Option.bind_eq_some_iff.mp h
  refine r_lald F hP 18 (me_18 E q3) e6 dX10_take_22 ?_
  obtain ⟨q7, e8, h⟩ := Option.bind_eq_some_iff.mp h
  refine r_last F hP hD hS 35 (me_35 E q3) (ms_35 E q3) e8 dX10_take_23 ?_
  intro H locs hP hD hS
  refine lv_aload_n hx hb dX10_take_24 rfl (lv_at hl 0 rfl) ?_
  refine r_get F hP i_X10 0 (me_0 E q7) rfl 46 (by decide) rfl lf_X10_126 rfl dX10_take_25 ?_
  refine lv_iload_n hx hb dX10_take_28 rfl (lv_at hl 2 rfl) ?_
  refine lv_aload_n hx hb dX10_take_29 rfl (lv_at hl 0 rfl) ?_
  refine r_get F hP i_X10 0 (me_0 E q7) rfl 21 (by decide) rfl lf_X10_68 rfl dX10_take_30 ?_
  refine lv_iload_n hx hb dX10_take_33 rfl (lv_at hl 1 rfl) ?_
  obtain ⟨y9, e10, h⟩ := Option.bind_eq_some_iff.mp h
  refine r_iald F hP 19 (me_19 E q7) e10 dX10_take_34 ?_
  obtain ⟨q11, e12, h⟩ := Option.bind_eq_some_iff.mp h
  refine r_iast F hP hD hS 36 (me_36 E q7) (ms_36 E q7) e12 dX10_take_35 ?_
  intro H locs hP hD hS
  refine lv_iconst (v := 0) hx hb dX10_take_36 (by decide) ?_
  refine lv_istore_n (lv' := [(3, .int (0 : Int32)), (0, .ref (eA E 0)), (1, .int x1), (2, .int x2)]) hx hb dX10_take_37 rfl hl (by decide) rfl (fun ls hl => ?_)
  exact g_X10_take_38 F hA hRt FU q11 x1 x2 (0 : Int32) h _ (lv_sub hl [1, 2, 3, 0] rfl) _ _ hP hD hS
def f_X10_take (q : QS) (x1 : Int32) (x2 : Int32) : Option (QS) := f_X10_take_0 q x1 x2
set_option maxRecDepth 100000 in
theorem c_X10_take {E : En} {l : Launch} (q : QS) (x1 : Int32) (x2 : Int32) {o : QS} (h : f_X10_take q x1 x2 = some o) : Ct (wM E) E l yX10_take (wy yX10_take cX10_take 4 none) rm_X10_take q o [.ref (eA E 0), .int x1, .int x2] none :=
  ct_V (o := o) (by decide +kernel) (fun p e s m below meth c A Q F hA hRt H locs hP hD hS => en_W [.ref (eA E 0), .int x1, .int x2] (Nat.le_of_ble_eq_true rfl) (fun ls hl => g_X10_take_0 F hA hRt q x1 x2 h ls (lv_sub hl [0, 1, 2] rfl) H locs hP hD hS))
def rm_X10_compare : Room := { frames := 4, cells := 0, slots := 0, locals := 102 }
def f_X10_compare_42 (q : QS) : Option (Int32 × QS) :=
  (rd (qI q 34) 2 (0 : Int32)).bind fun y12 =>
  (rd (qI q 34) 2 (1 : Int32)).bind fun y14 =>
  if y12 = y14 then
    some ((0 : Int32), q)
  else
    (rd (qI q 34) 2 (0 : Int32)).bind fun y17 =>
    if y17 = 0 then
      some ((-1 : Int32), q)
    else
      some ((1 : Int32), q)
set_option maxHeartbeats 4000000 in
set_option maxRecDepth 100000 in
theorem g_X10_compare_42 {E : En} {p : Program} {l : Launch} {e : Env} {s : State} {m : MethodId} {args : Array Value} {below : List Frame} {meth : Method} {c : Code} {A : Nat → Prop} {Q : State → Prop} (F : Fx E p s m args meth c (yX10_compare).cls cX10_compare 6 (some .int)) (hA : ∀ z : Nat, s.heap.size ≤ z → A z) {o : Int32 × QS} (hRt : RtI (wM E) E p l e rm_X10_compare s m args below meth c A Q cX10_compare o) (q : QS) (h : f_X10_compare_42 q = some o) (ls : Array Slot) (hl : lv_has ls 6 [(0, .ref (eA E 0))]) : Wq (wM E) E p l e rm_X10_compare s m args below meth c A 0 0 Q q (F0 m 42 ls []) := by
  intro H locs hP hD hS
  have hx := F.1
  have hb := F.2.1
  unfold f_X10_compare_42 at h
  refine lv_aload_n hx hb dX10_compare_42 rfl (lv_at hl 0 rfl) ?_
  refine r_get F hP i_X10 0 (me_0 E q) rfl 44 (by decide) rfl lf_X10_120 rfl dX10_compare_43 ?_
  refine lv_iconst (v := 0) hx hb dX10_compare_46 (by decide) ?_
  obtain ⟨y12, e13, h⟩ := Option.bind_eq_some_iff.mp h
  refine r_zald F hP 34 (me_34 E q) e13 dX10_compare_47 ?_
  refine lv_aload_n hx hb dX10_compare_48 rfl (lv_at hl 0 rfl) ?_
  refine r_get F hP i_X10 0 (me_0 E q) rfl 44 (by decide) rfl lf_X10_120 rfl dX10_compare_49 ?_
  refine lv_iconst (v := 1) hx hb dX10_compare_52 (by decide) ?_
  obtain ⟨y14, e15, h⟩ := Option.bind_eq_some_iff.mp h
  refine r_zald F hP 34 (me_34 E q) e15 dX10_compare_53 ?_
  refine lv_icmp_ne (tgt := 61) hx hb dX10_compare_54 (by decide) (fun c16 => ?_) (fun c16 => ?_)
  · rw [if_neg c16] at h
    refine lv_aload_n hx hb dX10_compare_61 rfl (lv_at hl 0 rfl) ?_
    refine r_get F hP i_X10 0 (me_0 E q) rfl 44 (by decide) rfl lf_X10_120 rfl dX10_compare_62 ?_
    refine lv_iconst (v := 0) hx hb dX10_compare_65 (by decide) ?_
    obtain ⟨y17, e18, h⟩ := Option.bind_eq_some_iff.mp h
    refine r_zald F hP 34 (me_34 E q) e18 dX10_compare_66 ?_
    refine lv_if_eq (tgt := 74) hx hb dX10_compare_67 (by decide) (fun c19 => ?_) (fun c19 => ?_)
    · rw [if_pos c19] at h
      refine lv_iconst (v := (-1)) hx hb dX10_compare_74 (by decide) ?_
      cases h
      exact hRt _ _ dX10_compare_75 _ _ hP hD hS
    · rw [if_neg c19] at h
      refine lv_iconst (v := 1) hx hb dX10_compare_70 (by decide) ?_
      refine lv_goto (tgt := 75) hx hb dX10_compare_71 (by decide) ?_
      cases h
      exact hRt _ _ dX10_compare_75 _ _ hP hD hS
  · rw [if_pos c16] at h
    refine lv_iconst (v := 0) hx hb dX10_compare_57 (by decide) ?_
    refine lv_goto (tgt := 75) hx hb dX10_compare_58 (by decide) ?_
    cases h
    exact hRt _ _ dX10_compare_75 _ _ hP hD hS
def f_X10_compare_96_b (K142 : QS → Int32 → Option (Int32 × QS)) (B96 : QS → Int32 → Int32 → Option (Int32 × QS)) (q : QS) (x4 : Int32) (x5 : Int32) : Option (Int32 × QS) :=
  if (4 : Int32) ≤ x5 then
    K142 q x4
  else
    if x4 = 0 then
      (rd (qL q 37) 8 x5).bind fun y31 =>
      (rd (qL q 37) 8 ((4 : Int32) + x5)).bind fun y33 =>
      (f_X10_sign (y31 ^^^ (-9223372036854775808 : Int64)) (y33 ^^^ (-9223372036854775808 : Int64))).bind fun r35 =>
      B96 q r35 (x5 + (1 : Int32))
    else
      K142 q x4
set_option maxHeartbeats 4000000 in
set_option maxRecDepth 100000 in
theorem g_X10_compare_96_b {E : En} {p : Program} {l : Launch} {e : Env} {s : State} {m : MethodId} {args : Array Value} {below : List Frame} {meth : Method} {c : Code} {A : Nat → Prop} {Q : State → Prop} (F : Fx E p s m args meth c (yX10_compare).cls cX10_compare 6 (some .int)) (hA : ∀ z : Nat, s.heap.size ≤ z → A z) {o : Int32 × QS} (hRt : RtI (wM E) E p l e rm_X10_compare s m args below meth c A Q cX10_compare o) {K142 : QS → Int32 → Option (Int32 × QS)} {B96 : QS → Int32 → Int32 → Option (Int32 × QS)} (hK142 : ∀ (q : QS) (x4 : Int32), K142 q x4 = some o → ∀ ls : Array Slot, lv_has ls 6 [(0, .ref (eA E 0)), (4, .int x4)] → Wq (wM E) E p l e rm_X10_compare s m args below meth c A 0 0 Q q (F0 m 142 ls [])) (hB96 : ∀ (q : QS) (x4 : Int32) (x5 : Int32), B96 q x4 x5 = some o → ∀ ls : Array Slot, lv_has ls 6 [(0, .ref (eA E 0)), (4, .int x4), (5, .int x5)] → Wq (wM E) E p l e rm_X10_compare s m args below meth c A 0 0 Q q (F0 m 96 ls [])) (q : QS) (x4 : Int32) (x5 : Int32) (h : f_X10_compare_96_b K142 B96 q x4 x5 = some o) (ls : Array Slot) (hl : lv_has ls 6 [(0, .ref (eA E 0)), (4, .int x4), (5, .int x5)]) : Wq (wM E) E p l e rm_X10_compare s m args below meth c A 0 0 Q q (F0 m 96 ls []) := by
  intro H locs hP hD hS
  have hx := F.1
  have hb := F.2.1
  unfold f_X10_compare_96_b at h
  refine lv_iload hx hb dX10_compare_96 (lv_at hl 2 rfl) ?_
  refine lv_iconst (v := 4) hx hb dX10_compare_98 (by decide) ?_
  refine lv_icmp_ge (tgt := 142) hx hb dX10_compare_99 (by decide) (fun c29 => ?_) (fun c29 => ?_)
  · rw [if_pos c29] at h
    exact hK142 q x4 h _ (lv_sub hl [0, 1] rfl) _ _ hP hD hS
  · rw [if_neg c29] at h
    refine lv_iload hx hb dX10_compare_102 (lv_at hl 1 rfl) ?_
    refine lv_if_ne (tgt := 142) hx hb dX10_compare_104 (by decide) (fun c30 => ?_) (fun c30 => ?_)
    · rw [if_neg c30] at h
      exact hK142 q x4 h _ (lv_sub hl [0, 1] rfl) _ _ hP hD hS
    · rw [if_pos c30] at h
      refine lv_aload_n hx hb dX10_compare_107 rfl (lv_at hl 0 rfl) ?_
      refine r_get F hP i_X10 0 (me_0 E q) rfl 47 (by decide) rfl lf_X10_129 rfl dX10_compare_108 ?_
      refine lv_iload hx hb dX10_compare_111 (lv_at hl 2 rfl) ?_
      obtain ⟨y31, e32, h⟩ := Option.bind_eq_some_iff.mp h
      refine r_lald F hP 37 (me_37 E q) e32 dX10_compare_113 ?_
      refine lv_ldc2 (v := (-9223372036854775808)) hx hb F.2.2.2.1 (F.2.2.2.2.1 _ lc_X10_210) dX10_compare_114 ?_
      refine lv_lxor hx hb dX10_compare_117 ?_
      refine lv_aload_n hx hb dX10_compare_118 rfl (lv_at hl 0 rfl) ?_
      refine r_get F hP i_X10 0 (me_0 E q) rfl 47 (by decide) rfl lf_X10_129 rfl dX10_compare_119 ?_
      refine lv_iconst (v := 4) hx hb dX10_compare_122 (by decide) ?_
      refine lv_iload hx hb dX10_compare_123 (lv_at hl 2 rfl) ?_
      refine lv_iadd hx hb dX10_compare_125 ?_
      obtain ⟨y33, e34, h⟩ := Option.bind_eq_some_iff.mp h
      refine r_lald F hP 37 (me_37 E q) e34 dX10_compare_126 ?_
      refine lv_ldc2 (v := (-9223372036854775808)) hx hb F.2.2.2.1 (F.2.2.2.2.1 _ lc_X10_210) dX10_compare_127 ?_
      refine lv_lxor hx hb dX10_compare_130 ?_
      obtain ⟨r35, e36, h⟩ := Option.bind_eq_some_iff.mp h
      refine q_callS (As := [.long (y31 ^^^ (-9223372036854775808 : Int64)), .long (y33 ^^^ (-9223372036854775808 : Int64))]) (rest := []) F hA hP hD hS (c_X10_sign (E := E) (l := l) q (y31 ^^^ (-9223372036854775808 : Int64)) (y33 ^^^ (-9223372036854775808 : Int64)) e36) k_X10_sign st_X10_sign lm_X10_206 ⟨rfl, rfl⟩ ⟨by decide, by decide⟩ rfl hl.1 rfl (Nat.le_of_ble_eq_true rfl) dX10_compare_131 ⟨by decide, by decide⟩ ?_
      intro H locs hP hD hS
      refine lv_istore (lv' := [(4, .int r35), (0, .ref (eA E 0)), (5, .int x5)]) hx hb dX10_compare_134 hl (by decide) rfl (fun ls hl => ?_)
      refine lv_iinc (v := (x5 + (1 : Int32))) (lv' := [(5, .int (x5 + (1 : Int32))), (4, .int r35), (0, .ref (eA E 0))]) hx hb dX10_compare_136 hl (k := 2) rfl rfl (by decide) rfl (fun ls hl => ?_)
      refine lv_goto (tgt := 96) hx hb dX10_compare_139 (by decide) ?_
      exact hB96 q r35 (x5 + (1 : Int32)) h _ (lv_sub hl [2, 1, 0] rfl) _ _ hP hD hS
def f_X10_compare_96 (K142 : QS → Int32 → Option (Int32 × QS)) : Nat → QS → Int32 → Int32 → Option (Int32 × QS)
  | 0 => fun _ _ _ => none
  | n + 1 => f_X10_compare_96_b K142 (f_X10_compare_96 K142 n)
theorem g_X10_compare_96 {E : En} {p : Program} {l : Launch} {e : Env} {s : State} {m : MethodId} {args : Array Value} {below : List Frame} {meth : Method} {c : Code} {A : Nat → Prop} {Q : State → Prop} (F : Fx E p s m args meth c (yX10_compare).cls cX10_compare 6 (some .int)) (hA : ∀ z : Nat, s.heap.size ≤ z → A z) {o : Int32 × QS} (hRt : RtI (wM E) E p l e rm_X10_compare s m args below meth c A Q cX10_compare o) {K142 : QS → Int32 → Option (Int32 × QS)} (hK142 : ∀ (q : QS) (x4 : Int32), K142 q x4 = some o → ∀ ls : Array Slot, lv_has ls 6 [(0, .ref (eA E 0)), (4, .int x4)] → Wq (wM E) E p l e rm_X10_compare s m args below meth c A 0 0 Q q (F0 m 142 ls [])) (n : Nat) : ∀ (q : QS) (x4 : Int32) (x5 : Int32), f_X10_compare_96 K142 n q x4 x5 = some o → ∀ ls : Array Slot, lv_has ls 6 [(0, .ref (eA E 0)), (4, .int x4), (5, .int x5)] → Wq (wM E) E p l e rm_X10_compare s m args below meth c A 0 0 Q q (F0 m 96 ls []) := by
  induction n with
  | zero => intro q x4 x5 h; cases h
  | succ n ih => intro q x4 x5 h; exact g_X10_compare_96_b F hA hRt hK142 ih q x4 x5 h
def f_X10_compare_142 (q : QS) (x4 : Int32) : Option (Int32 × QS) :=
  if x4 = 0 then
    (rd (qI q 36) 2 (0 : Int32)).bind fun y38 =>
    (rd (qI q 36) 2 (1 : Int32)).bind fun y40 =>
    (f_X10_sign ((y38).toInt64) ((y40).toInt64)).bind fun r42 =>
    some (r42, q)
  else
    some (x4, q)
set_option maxHeartbeats 4000000 in
set_option maxRecDepth 100000 in
theorem g_X10_compare_142 {E : En} {p : Program} {l : Launch} {e : Env} {s : State} {m : MethodId} {args : Array Value} {below : List Frame} {meth : Method} {c : Code} {A : Nat → Prop} {Q : State → Prop} (F : Fx E p s m args meth c (yX10_compare).cls cX10_compare 6 (some .int)) (hA : ∀ z : Nat, s.heap.size ≤ z → A z) {o : Int32 × QS} (hRt : RtI (wM E) E p l e rm_X10_compare s m args below meth c A Q cX10_compare o) (q : QS) (x4 : Int32) (h : f_X10_compare_142 q x4 = some o) (ls : Array Slot) (hl : lv_has ls 6 [(0, .ref (eA E 0)), (4, .int x4)]) : Wq (wM E) E p l e rm_X10_compare s m args below meth c A 0 0 Q q (F0 m 142 ls []) := by
  intro H locs hP hD hS
  have hx := F.1
  have hb := F.2.1
  unfold f_X10_compare_142 at h
  refine lv_iload hx hb dX10_compare_142 (lv_at hl 1 rfl) ?_
  refine lv_if_eq (tgt := 152) hx hb dX10_compare_144 (by decide) (fun c37 => ?_) (fun c37 => ?_)
  · rw [if_pos c37] at h
    refine lv_aload_n hx hb dX10_compare_152 rfl (lv_at hl 0 rfl) ?_
    refine r_get F hP i_X10 0 (me_0 E q) rfl 46 (by decide) rfl lf_X10_126 rfl dX10_compare_153 ?_
    refine lv_iconst (v := 0) hx hb dX10_compare_156 (by decide) ?_
    obtain ⟨y38, e39, h⟩ := Option.bind_eq_some_iff.mp h
    refine r_iald F hP 36 (me_36 E q) e39 dX10_compare_157 ?_
    refine lv_i2l (v := ((y38).toInt64)) hx hb dX10_compare_158 rfl ?_
    refine lv_aload_n hx hb dX10_compare_159 rfl (lv_at hl 0 rfl) ?_
    refine r_get F hP i_X10 0 (me_0 E q) rfl 46 (by decide) rfl lf_X10_126 rfl dX10_compare_160 ?_
    refine lv_iconst (v := 1) hx hb dX10_compare_163 (by decide) ?_
    obtain ⟨y40, e41, h⟩ := Option.bind_eq_some_iff.mp h
    refine r_iald F hP 36 (me_36 E q) e41 dX10_compare_164 ?_
    refine lv_i2l (v := ((y40).toInt64)) hx hb dX10_compare_165 rfl ?_
    obtain ⟨r42, e43, h⟩ := Option.bind_eq_some_iff.mp h
    refine q_callS (As := [.long ((y38).toInt64), .long ((y40).toInt64)]) (rest := []) F hA hP hD hS (c_X10_sign (E := E) (l := l) q ((y38).toInt64) ((y40).toInt64) e43) k_X10_sign st_X10_sign lm_X10_206 ⟨rfl, rfl⟩ ⟨by decide, by decide⟩ rfl hl.1 rfl (Nat.le_of_ble_eq_true rfl) dX10_compare_166 ⟨by decide, by decide⟩ ?_
    intro H locs hP hD hS
    cases h
    exact hRt _ _ dX10_compare_169 _ _ hP hD hS
  · rw [if_neg c37] at h
    refine lv_iload hx hb dX10_compare_147 (lv_at hl 1 rfl) ?_
    refine lv_goto (tgt := 169) hx hb dX10_compare_149 (by decide) ?_
    cases h
    exact hRt _ _ dX10_compare_169 _ _ hP hD hS
def f_X10_compare_0 (q : QS) (x1 : Int32) (x2 : Int32) (x3 : Int32) : Option (Int32 × QS) :=
  (f_X10_evaluate q x1 x2).bind fun r1 =>
  (f_X10_take r1 x1 (0 : Int32)).bind fun r3 =>
  (f_X10_evaluate r3 x1 x3).bind fun r5 =>
  (f_X10_take r5 x1 (1 : Int32)).bind fun r7 =>
  (rd (qI r7 34) 2 (0 : Int32)).bind fun y9 =>
  if y9 = 0 then
    (rd (qI r7 34) 2 (1 : Int32)).bind fun y20 =>
    if y20 = 0 then
      (rd (qL r7 35) 2 (0 : Int32)).bind fun y23 =>
      (rd (qL r7 35) 2 (1 : Int32)).bind fun y25 =>
      (f_X10_sign y23 y25).bind fun r27 =>
      f_X10_compare_96 (f_X10_compare_142) FU r7 r27 (0 : Int32)
    else
      f_X10_compare_42 r7
  else
    f_X10_compare_42 r7
set_option maxHeartbeats 4000000 in
set_option maxRecDepth 100000 in
theorem g_X10_compare_0 {E : En} {p : Program} {l : Launch} {e : Env} {s : State} {m : MethodId} {args : Array Value} {below : List Frame} {meth : Method} {c : Code} {A : Nat → Prop} {Q : State → Prop} (F : Fx E p s m args meth c (yX10_compare).cls cX10_compare 6 (some .int)) (hA : ∀ z : Nat, s.heap.size ≤ z → A z) {o : Int32 × QS} (hRt : RtI (wM E) E p l e rm_X10_compare s m args below meth c A Q cX10_compare o) (q : QS) (x1 : Int32) (x2 : Int32) (x3 : Int32) (h : f_X10_compare_0 q x1 x2 x3 = some o) (ls : Array Slot) (hl : lv_has ls 6 [(0, .ref (eA E 0)), (1, .int x1), (2, .int x2), (3, .int x3)]) : Wq (wM E) E p l e rm_X10_compare s m args below meth c A 0 0 Q q (F0 m 0 ls []) := by
  intro H locs hP hD hS
  have hx := F.1
  have hb := F.2.1
  unfold f_X10_compare_0 at h
  refine lv_aload_n hx hb dX10_compare_0 rfl (lv_at hl 0 rfl) ?_
  refine lv_iload_n hx hb dX10_compare_1 rfl (lv_at hl 1 rfl) ?_
  refine lv_iload_n hx hb dX10_compare_2 rfl (lv_at hl 2 rfl) ?_
  obtain ⟨r1, e2, h⟩ := Option.bind_eq_some_iff.mp h
  refine q_callV (As := [.int x1, .int x2]) (rest := []) F hA hP hD hS (c_X10_evaluate (E := E) (l := l) q x1 x2 e2) k_X10_evaluate in_X10_evaluate se_X10_evaluate lm_X10_256 0 (me_0 E q) rfl ⟨rfl, rfl⟩ ⟨by decide, by decide⟩ rfl hl.1 rfl (Nat.le_of_ble_eq_true rfl) dX10_compare_3 ⟨by decide, by decide⟩ ?_
  intro H locs hP hD hS
  refine lv_aload_n hx hb dX10_compare_6 rfl (lv_at hl 0 rfl) ?_
  refine lv_iload_n hx hb dX10_compare_7 rfl (lv_at hl 1 rfl) ?_
  refine lv_iconst (v := 0) hx hb dX10_compare_8 (by decide) ?_
  obtain ⟨r3, e4, h⟩ := Option.bind_eq_some_iff.mp h
  refine q_callV (As := [.int x1, .int (0 : Int32)]) (rest := []) F hA hP hD hS (c_X10_take (E := E) (l := l) r1 x1 (0 : Int32) e4) k_X10_take in_X10_take se_X10_take lm_X10_259 0 (me_0 E r1) rfl ⟨rfl, rfl⟩ ⟨by decide, by decide⟩ rfl hl.1 rfl (Nat.le_of_ble_eq_true rfl) dX10_compare_9 ⟨by decide, by decide⟩ ?_
  intro H locs hP hD hS
  refine lv_aload_n hx hb dX10_compare_12 rfl (lv_at hl 0 rfl) ?_
  refine lv_iload_n hx hb dX10_compare_13 rfl (lv_at hl 1 rfl) ?_
  refine lv_iload_n hx hb dX10_compare_14 rfl (lv_at hl 3 rfl) ?_
  obtain ⟨r5, e6, h⟩ := Option.bind_eq_some_iff.mp h
  refine q_callV (As := [.int x1, .int x3]) (rest := []) F hA hP hD hS (c_X10_evaluate (E := E) (l := l) r3 x1 x3 e6) k_X10_evaluate in_X10_evaluate se_X10_evaluate lm_X10_256 0 (me_0 E r3) rfl ⟨rfl, rfl⟩ ⟨by decide, by decide⟩ rfl hl.1 rfl (Nat.le_of_ble_eq_true rfl) dX10_compare_15 ⟨by decide, by decide⟩ ?_
  intro H locs hP hD hS
  refine lv_aload_n hx hb dX10_compare_18 rfl (lv_at hl 0 rfl) ?_
  refine lv_iload_n hx hb dX10_compare_19 rfl (lv_at hl 1 rfl) ?_
  refine lv_iconst (v := 1) hx hb dX10_compare_20 (by decide) ?_
  obtain ⟨r7, e8, h⟩ := Option.bind_eq_some_iff.mp h
  refine q_callV (As := [.int x1, .int (1 : Int32)]) (rest := []) F hA hP hD hS (c_X10_take (E := E) (l := l) r5 x1 (1 : Int32) e8) k_X10_take in_X10_take se_X10_take lm_X10_259 0 (me_0 E r5) rfl ⟨rfl, rfl⟩ ⟨by decide, by decide⟩ rfl hl.1 rfl (Nat.le_of_ble_eq_true rfl) dX10_compare_21 ⟨by decide, by decide⟩ ?_
  intro H locs hP hD hS
  refine lv_aload_n hx hb dX10_compare_24 rfl (lv_at hl 0 rfl) ?_
  refine r_get F hP i_X10 0 (me_0 E r7) rfl 44 (by decide) rfl lf_X10_120 rfl dX10_compare_25 ?_
  refine lv_iconst (v := 0) hx hb dX10_compare_28 (by decide) ?_
  obtain ⟨y9, e10, h⟩ := Option.bind_eq_some_iff.mp h
  refine r_zald F hP 34 (me_34 E r7) e10 dX10_compare_29 ?_
  refine lv_if_ne (tgt := 42) hx hb dX10_compare_30 (by decide) (fun c11 => ?_) (fun c11 => ?_)
  · rw [if_neg c11] at h
    exact g_X10_compare_42 F hA hRt r7 h _ (lv_sub hl [0] rfl) _ _ hP hD hS
  · rw [if_pos c11] at h
    refine lv_aload_n hx hb dX10_compare_33 rfl (lv_at hl 0 rfl) ?_
    refine r_get F hP i_X10 0 (me_0 E r7) rfl 44 (by decide) rfl lf_X10_120 rfl dX10_compare_34 ?_
    refine lv_iconst (v := 1) hx hb dX10_compare_37 (by decide) ?_
    obtain ⟨y20, e21, h⟩ := Option.bind_eq_some_iff.mp h
    refine r_zald F hP 34 (me_34 E r7) e21 dX10_compare_38 ?_
    refine lv_if_eq (tgt := 76) hx hb dX10_compare_39 (by decide) (fun c22 => ?_) (fun c22 => ?_)
    · rw [if_pos c22] at h
      refine lv_aload_n hx hb dX10_compare_76 rfl (lv_at hl 0 rfl) ?_
      refine r_get F hP i_X10 0 (me_0 E r7) rfl 45 (by decide) rfl lf_X10_123 rfl dX10_compare_77 ?_
      refine lv_iconst (v := 0) hx hb dX10_compare_80 (by decide) ?_
      obtain ⟨y23, e24, h⟩ := Option.bind_eq_some_iff.mp h
      refine r_lald F hP 35 (me_35 E r7) e24 dX10_compare_81 ?_
      refine lv_aload_n hx hb dX10_compare_82 rfl (lv_at hl 0 rfl) ?_
      refine r_get F hP i_X10 0 (me_0 E r7) rfl 45 (by decide) rfl lf_X10_123 rfl dX10_compare_83 ?_
      refine lv_iconst (v := 1) hx hb dX10_compare_86 (by decide) ?_
      obtain ⟨y25, e26, h⟩ := Option.bind_eq_some_iff.mp h
      refine r_lald F hP 35 (me_35 E r7) e26 dX10_compare_87 ?_
      obtain ⟨r27, e28, h⟩ := Option.bind_eq_some_iff.mp h
      refine q_callS (As := [.long y23, .long y25]) (rest := []) F hA hP hD hS (c_X10_sign (E := E) (l := l) r7 y23 y25 e28) k_X10_sign st_X10_sign lm_X10_206 ⟨rfl, rfl⟩ ⟨by decide, by decide⟩ rfl hl.1 rfl (Nat.le_of_ble_eq_true rfl) dX10_compare_88 ⟨by decide, by decide⟩ ?_
      intro H locs hP hD hS
      refine lv_istore (lv' := [(4, .int r27), (0, .ref (eA E 0)), (1, .int x1), (2, .int x2), (3, .int x3)]) hx hb dX10_compare_91 hl (by decide) rfl (fun ls hl => ?_)
      refine lv_iconst (v := 0) hx hb dX10_compare_93 (by decide) ?_
      refine lv_istore (lv' := [(5, .int (0 : Int32)), (4, .int r27), (0, .ref (eA E 0)), (1, .int x1), (2, .int x2), (3, .int x3)]) hx hb dX10_compare_94 hl (by decide) rfl (fun ls hl => ?_)
      exact g_X10_compare_96 F hA hRt (g_X10_compare_142 F hA hRt) FU r7 r27 (0 : Int32) h _ (lv_sub hl [2, 1, 0] rfl) _ _ hP hD hS
    · rw [if_neg c22] at h
      exact g_X10_compare_42 F hA hRt r7 h _ (lv_sub hl [0] rfl) _ _ hP hD hS
def f_X10_compare (q : QS) (x1 : Int32) (x2 : Int32) (x3 : Int32) : Option (Int32 × QS) := f_X10_compare_0 q x1 x2 x3
set_option maxRecDepth 100000 in
theorem c_X10_compare {E : En} {l : Launch} (q : QS) (x1 : Int32) (x2 : Int32) (x3 : Int32) {o : Int32 × QS} (h : f_X10_compare q x1 x2 x3 = some o) : Ct (wM E) E l yX10_compare (wy yX10_compare cX10_compare 6 (some .int)) rm_X10_compare q o.2 [.ref (eA E 0), .int x1, .int x2, .int x3] (some (.int o.1)) :=
  ct_I (o := o) (by decide +kernel) rfl (fun p e s m below meth c A Q F hA hRt H locs hP hD hS => en_W [.ref (eA E 0), .int x1, .int x2, .int x3] (Nat.le_of_ble_eq_true rfl) (fun ls hl => g_X10_compare_0 F hA hRt q x1 x2 x3 h ls (lv_sub hl [0, 1, 2, 3] rfl) H locs hP hD hS))
def rm_X10_isGathered : Room := { frames := 0, cells := 0, slots := 0, locals := 0 }
def f_X10_isGathered_46 (q : QS) (B15 : Int32 → Int32 → Option (Int32)) (x2 : Int32) (t0 : Int32) : Option (Int32) :=
  B15 t0 (x2 + (1 : Int32))
set_option maxHeartbeats 4000000 in
set_option maxRecDepth 100000 in
theorem g_X10_isGathered_46 {E : En} {p : Program} {l : Launch} {e : Env} {s : State} {m : MethodId} {args : Array Value} {below : List Frame} {meth : Method} {c : Code} {A : Nat → Prop} {Q : State → Prop} (F : Fx E p s m args meth c (yX10_isGathered).cls cX10_isGathered 3 (some .boolean)) (hA : ∀ z : Nat, s.heap.size ≤ z → A z) {q : QS} {o : Int32} (hRt : RtZ (wM E) E p l e rm_X10_isGathered s m args below meth c A Q cX10_isGathered (o, q)) {B15 : Int32 → Int32 → Option (Int32)} (hB15 : ∀ (x1 : Int32) (x2 : Int32), B15 x1 x2 = some o → ∀ ls : Array Slot, lv_has ls 3 [(0, .ref (eA E 0)), (1, .int x1), (2, .int x2)] → Wq (wM E) E p l e rm_X10_isGathered s m args below meth c A 0 0 Q q (F0 m 15 ls [])) (x2 : Int32) (t0 : Int32) (h : f_X10_isGathered_46 q B15 x2 t0 = some o) (ls : Array Slot) (hl : lv_has ls 3 [(0, .ref (eA E 0)), (2, .int x2)]) : Wq (wM E) E p l e rm_X10_isGathered s m args below meth c A 0 0 Q q (F0 m 46 ls [.int t0]) := by
  intro H locs hP hD hS
  have hx := F.1
  have hb := F.2.1
  unfold f_X10_isGathered_46 at h
  refine lv_istore_n (lv' := [(1, .int t0), (0, .ref (eA E 0)), (2, .int x2)]) hx hb dX10_isGathered_46 rfl hl (by decide) rfl (fun ls hl => ?_)
  refine lv_iinc (v := (x2 + (1 : Int32))) (lv' := [(2, .int (x2 + (1 : Int32))), (1, .int t0), (0, .ref (eA E 0))]) hx hb dX10_isGathered_47 hl (k := 2) rfl rfl (by decide) rfl (fun ls hl => ?_)
  refine lv_goto (tgt := 15) hx hb dX10_isGathered_50 (by decide) ?_
  exact hB15 t0 (x2 + (1 : Int32)) h _ (lv_sub hl [2, 1, 0] rfl) _ _ hP hD hS
def f_X10_isGathered_41 (q : QS) (B15 : Int32 → Int32 → Option (Int32)) (x2 : Int32) : Option (Int32) :=
  f_X10_isGathered_46 q B15 x2 (1 : Int32)
set_option maxHeartbeats 4000000 in
set_option maxRecDepth 100000 in
theorem g_X10_isGathered_41 {E : En} {p : Program} {l : Launch} {e : Env} {s : State} {m : MethodId} {args : Array Value} {below : List Frame} {meth : Method} {c : Code} {A : Nat → Prop} {Q : State → Prop} (F : Fx E p s m args meth c (yX10_isGathered).cls cX10_isGathered 3 (some .boolean)) (hA : ∀ z : Nat, s.heap.size ≤ z → A z) {q : QS} {o : Int32} (hRt : RtZ (wM E) E p l e rm_X10_isGathered s m args below meth c A Q cX10_isGathered (o, q)) {B15 : Int32 → Int32 → Option (Int32)} (hB15 : ∀ (x1 : Int32) (x2 : Int32), B15 x1 x2 = some o → ∀ ls : Array Slot, lv_has ls 3 [(0, .ref (eA E 0)), (1, .int x1), (2, .int x2)] → Wq (wM E) E p l e rm_X10_isGathered s m args below meth c A 0 0 Q q (F0 m 15 ls [])) (x2 : Int32) (h : f_X10_isGathered_41 q B15 x2 = some o) (ls : Array Slot) (hl : lv_has ls 3 [(0, .ref (eA E 0)), (2, .int x2)]) : Wq (wM E) E p l e rm_X10_isGathered s m args below meth c A 0 0 Q q (F0 m 41 ls []) := by
  intro H locs hP hD hS
  have hx := F.1
  have hb := F.2.1
  unfold f_X10_isGathered_41 at h
  refine lv_iconst (v := 1) hx hb dX10_isGathered_41 (by decide) ?_
  refine lv_goto (tgt := 46) hx hb dX10_isGathered_42 (by decide) ?_
  exact g_X10_isGathered_46 F hA hRt hB15 x2 (1 : Int32) h _ (lv_sub hl [0, 1] rfl) _ _ hP hD hS
def f_X10_isGathered_15_b (q : QS) (B15 : Int32 → Int32 → Option (Int32)) (x1 : Int32) (x2 : Int32) : Option (Int32) :=
  if (qF q 4) ≤ x2 then
    if vp_nar .boolean x1 = x1 then some x1 else none
  else
    if x1 = 0 then
      (rd (qI q 26) 8 x2).bind fun y5 =>
      (rd (qI q 15) 200 y5).bind fun y7 =>
      if y7 = 0 then
        f_X10_isGathered_46 q B15 x2 (0 : Int32)
      else
        f_X10_isGathered_41 q B15 x2
    else
      f_X10_isGathered_41 q B15 x2
set_option maxHeartbeats 4000000 in
set_option maxRecDepth 100000 in
theorem g_X10_isGathered_15_b {E : En} {p : Program} {l : Launch} {e : Env} {s : State} {m : MethodId} {args : Array Value} {below : List Frame} {meth : Method} {c : Code} {A : Nat → Prop} {Q : State → Prop} (F : Fx E p s m args meth c (yX10_isGathered).cls cX10_isGathered 3 (some .boolean)) (hA : ∀ z : Nat, s.heap.size ≤ z → A z) {q : QS} {o : Int32} (hRt : RtZ (wM E) E p l e rm_X10_isGathered s m args below meth c A Q cX10_isGathered (o, q)) {B15 : Int32 → Int32 → Option (Int32)} (hB15 : ∀ (x1 : Int32) (x2 : Int32), B15 x1 x2 = some o → ∀ ls : Array Slot, lv_has ls 3 [(0, .ref (eA E 0)), (1, .int x1), (2, .int x2)] → Wq (wM E) E p l e rm_X10_isGathered s m args below meth c A 0 0 Q q (F0 m 15 ls [])) (x1 : Int32) (x2 : Int32) (h : f_X10_isGathered_15_b q B15 x1 x2 = some o) (ls : Array Slot) (hl : lv_has ls 3 [(0, .ref (eA E 0)), (1, .int x1), (2, .int x2)]) : Wq (wM E) E p l e rm_X10_isGathered s m args below meth c A 0 0 Q q (F0 m 15 ls []) := by
  intro H locs hP hD hS
  have hx := F.1
  have hb := F.2.1
  unfold f_X10_isGathered_15_b at h
  refine lv_iload_n hx hb dX10_isGathered_15 rfl (lv_at hl 2 rfl) ?_
  refine lv_aload_n hx hb dX10_isGathered_16 rfl (lv_at hl 0 rfl) ?_
  refine r_get F hP i_X10 0 (me_0 E q) rfl 29 (by decide) rfl lf_X10_150 rfl dX10_isGathered_17 ?_
  refine lv_icmp_ge (tgt := 53) hx hb dX10_isGathered_20 (by decide) (fun c2 => ?_) (fun c2 => ?_)
  · rw [if_pos c2] at h
    refine lv_iload_n hx hb dX10_isGathered_53 rfl (lv_at hl 1 rfl) ?_
    by_cases z3 : vp_nar .boolean x1 = x1
    rotate_left
    · rw [if_neg z3] at h; cases h
    rw [if_pos z3] at h
    cases h
    exact hRt _ _ z3 dX10_isGathered_54 _ _ hP hD hS
  · rw [if_neg c2] at h
    refine lv_iload_n hx hb dX10_isGathered_23 rfl (lv_at hl 1 rfl) ?_
    refine lv_if_ne (tgt := 41) hx hb dX10_isGathered_24 (by decide) (fun c4 => ?_) (fun c4 => ?_)
    · rw [if_neg c4] at h
      exact g_X10_isGathered_41 F hA hRt hB15 x2 h _ (lv_sub hl [0, 2] rfl) _ _ hP hD hS
    · rw [if_pos c4] at h
      refine lv_aload_n hx hb dX10_isGathered_27 rfl (lv_at hl 0 rfl) ?_
      refine r_get F hP i_X10 0 (me_0 E q) rfl 17 (by decide) rfl lf_X10_55 rfl dX10_isGathered_28 ?_
      refine lv_aload_n hx hb dX10_isGathered_31 rfl (lv_at hl 0 rfl) ?_
      refine r_get F hP i_X10 0 (me_0 E q) rfl 30 (by decide) rfl lf_X10_93 rfl dX10_isGathered_32 ?_
      refine lv_iload_n hx hb dX10_isGathered_35 rfl (lv_at hl 2 rfl) ?_
      obtain ⟨y5, e6, h⟩ := Option.bind_eq_some_iff.mp h
      refine r_iald F hP 26 (me_26 E q) e6 dX10_isGathered_36 ?_
      obtain ⟨y7, e8, h⟩ := Option.bind_eq_some_iff.mp h
      refine r_zald F hP 15 (me_15 E q) e8 dX10_isGathered_37 ?_
      refine lv_if_eq (tgt := 45) hx hb dX10_isGathered_38 (by decide) (fun c9 => ?_) (fun c9 => ?_)
      · rw [if_pos c9] at h
        refine lv_iconst (v := 0) hx hb dX10_isGathered_45 (by decide) ?_
        exact g_X10_isGathered_46 F hA hRt hB15 x2 (0 : Int32) h _ (lv_sub hl [0, 2] rfl) _ _ hP hD hS
      · rw [if_neg c9] at h
        exact g_X10_isGathered_41 F hA hRt hB15 x2 h _ (lv_sub hl [0, 2] rfl) _ _ hP hD hS
def f_X10_isGathered_15 (q : QS) : Nat → Int32 → Int32 → Option (Int32)
  | 0 => fun _ _ => none
  | n + 1 => f_X10_isGathered_15_b q (f_X10_isGathered_15 q n)
theorem g_X10_isGathered_15 {E : En} {p : Program} {l : Launch} {e : Env} {s : State} {m : MethodId} {args : Array Value} {below : List Frame} {meth : Method} {c : Code} {A : Nat → Prop} {Q : State → Prop} (F : Fx E p s m args meth c (yX10_isGathered).cls cX10_isGathered 3 (some .boolean)) (hA : ∀ z : Nat, s.heap.size ≤ z → A z) {q : QS} {o : Int32} (hRt : RtZ (wM E) E p l e rm_X10_isGathered s m args below meth c A Q cX10_isGathered (o, q)) (n : Nat) : ∀ (x1 : Int32) (x2 : Int32), f_X10_isGathered_15 q n x1 x2 = some o → ∀ ls : Array Slot, lv_has ls 3 [(0, .ref (eA E 0)), (1, .int x1), (2, .int x2)] → Wq (wM E) E p l e rm_X10_isGathered s m args below meth c A 0 0 Q q (F0 m 15 ls []) := by
  induction n with
  | zero => intro x1 x2 h; cases h
  | succ n ih => intro x1 x2 h; exact g_X10_isGathered_15_b F hA hRt ih x1 x2 h
def f_X10_isGathered_12 (q : QS) (t0 : Int32) : Option (Int32) :=
  f_X10_isGathered_15 q FU t0 (0 : Int32)
set_option maxHeartbeats 4000000 in
set_option maxRecDepth 100000 in
theorem g_X10_isGathered_12 {E : En} {p : Program} {l : Launch} {e : Env} {s : State} {m : MethodId} {args : Array Value} {below : List Frame} {meth : Method} {c : Code} {A : Nat → Prop} {Q : State → Prop} (F : Fx E p s m args meth c (yX10_isGathered).cls cX10_isGathered 3 (some .boolean)) (hA : ∀ z : Nat, s.heap.size ≤ z → A z) {q : QS} {o : Int32} (hRt : RtZ (wM E) E p l e rm_X10_isGathered s m args below meth c A Q cX10_isGathered (o, q)) (t0 : Int32) (h : f_X10_isGathered_12 q t0 = some o) (ls : Array Slot) (hl : lv_has ls 3 [(0, .ref (eA E 0))]) : Wq (wM E) E p l e rm_X10_isGathered s m args below meth c A 0 0 Q q (F0 m 12 ls [.int t0]) := by
  intro H locs hP hD hS
  have hx := F.1
  have hb := F.2.1
  unfold f_X10_isGathered_12 at h
  refine lv_istore_n (lv' := [(1, .int t0), (0, .ref (eA E 0))]) hx hb dX10_isGathered_12 rfl hl (by decide) rfl (fun ls hl => ?_)
  refine lv_iconst (v := 0) hx hb dX10_isGathered_13 (by decide) ?_
  refine lv_istore_n (lv' := [(2, .int (0 : Int32)), (1, .int t0), (0, .ref (eA E 0))]) hx hb dX10_isGathered_14 rfl hl (by decide) rfl (fun ls hl => ?_)
  exact g_X10_isGathered_15 F hA hRt FU t0 (0 : Int32) h _ (lv_sub hl [2, 1, 0] rfl) _ _ hP hD hS
def f_X10_isGathered_0 (q : QS) : Option (Int32) :=
  if (qF q 5) ≤ 0 then
    f_X10_isGathered_12 q (0 : Int32)
  else
    f_X10_isGathered_12 q (1 : Int32)
set_option maxHeartbeats 4000000 in
set_option maxRecDepth 100000 in
theorem g_X10_isGathered_0 {E : En} {p : Program} {l : Launch} {e : Env} {s : State} {m : MethodId} {args : Array Value} {below : List Frame} {meth : Method} {c : Code} {A : Nat → Prop} {Q : State → Prop} (F : Fx E p s m args meth c (yX10_isGathered).cls cX10_isGathered 3 (some .boolean)) (hA : ∀ z : Nat, s.heap.size ≤ z → A z) {q : QS} {o : Int32} (hRt : RtZ (wM E) E p l e rm_X10_isGathered s m args below meth c A Q cX10_isGathered (o, q)) (h : f_X10_isGathered_0 q = some o) (ls : Array Slot) (hl : lv_has ls 3 [(0, .ref (eA E 0))]) : Wq (wM E) E p l e rm_X10_isGathered s m args below meth c A 0 0 Q q (F0 m 0 ls []) := by
  intro H locs hP hD hS
  have hx := F.1
  have hb := F.2.1
  unfold f_X10_isGathered_0 at h
  refine lv_aload_n hx hb dX10_isGathered_0 rfl (lv_at hl 0 rfl) ?_
  refine r_get F hP i_X10 0 (me_0 E q) rfl 31 (by decide) rfl lf_X10_153 rfl dX10_isGathered_1 ?_
  refine lv_if_le (tgt := 11) hx hb dX10_isGathered_4 (by decide) (fun c1 => ?_) (fun c1 => ?_)
  · rw [if_pos c1] at h
    refine lv_iconst (v := 0) hx hb dX10_isGathered_11 (by decide) ?_
    exact g_X10_isGathered_12 F hA hRt (0 : Int32) h _ (lv_sub hl [0] rfl) _ _ hP hD hS
  · rw [if_neg c1] at h
    refine lv_iconst (v := 1) hx hb dX10_isGathered_7 (by decide) ?_
    refine lv_goto (tgt := 12) hx hb dX10_isGathered_8 (by decide) ?_
    exact g_X10_isGathered_12 F hA hRt (1 : Int32) h _ (lv_sub hl [0] rfl) _ _ hP hD hS
def f_X10_isGathered (q : QS) : Option (Int32) := f_X10_isGathered_0 q
set_option maxRecDepth 100000 in
theorem c_X10_isGathered {E : En} {l : Launch} (q : QS) {o : Int32} (h : f_X10_isGathered q = some o) : Ct (wM E) E l yX10_isGathered (wy yX10_isGathered cX10_isGathered 3 (some .boolean)) rm_X10_isGathered q q [.ref (eA E 0)] (some (.int o)) :=
  ct_Z (o := (o, q)) (by decide +kernel) (fun p e s m below meth c A Q F hA hRt H locs hP hD hS => en_W [.ref (eA E 0)] (Nat.le_of_ble_eq_true rfl) (fun ls hl => g_X10_isGathered_0 F hA hRt h ls (lv_sub hl [0] rfl) H locs hP hD hS))
def rm_X10_isLoose : Room := { frames := 2, cells := 0, slots := 0, locals := 46 }
def f_X10_isLoose_105 (B44 : QS → Int32 → Int32 → Int32 → Int32 → Int32 → Option (Int32 × QS)) (q : QS) (x1 : Int32) (x2 : Int32) (x3 : Int32) (x5 : Int32) (t0 : Int32) : Option (Int32 × QS) :=
  B44 q x1 x2 x3 t0 (x5 + (1 : Int32))
set_option maxHeartbeats 4000000 in
set_option maxRecDepth 100000 in
theorem g_X10_isLoose_105 {E : En} {p : Program} {l : Launch} {e : Env} {s : State} {m : MethodId} {args : Array Value} {below : List Frame} {meth : Method} {c : Code} {A : Nat → Prop} {Q : State → Prop} (F : Fx E p s m args meth c (yX10_isLoose).cls cX10_isLoose 6 (some .boolean)) (hA : ∀ z : Nat, s.heap.size ≤ z → A z) {o : Int32 × QS} (hRt : RtZ (wM E) E p l e rm_X10_isLoose s m args below meth c A Q cX10_isLoose o) {B44 : QS → Int32 → Int32 → Int32 → Int32 → Int32 → Option (Int32 × QS)} (hB44 : ∀ (q : QS) (x1 : Int32) (x2 : Int32) (x3 : Int32) (x4 : Int32) (x5 : Int32), B44 q x1 x2 x3 x4 x5 = some o → ∀ ls : Array Slot, lv_has ls 6 [(0, .ref (eA E 0)), (1, .int x1), (2, .int x2), (3, .int x3), (4, .int x4), (5, .int x5)] → Wq (wM E) E p l e rm_X10_isLoose s m args below meth c A 0 0 Q q (F0 m 44 ls [])) (q : QS) (x1 : Int32) (x2 : Int32) (x3 : Int32) (x5 : Int32) (t0 : Int32) (h : f_X10_isLoose_105 B44 q x1 x2 x3 x5 t0 = some o) (ls : Array Slot) (hl : lv_has ls 6 [(0, .ref (eA E 0)), (1, .int x1), (2, .int x2), (3, .int x3), (5, .int x5)]) : Wq (wM E) E p l e rm_X10_isLoose s m args below meth c A 0 0 Q q (F0 m 105 ls [.int t0]) := by
  intro H locs hP hD hS
  have hx := F.1
  have hb := F.2.1
  unfold f_X10_isLoose_105 at h
  refine lv_istore (lv' := [(4, .int t0), (0, .ref (eA E 0)), (1, .int x1), (2, .int x2), (3, .int x3), (5, .int x5)]) hx hb dX10_isLoose_105 hl (by decide) rfl (fun ls hl => ?_)
  refine lv_iinc (v := (x5 + (1 : Int32))) (lv' := [(5, .int (x5 + (1 : Int32))), (4, .int t0), (0, .ref (eA E 0)), (1, .int x1), (2, .int x2), (3, .int x3)]) hx hb dX10_isLoose_107 hl (k := 5) rfl rfl (by decide) rfl (fun ls hl => ?_)
  refine lv_goto (tgt := 44) hx hb dX10_isLoose_110 (by decide) ?_
  exact hB44 q x1 x2 x3 t0 (x5 + (1 : Int32)) h _ (lv_sub hl [2, 3, 4, 5, 1, 0] rfl) _ _ hP hD hS
def f_X10_isLoose_100 (B44 : QS → Int32 → Int32 → Int32 → Int32 → Int32 → Option (Int32 × QS)) (q : QS) (x1 : Int32) (x2 : Int32) (x3 : Int32) (x5 : Int32) : Option (Int32 × QS) :=
  f_X10_isLoose_105 B44 q x1 x2 x3 x5 (1 : Int32)
set_option maxHeartbeats 4000000 in
set_option maxRecDepth 100000 in
theorem g_X10_isLoose_100 {E : En} {p : Program} {l : Launch} {e : Env} {s : State} {m : MethodId} {args : Array Value} {below : List Frame} {meth : Method} {c : Code} {A : Nat → Prop} {Q : State → Prop} (F : Fx E p s m args meth c (yX10_isLoose).cls cX10_isLoose 6 (some .boolean)) (hA : ∀ z : Nat, s.heap.size ≤ z → A z) {o : Int32 × QS} (hRt : RtZ (wM E) E p l e rm_X10_isLoose s m args below meth c A Q cX10_isLoose o) {B44 : QS → Int32 → Int32 → Int32 → Int32 → Int32 → Option (Int32 × QS)} (hB44 : ∀ (q : QS) (x1 : Int32) (x2 : Int32) (x3 : Int32) (x4 : Int32) (x5 : Int32), B44 q x1 x2 x3 x4 x5 = some o → ∀ ls : Array Slot, lv_has ls 6 [(0, .ref (eA E 0)), (1, .int x1), (2, .int x2), (3, .int x3), (4, .int x4), (5, .int x5)] → Wq (wM E) E p l e rm_X10_isLoose s m args below meth c A 0 0 Q q (F0 m 44 ls [])) (q : QS) (x1 : Int32) (x2 : Int32) (x3 : Int32) (x5 : Int32) (h : f_X10_isLoose_100 B44 q x1 x2 x3 x5 = some o) (ls : Array Slot) (hl : lv_has ls 6 [(0, .ref (eA E 0)), (1, .int x1), (2, .int x2), (3, .int x3), (5, .int x5)]) : Wq (wM E) E p l e rm_X10_isLoose s m args below meth c A 0 0 Q q (F0 m 100 ls []) := by
  intro H locs hP hD hS
  have hx := F.1
  have hb := F.2.1
  unfold f_X10_isLoose_100 at h
  refine lv_iconst (v := 1) hx hb dX10_isLoose_100 (by decide) ?_
  refine lv_goto (tgt := 105) hx hb dX10_isLoose_101 (by decide) ?_
  exact g_X10_isLoose_105 F hA hRt hB44 q x1 x2 x3 x5 (1 : Int32) h _ (lv_sub hl [0, 1, 2, 3, 4] rfl) _ _ hP hD hS
def f_X10_isLoose_44_b (K113 : QS → Int32 → Int32 → Int32 → Int32 → Option (Int32 × QS)) (B44 : QS → Int32 → Int32 → Int32 → Int32 → Int32 → Option (Int32 × QS)) (q : QS) (x1 : Int32) (x2 : Int32) (x3 : Int32) (x4 : Int32) (x5 : Int32) : Option (Int32 × QS) :=
  if (qF q 5) ≤ x5 then
    K113 q x1 x2 x3 x4
  else
    if x4 = 0 then
      K113 q x1 x2 x3 x4
    else
      (rd (qI q 27) 4 x5).bind fun y10 =>
      (rd (qI q 12) 200 y10).bind fun y12 =>
      (rd (qI q 12) 200 x3).bind fun y14 =>
      if y12 = y14 then
        (rd (qI q 27) 4 x5).bind fun y17 =>
        (rd (qI q 13) 200 y17).bind fun y19 =>
        (rd (qI q 13) 200 x3).bind fun y21 =>
        if y19 = y21 then
          f_X10_isLoose_105 B44 q x1 x2 x3 x5 (0 : Int32)
        else
          f_X10_isLoose_100 B44 q x1 x2 x3 x5
      else
        f_X10_isLoose_100 B44 q x1 x2 x3 x5
set_option maxHeartbeats 4000000 in
set_option maxRecDepth 100000 in
theorem g_X10_isLoose_44_b {E : En} {p : Program} {l : Launch} {e : Env} {s : State} {m : MethodId} {args : Array Value} {below : List Frame} {meth : Method} {c : Code} {A : Nat → Prop} {Q : State → Prop} (F : Fx E p s m args meth c (yX10_isLoose).cls cX10_isLoose 6 (some .boolean)) (hA : ∀ z : Nat, s.heap.size ≤ z → A z) {o : Int32 × QS} (hRt : RtZ (wM E) E p l e rm_X10_isLoose s m args below meth c A Q cX10_isLoose o) {K113 : QS → Int32 → Int32 → Int32 → Int32 → Option (Int32 × QS)} {B44 : QS → Int32 → Int32 → Int32 → Int32 → Int32 → Option (Int32 × QS)} (hK113 : ∀ (q : QS) (x1 : Int32) (x2 : Int32) (x3 : Int32) (x4 : Int32), K113 q x1 x2 x3 x4 = some o → ∀ ls : Array Slot, lv_has ls 6 [(0, .ref (eA E 0)), (1, .int x1), (2, .int x2), (3, .int x3), (4, .int x4)] → Wq (wM E) E p l e rm_X10_isLoose s m args below meth c A 0 0 Q q (F0 m 113 ls [])) (hB44 : ∀ (q : QS) (x1 : Int32) (x2 : Int32) (x3 : Int32) (x4 : Int32) (x5 : Int32), B44 q x1 x2 x3 x4 x5 = some o → ∀ ls : Array Slot, lv_has ls 6 [(0, .ref (eA E 0)), (1, .int x1), (2, .int x2), (3, .int x3), (4, .int x4), (5, .int x5)] → Wq (wM E) E p l e rm_X10_isLoose s m args below meth c A 0 0 Q q (F0 m 44 ls [])) (q : QS) (x1 : Int32) (x2 : Int32) (x3 : Int32) (x4 : Int32) (x5 : Int32) (h : f_X10_isLoose_44_b K113 B44 q x1 x2 x3 x4 x5 = some o) (ls : Array Slot) (hl : lv_has ls 6 [(0, .ref (eA E 0)), (1, .int x1), (2, .int x2), (3, .int x3), (4, .int x4), (5, .int x5)]) : Wq (wM E) E p l e rm_X10_isLoose s m args below meth c A 0 0 Q q (F0 m 44 ls []) := by
  intro H locs hP hD hS
  have hx := F.1
  have hb := F.2.1
  unfold f_X10_isLoose_44_b at h
  refine lv_iload hx hb dX10_isLoose_44 (lv_at hl 5 rfl) ?_
  refine lv_aload_n hx hb dX10_isLoose_46 rfl (lv_at hl 0 rfl) ?_
  refine r_get F hP i_X10 0 (me_0 E q) rfl 31 (by decide) rfl lf_X10_153 rfl dX10_isLoose_47 ?_
  refine lv_icmp_ge (tgt := 113) hx hb dX10_isLoose_50 (by decide) (fun c8 => ?_) (fun c8 => ?_)
  · rw [if_pos c8] at h
    exact hK113 q x1 x2 x3 x4 h _ (lv_sub hl [0, 1, 2, 3, 4] rfl) _ _ hP hD hS
  · rw [if_neg c8] at h
    refine lv_iload hx hb dX10_isLoose_53 (lv_at hl 4 rfl) ?_
    refine lv_if_eq (tgt := 113) hx hb dX10_isLoose_55 (by decide) (fun c9 => ?_) (fun c9 => ?_)
    · rw [if_pos c9] at h
      exact hK113 q x1 x2 x3 x4 h _ (lv_sub hl [0, 1, 2, 3, 4] rfl) _ _ hP hD hS
    · rw [if_neg c9] at h
      refine lv_aload_n hx hb dX10_isLoose_58 rfl (lv_at hl 0 rfl) ?_
      refine r_get F hP i_X10 0 (me_0 E q) rfl 14 (by decide) rfl lf_X10_46 rfl dX10_isLoose_59 ?_
      refine lv_aload_n hx hb dX10_isLoose_62 rfl (lv_at hl 0 rfl) ?_
      refine r_get F hP i_X10 0 (me_0 E q) rfl 32 (by decide) rfl lf_X10_96 rfl dX10_isLoose_63 ?_
      refine lv_iload hx hb dX10_isLoose_66 (lv_at hl 5 rfl) ?_
      obtain ⟨y10, e11, h⟩ := Option.bind_eq_some_iff.mp h
      refine r_iald F hP 27 (me_27 E q) e11 dX10_isLoose_68 ?_
      obtain ⟨y12, e13, h⟩ := Option.bind_eq_some_iff.mp h
      refine r_iald F hP 12 (me_12 E q) e13 dX10_isLoose_69 ?_
      refine lv_aload_n hx hb dX10_isLoose_70 rfl (lv_at hl 0 rfl) ?_
      refine r_get F hP i_X10 0 (me_0 E q) rfl 14 (by decide) rfl lf_X10_46 rfl dX10_isLoose_71 ?_
      refine lv_iload_n hx hb dX10_isLoose_74 rfl (lv_at hl 3 rfl) ?_
      obtain ⟨y14, e15, h⟩ := Option.bind_eq_some_iff.mp h
      refine r_iald F hP 12 (me_12 E q) e15 dX10_isLoose_75 ?_
      refine lv_icmp_ne (tgt := 100) hx hb dX10_isLoose_76 (by decide) (fun c16 => ?_) (fun c16 => ?_)
      · rw [if_neg c16] at h
        exact g_X10_isLoose_100 F hA hRt hB44 q x1 x2 x3 x5 h _ (lv_sub hl [0, 1, 2, 3, 5] rfl) _ _ hP hD hS
      · rw [if_pos c16] at h
        refine lv_aload_n hx hb dX10_isLoose_79 rfl (lv_at hl 0 rfl) ?_
        refine r_get F hP i_X10 0 (me_0 E q) rfl 15 (by decide) rfl lf_X10_49 rfl dX10_isLoose_80 ?_
        refine lv_aload_n hx hb dX10_isLoose_83 rfl (lv_at hl 0 rfl) ?_
        refine r_get F hP i_X10 0 (me_0 E q) rfl 32 (by decide) rfl lf_X10_96 rfl dX10_isLoose_84 ?_
        refine lv_iload hx hb dX10_isLoose_87 (lv_at hl 5 rfl) ?_
        obtain ⟨y17, e18, h⟩ := Option.bind_eq_some_iff.mp h
        refine r_iald F hP 27 (me_27 E q) e18 dX10_isLoose_89 ?_
        obtain ⟨y19, e20, h⟩ := Option.bind_eq_some_iff.mp h
        refine r_iald F hP 13 (me_13 E q) e20 dX10_isLoose_90 ?_
        refine lv_aload_n hx hb dX10_isLoose_91 rfl (lv_at hl 0 rfl) ?_
        refine r_get F hP i_X10 0 (me_0 E q) rfl 15 (by decide) rfl lf_X10_49 rfl dX10_isLoose_92 ?_
        refine lv_iload_n hx hb dX10_isLoose_95 rfl (lv_at hl 3 rfl) ?_
        obtain ⟨y21, e22, h⟩ := Option.bind_eq_some_iff.mp h
        refine r_iald F hP 13 (me_13 E q) e22 dX10_isLoose_96 ?_
        refine lv_icmp_eq (tgt := 104) hx hb dX10_isLoose_97 (by decide) (fun c23 => ?_) (fun c23 => ?_)
        · rw [if_pos c23] at h
          refine lv_iconst (v := 0) hx hb dX10_isLoose_104 (by decide) ?_
          exact g_X10_isLoose_105 F hA hRt hB44 q x1 x2 x3 x5 (0 : Int32) h _ (lv_sub hl [0, 1, 2, 3, 5] rfl) _ _ hP hD hS
        · rw [if_neg c23] at h
          exact g_X10_isLoose_100 F hA hRt hB44 q x1 x2 x3 x5 h _ (lv_sub hl [0, 1, 2, 3, 5] rfl) _ _ hP hD hS
def f_X10_isLoose_44 (K113 : QS → Int32 → Int32 → Int32 → Int32 → Option (Int32 × QS)) : Nat → QS → Int32 → Int32 → Int32 → Int32 → Int32 → Option (Int32 × QS)
  | 0 => fun _ _ _ _ _ _ => none
  | n + 1 => f_X10_isLoose_44_b K113 (f_X10_isLoose_44 K113 n)
theorem g_X10_isLoose_44 {E : En} {p : Program} {l : Launch} {e : Env} {s : State} {m : MethodId} {args : Array Value} {below : List Frame} {meth : Method} {c : Code} {A : Nat → Prop} {Q : State → Prop} (F : Fx E p s m args meth c (yX10_isLoose).cls cX10_isLoose 6 (some .boolean)) (hA : ∀ z : Nat, s.heap.size ≤ z → A z) {o : Int32 × QS} (hRt : RtZ (wM E) E p l e rm_X10_isLoose s m args below meth c A Q cX10_isLoose o) {K113 : QS → Int32 → Int32 → Int32 → Int32 → Option (Int32 × QS)} (hK113 : ∀ (q : QS) (x1 : Int32) (x2 : Int32) (x3 : Int32) (x4 : Int32), K113 q x1 x2 x3 x4 = some o → ∀ ls : Array Slot, lv_has ls 6 [(0, .ref (eA E 0)), (1, .int x1), (2, .int x2), (3, .int x3), (4, .int x4)] → Wq (wM E) E p l e rm_X10_isLoose s m args below meth c A 0 0 Q q (F0 m 113 ls [])) (n : Nat) : ∀ (q : QS) (x1 : Int32) (x2 : Int32) (x3 : Int32) (x4 : Int32) (x5 : Int32), f_X10_isLoose_44 K113 n q x1 x2 x3 x4 x5 = some o → ∀ ls : Array Slot, lv_has ls 6 [(0, .ref (eA E 0)), (1, .int x1), (2, .int x2), (3, .int x3), (4, .int x4), (5, .int x5)] → Wq (wM E) E p l e rm_X10_isLoose s m args below meth c A 0 0 Q q (F0 m 44 ls []) := by
  induction n with
  | zero => intro q x1 x2 x3 x4 x5 h; cases h
  | succ n ih => intro q x1 x2 x3 x4 x5 h; exact g_X10_isLoose_44_b F hA hRt hK113 ih q x1 x2 x3 x4 x5 h
def f_X10_isLoose_127 (B9 : QS → Int32 → Int32 → Int32 → Option (Int32 × QS)) (q : QS) (x1 : Int32) (x3 : Int32) (t0 : Int32) : Option (Int32 × QS) :=
  B9 q x1 t0 (x3 + (1 : Int32))
set_option maxHeartbeats 4000000 in
set_option maxRecDepth 100000 in
theorem g_X10_isLoose_127 {E : En} {p : Program} {l : Launch} {e : Env} {s : State} {m : MethodId} {args : Array Value} {below : List Frame} {meth : Method} {c : Code} {A : Nat → Prop} {Q : State → Prop} (F : Fx E p s m args meth c (yX10_isLoose).cls cX10_isLoose 6 (some .boolean)) (hA : ∀ z : Nat, s.heap.size ≤ z → A z) {o : Int32 × QS} (hRt : RtZ (wM E) E p l e rm_X10_isLoose s m args below meth c A Q cX10_isLoose o) {B9 : QS → Int32 → Int32 → Int32 → Option (Int32 × QS)} (hB9 : ∀ (q : QS) (x1 : Int32) (x2 : Int32) (x3 : Int32), B9 q x1 x2 x3 = some o → ∀ ls : Array Slot, lv_has ls 6 [(0, .ref (eA E 0)), (1, .int x1), (2, .int x2), (3, .int x3)] → Wq (wM E) E p l e rm_X10_isLoose s m args below meth c A 0 0 Q q (F0 m 9 ls [])) (q : QS) (x1 : Int32) (x3 : Int32) (t0 : Int32) (h : f_X10_isLoose_127 B9 q x1 x3 t0 = some o) (ls : Array Slot) (hl : lv_has ls 6 [(0, .ref (eA E 0)), (1, .int x1), (3, .int x3)]) : Wq (wM E) E p l e rm_X10_isLoose s m args below meth c A 0 0 Q q (F0 m 127 ls [.int t0]) := by
  intro H locs hP hD hS
  have hx := F.1
  have hb := F.2.1
  unfold f_X10_isLoose_127 at h
  refine lv_istore_n (lv' := [(2, .int t0), (0, .ref (eA E 0)), (1, .int x1), (3, .int x3)]) hx hb dX10_isLoose_127 rfl hl (by decide) rfl (fun ls hl => ?_)
  refine lv_iinc (v := (x3 + (1 : Int32))) (lv' := [(3, .int (x3 + (1 : Int32))), (2, .int t0), (0, .ref (eA E 0)), (1, .int x1)]) hx hb dX10_isLoose_128 hl (k := 3) rfl rfl (by decide) rfl (fun ls hl => ?_)
  refine lv_goto (tgt := 9) hx hb dX10_isLoose_131 (by decide) ?_
  exact hB9 q x1 t0 (x3 + (1 : Int32)) h _ (lv_sub hl [2, 3, 1, 0] rfl) _ _ hP hD hS
def f_X10_isLoose_122 (B9 : QS → Int32 → Int32 → Int32 → Option (Int32 × QS)) (q : QS) (x1 : Int32) (x3 : Int32) : Option (Int32 × QS) :=
  f_X10_isLoose_127 B9 q x1 x3 (1 : Int32)
set_option maxHeartbeats 4000000 in
set_option maxRecDepth 100000 in
theorem g_X10_isLoose_122 {E : En} {p : Program} {l : Launch} {e : Env} {s : State} {m : MethodId} {args : Array Value} {below : List Frame} {meth : Method} {c : Code} {A : Nat → Prop} {Q : State → Prop} (F : Fx E p s m args meth c (yX10_isLoose).cls cX10_isLoose 6 (some .boolean)) (hA : ∀ z : Nat, s.heap.size ≤ z → A z) {o : Int32 × QS} (hRt : RtZ (wM E) E p l e rm_X10_isLoose s m args below meth c A Q cX10_isLoose o) {B9 : QS → Int32 → Int32 → Int32 → Option (Int32 × QS)} (hB9 : ∀ (q : QS) (x1 : Int32) (x2 : Int32) (x3 : Int32), B9 q x1 x2 x3 = some o → ∀ ls : Array Slot, lv_has ls 6 [(0, .ref (eA E 0)), (1, .int x1), (2, .int x2), (3, .int x3)] → Wq (wM E) E p l e rm_X10_isLoose s m args below meth c A 0 0 Q q (F0 m 9 ls [])) (q : QS) (x1 : Int32) (x3 : Int32) (h : f_X10_isLoose_122 B9 q x1 x3 = some o) (ls : Array Slot) (hl : lv_has ls 6 [(0, .ref (eA E 0)), (1, .int x1), (3, .int x3)]) : Wq (wM E) E p l e rm_X10_isLoose s m args below meth c A 0 0 Q q (F0 m 122 ls []) := by
  intro H locs hP hD hS
  have hx := F.1
  have hb := F.2.1
  unfold f_X10_isLoose_122 at h
  refine lv_iconst (v := 1) hx hb dX10_isLoose_122 (by decide) ?_
  refine lv_goto (tgt := 127) hx hb dX10_isLoose_123 (by decide) ?_
  exact g_X10_isLoose_127 F hA hRt hB9 q x1 x3 (1 : Int32) h _ (lv_sub hl [0, 1, 2] rfl) _ _ hP hD hS
def f_X10_isLoose_113 (B9 : QS → Int32 → Int32 → Int32 → Option (Int32 × QS)) (q : QS) (x1 : Int32) (x2 : Int32) (x3 : Int32) (x4 : Int32) : Option (Int32 × QS) :=
  if x2 = 0 then
    if x4 = 0 then
      f_X10_isLoose_127 B9 q x1 x3 (0 : Int32)
    else
      f_X10_isLoose_122 B9 q x1 x3
  else
    f_X10_isLoose_122 B9 q x1 x3
set_option maxHeartbeats 4000000 in
set_option maxRecDepth 100000 in
theorem g_X10_isLoose_113 {E : En} {p : Program} {l : Launch} {e : Env} {s : State} {m : MethodId} {args : Array Value} {below : List Frame} {meth : Method} {c : Code} {A : Nat → Prop} {Q : State → Prop} (F : Fx E p s m args meth c (yX10_isLoose).cls cX10_isLoose 6 (some .boolean)) (hA : ∀ z : Nat, s.heap.size ≤ z → A z) {o : Int32 × QS} (hRt : RtZ (wM E) E p l e rm_X10_isLoose s m args below meth c A Q cX10_isLoose o) {B9 : QS → Int32 → Int32 → Int32 → Option (Int32 × QS)} (hB9 : ∀ (q : QS) (x1 : Int32) (x2 : Int32) (x3 : Int32), B9 q x1 x2 x3 = some o → ∀ ls : Array Slot, lv_has ls 6 [(0, .ref (eA E 0)), (1, .int x1), (2, .int x2), (3, .int x3)] → Wq (wM E) E p l e rm_X10_isLoose s m args below meth c A 0 0 Q q (F0 m 9 ls [])) (q : QS) (x1 : Int32) (x2 : Int32) (x3 : Int32) (x4 : Int32) (h : f_X10_isLoose_113 B9 q x1 x2 x3 x4 = some o) (ls : Array Slot) (hl : lv_has ls 6 [(0, .ref (eA E 0)), (1, .int x1), (2, .int x2), (3, .int x3), (4, .int x4)]) : Wq (wM E) E p l e rm_X10_isLoose s m args below meth c A 0 0 Q q (F0 m 113 ls []) := by
  intro H locs hP hD hS
  have hx := F.1
  have hb := F.2.1
  unfold f_X10_isLoose_113 at h
  refine lv_iload_n hx hb dX10_isLoose_113 rfl (lv_at hl 2 rfl) ?_
  refine lv_if_ne (tgt := 122) hx hb dX10_isLoose_114 (by decide) (fun c24 => ?_) (fun c24 => ?_)
  · rw [if_neg c24] at h
    exact g_X10_isLoose_122 F hA hRt hB9 q x1 x3 h _ (lv_sub hl [0, 1, 3] rfl) _ _ hP hD hS
  · rw [if_pos c24] at h
    refine lv_iload hx hb dX10_isLoose_117 (lv_at hl 4 rfl) ?_
    refine lv_if_eq (tgt := 126) hx hb dX10_isLoose_119 (by decide) (fun c25 => ?_) (fun c25 => ?_)
    · rw [if_pos c25] at h
      refine lv_iconst (v := 0) hx hb dX10_isLoose_126 (by decide) ?_
      exact g_X10_isLoose_127 F hA hRt hB9 q x1 x3 (0 : Int32) h _ (lv_sub hl [0, 1, 3] rfl) _ _ hP hD hS
    · rw [if_neg c25] at h
      exact g_X10_isLoose_122 F hA hRt hB9 q x1 x3 h _ (lv_sub hl [0, 1, 3] rfl) _ _ hP hD hS
def f_X10_isLoose_39 (B9 : QS → Int32 → Int32 → Int32 → Option (Int32 × QS)) (q : QS) (x1 : Int32) (x2 : Int32) (x3 : Int32) (t0 : Int32) : Option (Int32 × QS) :=
  f_X10_isLoose_44 (f_X10_isLoose_113 B9) FU q x1 x2 x3 t0 (0 : Int32)
set_option maxHeartbeats 4000000 in
set_option maxRecDepth 100000 in
theorem g_X10_isLoose_39 {E : En} {p : Program} {l : Launch} {e : Env} {s : State} {m : MethodId} {args : Array Value} {below : List Frame} {meth : Method} {c : Code} {A : Nat → Prop} {Q : State → Prop} (F : Fx E p s m args meth c (yX10_isLoose).cls cX10_isLoose 6 (some .boolean)) (hA : ∀ z : Nat, s.heap.size ≤ z → A z) {o : Int32 × QS} (hRt : RtZ (wM E) E p l e rm_X10_isLoose s m args below meth c A Q cX10_isLoose o) {B9 : QS → Int32 → Int32 → Int32 → Option (Int32 × QS)} (hB9 : ∀ (q : QS) (x1 : Int32) (x2 : Int32) (x3 : Int32), B9 q x1 x2 x3 = some o → ∀ ls : Array Slot, lv_has ls 6 [(0, .ref (eA E 0)), (1, .int x1), (2, .int x2), (3, .int x3)] → Wq (wM E) E p l e rm_X10_isLoose s m args below meth c A 0 0 Q q (F0 m 9 ls [])) (q : QS) (x1 : Int32) (x2 : Int32) (x3 : Int32) (t0 : Int32) (h : f_X10_isLoose_39 B9 q x1 x2 x3 t0 = some o) (ls : Array Slot) (hl : lv_has ls 6 [(0, .ref (eA E 0)), (1, .int x1), (2, .int x2), (3, .int x3)]) : Wq (wM E) E p l e rm_X10_isLoose s m args below meth c A 0 0 Q q (F0 m 39 ls [.int t0]) := by
  intro H locs hP hD hS
  have hx := F.1
  have hb := F.2.1
  unfold f_X10_isLoose_39 at h
  refine lv_istore (lv' := [(4, .int t0), (0, .ref (eA E 0)), (1, .int x1), (2, .int x2), (3, .int x3)]) hx hb dX10_isLoose_39 hl (by decide) rfl (fun ls hl => ?_)
  refine lv_iconst (v := 0) hx hb dX10_isLoose_41 (by decide) ?_
  refine lv_istore (lv' := [(5, .int (0 : Int32)), (4, .int t0), (0, .ref (eA E 0)), (1, .int x1), (2, .int x2), (3, .int x3)]) hx hb dX10_isLoose_42 hl (by decide) rfl (fun ls hl => ?_)
  exact g_X10_isLoose_44 F hA hRt (g_X10_isLoose_113 F hA hRt hB9) FU q x1 x2 x3 t0 (0 : Int32) h _ (lv_sub hl [2, 3, 4, 5, 1, 0] rfl) _ _ hP hD hS
def f_X10_isLoose_38 (B9 : QS → Int32 → Int32 → Int32 → Option (Int32 × QS)) (q : QS) (x1 : Int32) (x2 : Int32) (x3 : Int32) : Option (Int32 × QS) :=
  f_X10_isLoose_39 B9 q x1 x2 x3 (0 : Int32)
set_option maxHeartbeats 4000000 in
set_option maxRecDepth 100000 in
theorem g_X10_isLoose_38 {E : En} {p : Program} {l : Launch} {e : Env} {s : State} {m : MethodId} {args : Array Value} {below : List Frame} {meth : Method} {c : Code} {A : Nat → Prop} {Q : State → Prop} (F : Fx E p s m args meth c (yX10_isLoose).cls cX10_isLoose 6 (some .boolean)) (hA : ∀ z : Nat, s.heap.size ≤ z → A z) {o : Int32 × QS} (hRt : RtZ (wM E) E p l e rm_X10_isLoose s m args below meth c A Q cX10_isLoose o) {B9 : QS → Int32 → Int32 → Int32 → Option (Int32 × QS)} (hB9 : ∀ (q : QS) (x1 : Int32) (x2 : Int32) (x3 : Int32), B9 q x1 x2 x3 = some o → ∀ ls : Array Slot, lv_has ls 6 [(0, .ref (eA E 0)), (1, .int x1), (2, .int x2), (3, .int x3)] → Wq (wM E) E p l e rm_X10_isLoose s m args below meth c A 0 0 Q q (F0 m 9 ls [])) (q : QS) (x1 : Int32) (x2 : Int32) (x3 : Int32) (h : f_X10_isLoose_38 B9 q x1 x2 x3 = some o) (ls : Array Slot) (hl : lv_has ls 6 [(0, .ref (eA E 0)), (1, .int x1), (2, .int x2), (3, .int x3)]) : Wq (wM E) E p l e rm_X10_isLoose s m args below meth c A 0 0 Q q (F0 m 38 ls []) := by
  intro H locs hP hD hS
  have hx := F.1
  have hb := F.2.1
  unfold f_X10_isLoose_38 at h
  refine lv_iconst (v := 0) hx hb dX10_isLoose_38 (by decide) ?_
  exact g_X10_isLoose_39 F hA hRt hB9 q x1 x2 x3 (0 : Int32) h _ (lv_sub hl [0, 1, 2, 3] rfl) _ _ hP hD hS
def f_X10_isLoose_9_b (B9 : QS → Int32 → Int32 → Int32 → Option (Int32 × QS)) (q : QS) (x1 : Int32) (x2 : Int32) (x3 : Int32) : Option (Int32 × QS) :=
  if x1 < x3 then
    if vp_nar .boolean x2 = x2 then some (x2, q) else none
  else
    (rd (qI q 25) 200 x3).bind fun y5 =>
    if y5 = (1 : Int32) then
      (rd (qI q 11) 200 x3).bind fun y26 =>
      if y26 = (4 : Int32) then
        f_X10_isLoose_39 B9 q x1 x2 x3 (1 : Int32)
      else
        f_X10_isLoose_38 B9 q x1 x2 x3
    else
      f_X10_isLoose_38 B9 q x1 x2 x3
set_option maxHeartbeats 4000000 in
set_option maxRecDepth 100000 in
theorem g_X10_isLoose_9_b {E : En} {p : Program} {l : Launch} {e : Env} {s : State} {m : MethodId} {args : Array Value} {below : List Frame} {meth : Method} {c : Code} {A : Nat → Prop} {Q : State → Prop} (F : Fx E p s m args meth c (yX10_isLoose).cls cX10_isLoose 6 (some .boolean)) (hA : ∀ z : Nat, s.heap.size ≤ z → A z) {o : Int32 × QS} (hRt : RtZ (wM E) E p l e rm_X10_isLoose s m args below meth c A Q cX10_isLoose o) {B9 : QS → Int32 → Int32 → Int32 → Option (Int32 × QS)} (hB9 : ∀ (q : QS) (x1 : Int32) (x2 : Int32) (x3 : Int32), B9 q x1 x2 x3 = some o → ∀ ls : Array Slot, lv_has ls 6 [(0, .ref (eA E 0)), (1, .int x1), (2, .int x2), (3, .int x3)] → Wq (wM E) E p l e rm_X10_isLoose s m args below meth c A 0 0 Q q (F0 m 9 ls [])) (q : QS) (x1 : Int32) (x2 : Int32) (x3 : Int32) (h : f_X10_isLoose_9_b B9 q x1 x2 x3 = some o) (ls : Array Slot) (hl : lv_has ls 6 [(0, .ref (eA E 0)), (1, .int x1), (2, .int x2), (3, .int x3)]) : Wq (wM E) E p l e rm_X10_isLoose s m args below meth c A 0 0 Q q (F0 m 9 ls []) := by
  intro H locs hP hD hS
  have hx := F.1
  have hb := F.2.1
  unfold f_X10_isLoose_9_b at h
  refine lv_iload_n hx hb dX10_isLoose_9 rfl (lv_at hl 3 rfl) ?_
  refine lv_iload_n hx hb dX10_isLoose_10 rfl (lv_at hl 1 rfl) ?_
  refine lv_icmp_gt (tgt := 134) hx hb dX10_isLoose_11 (by decide) (fun c3 => ?_) (fun c3 => ?_)
  · rw [if_pos c3] at h
    refine lv_iload_n hx hb dX10_isLoose_134 rfl (lv_at hl 2 rfl) ?_
    by_cases z4 : vp_nar .boolean x2 = x2
    rotate_left
    · rw [if_neg z4] at h; cases h
    rw [if_pos z4] at h
    cases h
    exact hRt _ _ z4 dX10_isLoose_135 _ _ hP hD hS
  · rw [if_neg c3] at h
    refine lv_aload_n hx hb dX10_isLoose_14 rfl (lv_at hl 0 rfl) ?_
    refine r_get F hP i_X10 0 (me_0 E q) rfl 27 (by decide) rfl lf_X10_86 rfl dX10_isLoose_15 ?_
    refine lv_iload_n hx hb dX10_isLoose_18 rfl (lv_at hl 3 rfl) ?_
    obtain ⟨y5, e6, h⟩ := Option.bind_eq_some_iff.mp h
    refine r_iald F hP 25 (me_25 E q) e6 dX10_isLoose_19 ?_
    refine lv_iconst (v := 1) hx hb dX10_isLoose_20 (by decide) ?_
    refine lv_icmp_ne (tgt := 38) hx hb dX10_isLoose_21 (by decide) (fun c7 => ?_) (fun c7 => ?_)
    · rw [if_neg c7] at h
      exact g_X10_isLoose_38 F hA hRt hB9 q x1 x2 x3 h _ (lv_sub hl [0, 1, 2, 3] rfl) _ _ hP hD hS
    · rw [if_pos c7] at h
      refine lv_aload_n hx hb dX10_isLoose_24 rfl (lv_at hl 0 rfl) ?_
      refine r_get F hP i_X10 0 (me_0 E q) rfl 13 (by decide) rfl lf_X10_43 rfl dX10_isLoose_25 ?_
      refine lv_iload_n hx hb dX10_isLoose_28 rfl (lv_at hl 3 rfl) ?_
      obtain ⟨y26, e27, h⟩ := Option.bind_eq_some_iff.mp h
      refine r_iald F hP 11 (me_11 E q) e27 dX10_isLoose_29 ?_
      refine lv_iconst (v := 4) hx hb dX10_isLoose_30 (by decide) ?_
      refine lv_icmp_ne (tgt := 38) hx hb dX10_isLoose_31 (by decide) (fun c28 => ?_) (fun c28 => ?_)
      · rw [if_neg c28] at h
        exact g_X10_isLoose_38 F hA hRt hB9 q x1 x2 x3 h _ (lv_sub hl [0, 1, 2, 3] rfl) _ _ hP hD hS
      · rw [if_pos c28] at h
        refine lv_iconst (v := 1) hx hb dX10_isLoose_34 (by decide) ?_
        refine lv_goto (tgt := 39) hx hb dX10_isLoose_35 (by decide) ?_
        exact g_X10_isLoose_39 F hA hRt hB9 q x1 x2 x3 (1 : Int32) h _ (lv_sub hl [0, 1, 2, 3] rfl) _ _ hP hD hS
def f_X10_isLoose_9 : Nat → QS → Int32 → Int32 → Int32 → Option (Int32 × QS)
  | 0 => fun _ _ _ _ => none
  | n + 1 => f_X10_isLoose_9_b (f_X10_isLoose_9 n)
theorem g_X10_isLoose_9 {E : En} {p : Program} {l : Launch} {e : Env} {s : State} {m : MethodId} {args : Array Value} {below : List Frame} {meth : Method} {c : Code} {A : Nat → Prop} {Q : State → Prop} (F : Fx E p s m args meth c (yX10_isLoose).cls cX10_isLoose 6 (some .boolean)) (hA : ∀ z : Nat, s.heap.size ≤ z → A z) {o : Int32 × QS} (hRt : RtZ (wM E) E p l e rm_X10_isLoose s m args below meth c A Q cX10_isLoose o) (n : Nat) : ∀ (q : QS) (x1 : Int32) (x2 : Int32) (x3 : Int32), f_X10_isLoose_9 n q x1 x2 x3 = some o → ∀ ls : Array Slot, lv_has ls 6 [(0, .ref (eA E 0)), (1, .int x1), (2, .int x2), (3, .int x3)] → Wq (wM E) E p l e rm_X10_isLoose s m args below meth c A 0 0 Q q (F0 m 9 ls []) := by
  induction n with
  | zero => intro q x1 x2 x3 h; cases h
  | succ n ih => intro q x1 x2 x3 h; exact g_X10_isLoose_9_b F hA hRt ih q x1 x2 x3 h
def f_X10_isLoose_0 (q : QS) (x1 : Int32) : Option (Int32 × QS) :=
  (f_X10_mark q x1).bind fun r1 =>
  f_X10_isLoose_9 FU r1 x1 (0 : Int32) (0 : Int32)
set_option maxHeartbeats 4000000 in
set_option maxRecDepth 100000 in
theorem g_X10_isLoose_0 {E : En} {p : Program} {l : Launch} {e : Env} {s : State} {m : MethodId} {args : Array Value} {below : List Frame} {meth : Method} {c : Code} {A : Nat → Prop} {Q : State → Prop} (F : Fx E p s m args meth c (yX10_isLoose).cls cX10_isLoose 6 (some .boolean)) (hA : ∀ z : Nat, s.heap.size ≤ z → A z) {o : Int32 × QS} (hRt : RtZ (wM E) E p l e rm_X10_isLoose s m args below meth c A Q cX10_isLoose o) (q : QS) (x1 : Int32) (h : f_X10_isLoose_0 q x1 = some o) (ls : Array Slot) (hl : lv_has ls 6 [(0, .ref (eA E 0)), (1, .int x1)]) : Wq (wM E) E p l e rm_X10_isLoose s m args below meth c A 0 0 Q q (F0 m 0 ls []) := by
  intro H locs hP hD hS
  have hx := F.1
  have hb := F.2.1
  unfold f_X10_isLoose_0 at h
  refine lv_aload_n hx hb dX10_isLoose_0 rfl (lv_at hl 0 rfl) ?_
  refine lv_iload_n hx hb dX10_isLoose_1 rfl (lv_at hl 1 rfl) ?_
  obtain ⟨r1, e2, h⟩ := Option.bind_eq_some_iff.mp h
  refine q_callV (As := [.int x1]) (rest := []) F hA hP hD hS (c_X10_mark (E := E) (l := l) q x1 e2) k_X10_mark in_X10_mark se_X10_mark lm_X10_243 0 (me_0 E q) rfl ⟨rfl, rfl⟩ ⟨by decide, by decide⟩ rfl hl.1 rfl (Nat.le_of_ble_eq_true rfl) dX10_isLoose_2 ⟨by decide, by decide⟩ ?_
  intro H locs hP hD hS
  refine lv_iconst (v := 0) hx hb dX10_isLoose_5 (by decide) ?_
  refine lv_istore_n (lv' := [(2, .int (0 : Int32)), (0, .ref (eA E 0)), (1, .int x1)]) hx hb dX10_isLoose_6 rfl hl (by decide) rfl (fun ls hl => ?_)
  refine lv_iconst (v := 0) hx hb dX10_isLoose_7 (by decide) ?_
  refine lv_istore_n (lv' := [(3, .int (0 : Int32)), (2, .int (0 : Int32)), (0, .ref (eA E 0)), (1, .int x1)]) hx hb dX10_isLoose_8 rfl hl (by decide) rfl (fun ls hl => ?_)
  exact g_X10_isLoose_9 F hA hRt FU r1 x1 (0 : Int32) (0 : Int32) h _ (lv_sub hl [2, 3, 1, 0] rfl) _ _ hP hD hS
def f_X10_isLoose (q : QS) (x1 : Int32) : Option (Int32 × QS) := f_X10_isLoose_0 q x1
set_option maxRecDepth 100000 in
theorem c_X10_isLoose {E : En} {l : Launch} (q : QS) (x1 : Int32) {o : Int32 × QS} (h : f_X10_isLoose q x1 = some o) : Ct (wM E) E l yX10_isLoose (wy yX10_isLoose cX10_isLoose 6 (some .boolean)) rm_X10_isLoose q o.2 [.ref (eA E 0), .int x1] (some (.int o.1)) :=
  ct_Z (o := o) (by decide +kernel) (fun p e s m below meth c A Q F hA hRt H locs hP hD hS => en_W [.ref (eA E 0), .int x1] (Nat.le_of_ble_eq_true rfl) (fun ls hl => g_X10_isLoose_0 F hA hRt q x1 h ls (lv_sub hl [0, 1] rfl) H locs hP hD hS))
def rm_X10_refusal : Room := { frames := 3, cells := 0, slots := 0, locals := 71 }
def f_X10_refusal_57 (B20 : QS → Int32 → Int32 → Option (Int32 × QS)) (q : QS) (x2 : Int32) (t0 : Int32) : Option (Int32 × QS) :=
  B20 q t0 (x2 + (1 : Int32))
set_option maxHeartbeats 4000000 in
set_option maxRecDepth 100000 in
theorem g_X10_refusal_57 {E : En} {p : Program} {l : Launch} {e : Env} {s : State} {m : MethodId} {args : Array Value} {below : List Frame} {meth : Method} {c : Code} {A : Nat → Prop} {Q : State → Prop} (F : Fx E p s m args meth c (yX10_refusal).cls cX10_refusal 4 (some .int)) (hA : ∀ z : Nat, s.heap.size ≤ z → A z) {o : Int32 × QS} (hRt : RtI (wM E) E p l e rm_X10_refusal s m args below meth c A Q cX10_refusal o) {B20 : QS → Int32 → Int32 → Option (Int32 × QS)} (hB20 : ∀ (q : QS) (x1 : Int32) (x2 : Int32), B20 q x1 x2 = some o → ∀ ls : Array Slot, lv_has ls 4 [(0, .ref (eA E 0)), (1, .int x1), (2, .int x2)] → Wq (wM E) E p l e rm_X10_refusal s m args below meth c A 0 0 Q q (F0 m 20 ls [])) (q : QS) (x2 : Int32) (t0 : Int32) (h : f_X10_refusal_57 B20 q x2 t0 = some o) (ls : Array Slot) (hl : lv_has ls 4 [(0, .ref (eA E 0)), (2, .int x2)]) : Wq (wM E) E p l e rm_X10_refusal s m args below meth c A 0 0 Q q (F0 m 57 ls [.int t0]) := by
  intro H locs hP hD hS
  have hx := F.1
  have hb := F.2.1
  unfold f_X10_refusal_57 at h
  refine lv_istore_n (lv' := [(1, .int t0), (0, .ref (eA E 0)), (2, .int x2)]) hx hb dX10_refusal_57 rfl hl (by decide) rfl (fun ls hl => ?_)
  refine lv_iinc (v := (x2 + (1 : Int32))) (lv' := [(2, .int (x2 + (1 : Int32))), (1, .int t0), (0, .ref (eA E 0))]) hx hb dX10_refusal_58 hl (k := 2) rfl rfl (by decide) rfl (fun ls hl => ?_)
  refine lv_goto (tgt := 20) hx hb dX10_refusal_61 (by decide) ?_
  exact hB20 q t0 (x2 + (1 : Int32)) h _ (lv_sub hl [2, 1, 0] rfl) _ _ hP hD hS
def f_X10_refusal_52 (B20 : QS → Int32 → Int32 → Option (Int32 × QS)) (q : QS) (x2 : Int32) : Option (Int32 × QS) :=
  f_X10_refusal_57 B20 q x2 (1 : Int32)
set_option maxHeartbeats 4000000 in
set_option maxRecDepth 100000 in
theorem g_X10_refusal_52 {E : En} {p : Program} {l : Launch} {e : Env} {s : State} {m : MethodId} {args : Array Value} {below : List Frame} {meth : Method} {c : Code} {A : Nat → Prop} {Q : State → Prop} (F : Fx E p s m args meth c (yX10_refusal).cls cX10_refusal 4 (some .int)) (hA : ∀ z : Nat, s.heap.size ≤ z → A z) {o : Int32 × QS} (hRt : RtI (wM E) E p l e rm_X10_refusal s m args below meth c A Q cX10_refusal o) {B20 : QS → Int32 → Int32 → Option (Int32 × QS)} (hB20 : ∀ (q : QS) (x1 : Int32) (x2 : Int32), B20 q x1 x2 = some o → ∀ ls : Array Slot, lv_has ls 4 [(0, .ref (eA E 0)), (1, .int x1), (2, .int x2)] → Wq (wM E) E p l e rm_X10_refusal s m args below meth c A 0 0 Q q (F0 m 20 ls [])) (q : QS) (x2 : Int32) (h : f_X10_refusal_52 B20 q x2 = some o) (ls : Array Slot) (hl : lv_has ls 4 [(0, .ref (eA E 0)), (2, .int x2)]) : Wq (wM E) E p l e rm_X10_refusal s m args below meth c A 0 0 Q q (F0 m 52 ls []) := by
  intro H locs hP hD hS
  have hx := F.1
  have hb := F.2.1
  unfold f_X10_refusal_52 at h
  refine lv_iconst (v := 1) hx hb dX10_refusal_52 (by decide) ?_
  refine lv_goto (tgt := 57) hx hb dX10_refusal_53 (by decide) ?_
  exact g_X10_refusal_57 F hA hRt hB20 q x2 (1 : Int32) h _ (lv_sub hl [0, 1] rfl) _ _ hP hD hS
def f_X10_refusal_20_b (K64 : QS → Int32 → Option (Int32 × QS)) (B20 : QS → Int32 → Int32 → Option (Int32 × QS)) (q : QS) (x1 : Int32) (x2 : Int32) : Option (Int32 × QS) :=
  if (qF q 4) ≤ x2 then
    K64 q x1
  else
    (f_X10_isGathered q).bind fun r4 =>
    if r4 = 0 then
      K64 q x1
    else
      if x1 = 0 then
        (rd (qI q 26) 8 x2).bind fun y8 =>
        (f_X10_isLoose q y8).bind fun r10 =>
        if r10.1 = 0 then
          f_X10_refusal_57 B20 r10.2 x2 (0 : Int32)
        else
          f_X10_refusal_52 B20 r10.2 x2
      else
        f_X10_refusal_52 B20 q x2
set_option maxHeartbeats 4000000 in
set_option maxRecDepth 100000 in
theorem g_X10_refusal_20_b {E : En} {p : Program} {l : Launch} {e : Env} {s : State} {m : MethodId} {args : Array Value} {below : List Frame} {meth : Method} {c : Code} {A : Nat → Prop} {Q : State → Prop} (F : Fx E p s m args meth c (yX10_refusal).cls cX10_refusal 4 (some .int)) (hA : ∀ z : Nat, s.heap.size ≤ z → A z) {o : Int32 × QS} (hRt : RtI (wM E) E p l e rm_X10_refusal s m args below meth c A Q cX10_refusal o) {K64 : QS → Int32 → Option (Int32 × QS)} {B20 : QS → Int32 → Int32 → Option (Int32 × QS)} (hK64 : ∀ (q : QS) (x1 : Int32), K64 q x1 = some o → ∀ ls : Array Slot, lv_has ls 4 [(0, .ref (eA E 0)), (1, .int x1)] → Wq (wM E) E p l e rm_X10_refusal s m args below meth c A 0 0 Q q (F0 m 64 ls [])) (hB20 : ∀ (q : QS) (x1 : Int32) (x2 : Int32), B20 q x1 x2 = some o → ∀ ls : Array Slot, lv_has ls 4 [(0, .ref (eA E 0)), (1, .int x1), (2, .int x2)] → Wq (wM E) E p l e rm_X10_refusal s m args below meth c A 0 0 Q q (F0 m 20 ls [])) (q : QS) (x1 : Int32) (x2 : Int32) (h : f_X10_refusal_20_b K64 B20 q x1 x2 = some o) (ls : Array Slot) (hl : lv_has ls 4 [(0, .ref (eA E 0)), (1, .int x1), (2, .int x2)]) : Wq (wM E) E p l e rm_X10_refusal s m args below meth c A 0 0 Q q (F0 m 20 ls []) := by
  intro H locs hP hD hS
  have hx := F.1
  have hb := F.2.1
  unfold f_X10_refusal_20_b at h
  refine lv_iload_n hx hb dX10_refusal_20 rfl (lv_at hl 2 rfl) ?_
  refine lv_aload_n hx hb dX10_refusal_21 rfl (lv_at hl 0 rfl) ?_
  refine r_get F hP i_X10 0 (me_0 E q) rfl 29 (by decide) rfl lf_X10_150 rfl dX10_refusal_22 ?_
  refine lv_icmp_ge (tgt := 64) hx hb dX10_refusal_25 (by decide) (fun c3 => ?_) (fun c3 => ?_)
  · rw [if_pos c3] at h
    exact hK64 q x1 h _ (lv_sub hl [0, 1] rfl) _ _ hP hD hS
  · rw [if_neg c3] at h
    refine lv_aload_n hx hb dX10_refusal_28 rfl (lv_at hl 0 rfl) ?_
    obtain ⟨r4, e5, h⟩ := Option.bind_eq_some_iff.mp h
    refine q_callV (As := []) (rest := []) F hA hP hD hS (c_X10_isGathered (E := E) (l := l) q e5) k_X10_isGathered in_X10_isGathered se_X10_isGathered lm_X10_262 0 (me_0 E q) rfl ⟨rfl, rfl⟩ ⟨by decide, by decide⟩ rfl hl.1 rfl (Nat.le_of_ble_eq_true rfl) dX10_refusal_29 ⟨by decide, by decide⟩ ?_
    intro H locs hP hD hS
    refine lv_if_eq (tgt := 64) hx hb dX10_refusal_32 (by decide) (fun c6 => ?_) (fun c6 => ?_)
    · rw [if_pos c6] at h
      exact hK64 q x1 h _ (lv_sub hl [0, 1] rfl) _ _ hP hD hS
    · rw [if_neg c6] at h
      refine lv_iload_n hx hb dX10_refusal_35 rfl (lv_at hl 1 rfl) ?_
      refine lv_if_ne (tgt := 52) hx hb dX10_refusal_36 (by decide) (fun c7 => ?_) (fun c7 => ?_)
      · rw [if_neg c7] at h
        exact g_X10_refusal_52 F hA hRt hB20 q x2 h _ (lv_sub hl [0, 2] rfl) _ _ hP hD hS
      · rw [if_pos c7] at h
        refine lv_aload_n hx hb dX10_refusal_39 rfl (lv_at hl 0 rfl) ?_
        refine lv_aload_n hx hb dX10_refusal_40 rfl (lv_at hl 0 rfl) ?_
        refine r_get F hP i_X10 0 (me_0 E q) rfl 30 (by decide) rfl lf_X10_93 rfl dX10_refusal_41 ?_
        refine lv_iload_n hx hb dX10_refusal_44 rfl (lv_at hl 2 rfl) ?_
        obtain ⟨y8, e9, h⟩ := Option.bind_eq_some_iff.mp h
        refine r_iald F hP 26 (me_26 E q) e9 dX10_refusal_45 ?_
        obtain ⟨r10, e11, h⟩ := Option.bind_eq_some_iff.mp h
        refine q_callV (As := [.int y8]) (rest := []) F hA hP hD hS (c_X10_isLoose (E := E) (l := l) q y8 e11) k_X10_isLoose in_X10_isLoose se_X10_isLoose lm_X10_266 0 (me_0 E q) rfl ⟨rfl, rfl⟩ ⟨by decide, by decide⟩ rfl hl.1 rfl (Nat.le_of_ble_eq_true rfl) dX10_refusal_46 ⟨by decide, by decide⟩ ?_
        intro H locs hP hD hS
        refine lv_if_eq (tgt := 56) hx hb dX10_refusal_49 (by decide) (fun c12 => ?_) (fun c12 => ?_)
        · rw [if_pos c12] at h
          refine lv_iconst (v := 0) hx hb dX10_refusal_56 (by decide) ?_
          exact g_X10_refusal_57 F hA hRt hB20 r10.2 x2 (0 : Int32) h _ (lv_sub hl [0, 2] rfl) _ _ hP hD hS
        · rw [if_neg c12] at h
          exact g_X10_refusal_52 F hA hRt hB20 r10.2 x2 h _ (lv_sub hl [0, 2] rfl) _ _ hP hD hS
def f_X10_refusal_20 (K64 : QS → Int32 → Option (Int32 × QS)) : Nat → QS → Int32 → Int32 → Option (Int32 × QS)
  | 0 => fun _ _ _ => none
  | n + 1 => f_X10_refusal_20_b K64 (f_X10_refusal_20 K64 n)
theorem g_X10_refusal_20 {E : En} {p : Program} {l : Launch} {e : Env} {s : State} {m : MethodId} {args : Array Value} {below : List Frame} {meth : Method} {c : Code} {A : Nat → Prop} {Q : State → Prop} (F : Fx E p s m args meth c (yX10_refusal).cls cX10_refusal 4 (some .int)) (hA : ∀ z : Nat, s.heap.size ≤ z → A z) {o : Int32 × QS} (hRt : RtI (wM E) E p l e rm_X10_refusal s m args below meth c A Q cX10_refusal o) {K64 : QS → Int32 → Option (Int32 × QS)} (hK64 : ∀ (q : QS) (x1 : Int32), K64 q x1 = some o → ∀ ls : Array Slot, lv_has ls 4 [(0, .ref (eA E 0)), (1, .int x1)] → Wq (wM E) E p l e rm_X10_refusal s m args below meth c A 0 0 Q q (F0 m 64 ls [])) (n : Nat) : ∀ (q : QS) (x1 : Int32) (x2 : Int32), f_X10_refusal_20 K64 n q x1 x2 = some o → ∀ ls : Array Slot, lv_has ls 4 [(0, .ref (eA E 0)), (1, .int x1), (2, .int x2)] → Wq (wM E) E p l e rm_X10_refusal s m args below meth c A 0 0 Q q (F0 m 20 ls []) := by
  induction n with
  | zero => intro q x1 x2 h; cases h
  | succ n ih => intro q x1 x2 h; exact g_X10_refusal_20_b F hA hRt hK64 ih q x1 x2 h
def f_X10_refusal_103 (B75 : QS → Int32 → Int32 → Option (Int32 × QS)) (q : QS) (x3 : Int32) (t0 : Int32) (t1 : Int32) : Option (Int32 × QS) :=
  B75 q (t0 * t1) (x3 + (1 : Int32))
set_option maxHeartbeats 4000000 in
set_option maxRecDepth 100000 in
theorem g_X10_refusal_103 {E : En} {p : Program} {l : Launch} {e : Env} {s : State} {m : MethodId} {args : Array Value} {below : List Frame} {meth : Method} {c : Code} {A : Nat → Prop} {Q : State → Prop} (F : Fx E p s m args meth c (yX10_refusal).cls cX10_refusal 4 (some .int)) (hA : ∀ z : Nat, s.heap.size ≤ z → A z) {o : Int32 × QS} (hRt : RtI (wM E) E p l e rm_X10_refusal s m args below meth c A Q cX10_refusal o) {B75 : QS → Int32 → Int32 → Option (Int32 × QS)} (hB75 : ∀ (q : QS) (x2 : Int32) (x3 : Int32), B75 q x2 x3 = some o → ∀ ls : Array Slot, lv_has ls 4 [(0, .ref (eA E 0)), (2, .int x2), (3, .int x3)] → Wq (wM E) E p l e rm_X10_refusal s m args below meth c A 0 0 Q q (F0 m 75 ls [])) (q : QS) (x3 : Int32) (t0 : Int32) (t1 : Int32) (h : f_X10_refusal_103 B75 q x3 t0 t1 = some o) (ls : Array Slot) (hl : lv_has ls 4 [(0, .ref (eA E 0)), (3, .int x3)]) : Wq (wM E) E p l e rm_X10_refusal s m args below meth c A 0 0 Q q (F0 m 103 ls [.int t1, .int t0]) := by
  intro H locs hP hD hS
  have hx := F.1
  have hb := F.2.1
  unfold f_X10_refusal_103 at h
  refine lv_imul hx hb dX10_refusal_103 ?_
  refine lv_istore_n (lv' := [(2, .int (t0 * t1)), (0, .ref (eA E 0)), (3, .int x3)]) hx hb dX10_refusal_104 rfl hl (by decide) rfl (fun ls hl => ?_)
  refine lv_iinc (v := (x3 + (1 : Int32))) (lv' := [(3, .int (x3 + (1 : Int32))), (2, .int (t0 * t1)), (0, .ref (eA E 0))]) hx hb dX10_refusal_105 hl (k := 2) rfl rfl (by decide) rfl (fun ls hl => ?_)
  refine lv_goto (tgt := 75) hx hb dX10_refusal_108 (by decide) ?_
  exact hB75 q (t0 * t1) (x3 + (1 : Int32)) h _ (lv_sub hl [2, 1, 0] rfl) _ _ hP hD hS
def f_X10_refusal_75_b (B75 : QS → Int32 → Int32 → Option (Int32 × QS)) (q : QS) (x2 : Int32) (x3 : Int32) : Option (Int32 × QS) :=
  if (qF q 1) ≤ x3 then
    if x2 ≤ (40000 : Int32) then
      some ((0 : Int32), q)
    else
      some ((-2 : Int32), q)
  else
    (rd (qI q 9) 3 x3).bind fun y16 =>
    if y16 = 0 then
      f_X10_refusal_103 B75 q x3 x2 (1 : Int32)
    else
      (rd (qI q 9) 3 x3).bind fun y19 =>
      f_X10_refusal_103 B75 q x3 x2 y19
set_option maxHeartbeats 4000000 in
set_option maxRecDepth 100000 in
theorem g_X10_refusal_75_b {E : En} {p : Program} {l : Launch} {e : Env} {s : State} {m : MethodId} {args : Array Value} {below : List Frame} {meth : Method} {c : Code} {A : Nat → Prop} {Q : State → Prop} (F : Fx E p s m args meth c (yX10_refusal).cls cX10_refusal 4 (some .int)) (hA : ∀ z : Nat, s.heap.size ≤ z → A z) {o : Int32 × QS} (hRt : RtI (wM E) E p l e rm_X10_refusal s m args below meth c A Q cX10_refusal o) {B75 : QS → Int32 → Int32 → Option (Int32 × QS)} (hB75 : ∀ (q : QS) (x2 : Int32) (x3 : Int32), B75 q x2 x3 = some o → ∀ ls : Array Slot, lv_has ls 4 [(0, .ref (eA E 0)), (2, .int x2), (3, .int x3)] → Wq (wM E) E p l e rm_X10_refusal s m args below meth c A 0 0 Q q (F0 m 75 ls [])) (q : QS) (x2 : Int32) (x3 : Int32) (h : f_X10_refusal_75_b B75 q x2 x3 = some o) (ls : Array Slot) (hl : lv_has ls 4 [(0, .ref (eA E 0)), (2, .int x2), (3, .int x3)]) : Wq (wM E) E p l e rm_X10_refusal s m args below meth c A 0 0 Q q (F0 m 75 ls []) := by
  intro H locs hP hD hS
  have hx := F.1
  have hb := F.2.1
  unfold f_X10_refusal_75_b at h
  refine lv_iload_n hx hb dX10_refusal_75 rfl (lv_at hl 2 rfl) ?_
  refine lv_aload_n hx hb dX10_refusal_76 rfl (lv_at hl 0 rfl) ?_
  refine r_get F hP i_X10 0 (me_0 E q) rfl 7 (by decide) rfl lf_X10_144 rfl dX10_refusal_77 ?_
  refine lv_icmp_ge (tgt := 111) hx hb dX10_refusal_80 (by decide) (fun c14 => ?_) (fun c14 => ?_)
  · rw [if_pos c14] at h
    refine lv_iload_n hx hb dX10_refusal_111 rfl (lv_at hl 1 rfl) ?_
    refine lv_ldcw (v := 40000) hx hb F.2.2.2.1 (F.2.2.2.2.1 _ lc_X10_269) dX10_refusal_112 ?_
    refine lv_icmp_le (tgt := 123) hx hb dX10_refusal_115 (by decide) (fun c15 => ?_) (fun c15 => ?_)
    · rw [if_pos c15] at h
      refine lv_iconst (v := 0) hx hb dX10_refusal_123 (by decide) ?_
      cases h
      exact hRt _ _ dX10_refusal_124 _ _ hP hD hS
    · rw [if_neg c15] at h
      refine lv_bipush (v := (-2)) hx hb dX10_refusal_118 (by decide) ?_
      refine lv_goto (tgt := 124) hx hb dX10_refusal_120 (by decide) ?_
      cases h
      exact hRt _ _ dX10_refusal_124 _ _ hP hD hS
  · rw [if_neg c14] at h
    refine lv_iload_n hx hb dX10_refusal_83 rfl (lv_at hl 1 rfl) ?_
    refine lv_aload_n hx hb dX10_refusal_84 rfl (lv_at hl 0 rfl) ?_
    refine r_get F hP i_X10 0 (me_0 E q) rfl 10 (by decide) rfl lf_X10_37 rfl dX10_refusal_85 ?_
    refine lv_iload_n hx hb dX10_refusal_88 rfl (lv_at hl 2 rfl) ?_
    obtain ⟨y16, e17, h⟩ := Option.bind_eq_some_iff.mp h
    refine r_iald F hP 9 (me_9 E q) e17 dX10_refusal_89 ?_
    refine lv_if_ne (tgt := 97) hx hb dX10_refusal_90 (by decide) (fun c18 => ?_) (fun c18 => ?_)
    · rw [if_neg c18] at h
      refine lv_aload_n hx hb dX10_refusal_97 rfl (lv_at hl 0 rfl) ?_
      refine r_get F hP i_X10 0 (me_0 E q) rfl 10 (by decide) rfl lf_X10_37 rfl dX10_refusal_98 ?_
      refine lv_iload_n hx hb dX10_refusal_101 rfl (lv_at hl 2 rfl) ?_
      obtain ⟨y19, e20, h⟩ := Option.bind_eq_some_iff.mp h
      refine r_iald F hP 9 (me_9 E q) e20 dX10_refusal_102 ?_
      exact g_X10_refusal_103 F hA hRt hB75 q x3 x2 y19 h _ (lv_sub hl [0, 2] rfl) _ _ hP hD hS
    · rw [if_pos c18] at h
      refine lv_iconst (v := 1) hx hb dX10_refusal_93 (by decide) ?_
      refine lv_goto (tgt := 103) hx hb dX10_refusal_94 (by decide) ?_
      exact g_X10_refusal_103 F hA hRt hB75 q x3 x2 (1 : Int32) h _ (lv_sub hl [0, 2] rfl) _ _ hP hD hS
def f_X10_refusal_75 : Nat → QS → Int32 → Int32 → Option (Int32 × QS)
  | 0 => fun _ _ _ => none
  | n + 1 => f_X10_refusal_75_b (f_X10_refusal_75 n)
theorem g_X10_refusal_75 {E : En} {p : Program} {l : Launch} {e : Env} {s : State} {m : MethodId} {args : Array Value} {below : List Frame} {meth : Method} {c : Code} {A : Nat → Prop} {Q : State → Prop} (F : Fx E p s m args meth c (yX10_refusal).cls cX10_refusal 4 (some .int)) (hA : ∀ z : Nat, s.heap.size ≤ z → A z) {o : Int32 × QS} (hRt : RtI (wM E) E p l e rm_X10_refusal s m args below meth c A Q cX10_refusal o) (n : Nat) : ∀ (q : QS) (x2 : Int32) (x3 : Int32), f_X10_refusal_75 n q x2 x3 = some o → ∀ ls : Array Slot, lv_has ls 4 [(0, .ref (eA E 0)), (2, .int x2), (3, .int x3)] → Wq (wM E) E p l e rm_X10_refusal s m args below meth c A 0 0 Q q (F0 m 75 ls []) := by
  induction n with
  | zero => intro q x2 x3 h; cases h
  | succ n ih => intro q x2 x3 h; exact g_X10_refusal_75_b F hA hRt ih q x2 x3 h
def f_X10_refusal_64 (q : QS) (x1 : Int32) : Option (Int32 × QS) :=
  if x1 = 0 then
    f_X10_refusal_75 FU q (1 : Int32) (0 : Int32)
  else
    some ((-3 : Int32), q)
set_option maxHeartbeats 4000000 in
set_option maxRecDepth 100000 in
theorem g_X10_refusal_64 {E : En} {p : Program} {l : Launch} {e : Env} {s : State} {m : MethodId} {args : Array Value} {below : List Frame} {meth : Method} {c : Code} {A : Nat → Prop} {Q : State → Prop} (F : Fx E p s m args meth c (yX10_refusal).cls cX10_refusal 4 (some .int)) (hA : ∀ z : Nat, s.heap.size ≤ z → A z) {o : Int32 × QS} (hRt : RtI (wM E) E p l e rm_X10_refusal s m args below meth c A Q cX10_refusal o) (q : QS) (x1 : Int32) (h : f_X10_refusal_64 q x1 = some o) (ls : Array Slot) (hl : lv_has ls 4 [(0, .ref (eA E 0)), (1, .int x1)]) : Wq (wM E) E p l e rm_X10_refusal s m args below meth c A 0 0 Q q (F0 m 64 ls []) := by
  intro H locs hP hD hS
  have hx := F.1
  have hb := F.2.1
  unfold f_X10_refusal_64 at h
  refine lv_iload_n hx hb dX10_refusal_64 rfl (lv_at hl 1 rfl) ?_
  refine lv_if_eq (tgt := 71) hx hb dX10_refusal_65 (by decide) (fun c13 => ?_) (fun c13 => ?_)
  · rw [if_pos c13] at h
    refine lv_iconst (v := 1) hx hb dX10_refusal_71 (by decide) ?_
    refine lv_istore_n (lv' := [(2, .int (1 : Int32)), (0, .ref (eA E 0)), (1, .int x1)]) hx hb dX10_refusal_72 rfl hl (by decide) rfl (fun ls hl => ?_)
    refine lv_iconst (v := 0) hx hb dX10_refusal_73 (by decide) ?_
    refine lv_istore_n (lv' := [(3, .int (0 : Int32)), (2, .int (1 : Int32)), (0, .ref (eA E 0)), (1, .int x1)]) hx hb dX10_refusal_74 rfl hl (by decide) rfl (fun ls hl => ?_)
    exact g_X10_refusal_75 F hA hRt FU q (1 : Int32) (0 : Int32) h _ (lv_sub hl [2, 1, 0] rfl) _ _ hP hD hS
  · rw [if_neg c13] at h
    refine lv_bipush (v := (-3)) hx hb dX10_refusal_68 (by decide) ?_
    cases h
    exact hRt _ _ dX10_refusal_70 _ _ hP hD hS
def f_X10_refusal_0 (q : QS) : Option (Int32 × QS) :=
  if (qF q 1) = 0 then
    some ((-1 : Int32), q)
  else
    if (qF q 4) = 0 then
      some ((-1 : Int32), q)
    else
      f_X10_refusal_20 (f_X10_refusal_64) FU q (0 : Int32) (0 : Int32)
set_option maxHeartbeats 4000000 in
set_option maxRecDepth 100000 in
theorem g_X10_refusal_0 {E : En} {p : Program} {l : Launch} {e : Env} {s : State} {m : MethodId} {args : Array Value} {below : List Frame} {meth : Method} {c : Code} {A : Nat → Prop} {Q : State → Prop} (F : Fx E p s m args meth c (yX10_refusal).cls cX10_refusal 4 (some .int)) (hA : ∀ z : Nat, s.heap.size ≤ z → A z) {o : Int32 × QS} (hRt : RtI (wM E) E p l e rm_X10_refusal s m args below meth c A Q cX10_refusal o) (q : QS) (h : f_X10_refusal_0 q = some o) (ls : Array Slot) (hl : lv_has ls 4 [(0, .ref (eA E 0))]) : Wq (wM E) E p l e rm_X10_refusal s m args below meth c A 0 0 Q q (F0 m 0 ls []) := by
  intro H locs hP hD hS
  have hx := F.1
  have hb := F.2.1
  unfold f_X10_refusal_0 at h
  refine lv_aload_n hx hb dX10_refusal_0 rfl (lv_at hl 0 rfl) ?_
  refine r_get F hP i_X10 0 (me_0 E q) rfl 7 (by decide) rfl lf_X10_144 rfl dX10_refusal_1 ?_
  refine lv_if_eq (tgt := 14) hx hb dX10_refusal_4 (by decide) (fun c1 => ?_) (fun c1 => ?_)
  · rw [if_pos c1] at h
    refine lv_iconst (v := (-1)) hx hb dX10_refusal_14 (by decide) ?_
    cases h
    exact hRt _ _ dX10_refusal_15 _ _ hP hD hS
  · rw [if_neg c1] at h
    refine lv_aload_n hx hb dX10_refusal_7 rfl (lv_at hl 0 rfl) ?_
    refine r_get F hP i_X10 0 (me_0 E q) rfl 29 (by decide) rfl lf_X10_150 rfl dX10_refusal_8 ?_
    refine lv_if_ne (tgt := 16) hx hb dX10_refusal_11 (by decide) (fun c2 => ?_) (fun c2 => ?_)
    · rw [if_neg c2] at h
      refine lv_iconst (v := 0) hx hb dX10_refusal_16 (by decide) ?_
      refine lv_istore_n (lv' := [(1, .int (0 : Int32)), (0, .ref (eA E 0))]) hx hb dX10_refusal_17 rfl hl (by decide) rfl (fun ls hl => ?_)
      refine lv_iconst (v := 0) hx hb dX10_refusal_18 (by decide) ?_
      refine lv_istore_n (lv' := [(2, .int (0 : Int32)), (1, .int (0 : Int32)), (0, .ref (eA E 0))]) hx hb dX10_refusal_19 rfl hl (by decide) rfl (fun ls hl => ?_)
      exact g_X10_refusal_20 F hA hRt (g_X10_refusal_64 F hA hRt) FU q (0 : Int32) (0 : Int32) h _ (lv_sub hl [2, 1, 0] rfl) _ _ hP hD hS
    · rw [if_pos c2] at h
      refine lv_iconst (v := (-1)) hx hb dX10_refusal_14 (by decide) ?_
      cases h
      exact hRt _ _ dX10_refusal_15 _ _ hP hD hS
def f_X10_refusal (q : QS) : Option (Int32 × QS) := f_X10_refusal_0 q
set_option maxRecDepth 100000 in
theorem c_X10_refusal {E : En} {l : Launch} (q : QS) {o : Int32 × QS} (h : f_X10_refusal q = some o) : Ct (wM E) E l yX10_refusal (wy yX10_refusal cX10_refusal 4 (some .int)) rm_X10_refusal q o.2 [.ref (eA E 0)] (some (.int o.1)) :=
  ct_I (o := o) (by decide +kernel) rfl (fun p e s m below meth c A Q F hA hRt H locs hP hD hS => en_W [.ref (eA E 0)] (Nat.le_of_ble_eq_true rfl) (fun ls hl => g_X10_refusal_0 F hA hRt q h ls (lv_sub hl [0] rfl) H locs hP hD hS))
def rm_X10_counts : Room := { frames := 3, cells := 0, slots := 0, locals := 78 }
def f_X10_counts_35 (B11 : QS → Int32 → Int32 → Option (Int32 × QS)) (q : QS) (x1 : Int32) (x2 : Int32) : Option (Int32 × QS) :=
  B11 q x1 (x2 + (1 : Int32))
set_option maxHeartbeats 4000000 in
set_option maxRecDepth 100000 in
theorem g_X10_counts_35 {E : En} {p : Program} {l : Launch} {e : Env} {s : State} {m : MethodId} {args : Array Value} {below : List Frame} {meth : Method} {c : Code} {A : Nat → Prop} {Q : State → Prop} (F : Fx E p s m args meth c (yX10_counts).cls cX10_counts 3 (some .boolean)) (hA : ∀ z : Nat, s.heap.size ≤ z → A z) {o : Int32 × QS} (hRt : RtZ (wM E) E p l e rm_X10_counts s m args below meth c A Q cX10_counts o) {B11 : QS → Int32 → Int32 → Option (Int32 × QS)} (hB11 : ∀ (q : QS) (x1 : Int32) (x2 : Int32), B11 q x1 x2 = some o → ∀ ls : Array Slot, lv_has ls 3 [(0, .ref (eA E 0)), (1, .int x1), (2, .int x2)] → Wq (wM E) E p l e rm_X10_counts s m args below meth c A 0 0 Q q (F0 m 11 ls [])) (q : QS) (x1 : Int32) (x2 : Int32) (h : f_X10_counts_35 B11 q x1 x2 = some o) (ls : Array Slot) (hl : lv_has ls 3 [(0, .ref (eA E 0)), (1, .int x1), (2, .int x2)]) : Wq (wM E) E p l e rm_X10_counts s m args below meth c A 0 0 Q q (F0 m 35 ls []) := by
  intro H locs hP hD hS
  have hx := F.1
  have hb := F.2.1
  unfold f_X10_counts_35 at h
  refine lv_iinc (v := (x2 + (1 : Int32))) (lv' := [(2, .int (x2 + (1 : Int32))), (0, .ref (eA E 0)), (1, .int x1)]) hx hb dX10_counts_35 hl (k := 2) rfl rfl (by decide) rfl (fun ls hl => ?_)
  refine lv_goto (tgt := 11) hx hb dX10_counts_38 (by decide) ?_
  exact hB11 q x1 (x2 + (1 : Int32)) h _ (lv_sub hl [1, 2, 0] rfl) _ _ hP hD hS
def f_X10_counts_11_b (K41 : QS → Option (Int32 × QS)) (B11 : QS → Int32 → Int32 → Option (Int32 × QS)) (q : QS) (x1 : Int32) (x2 : Int32) : Option (Int32 × QS) :=
  if (qF q 3) < x2 then
    K41 q
  else
    (rd (qI q 25) 200 x2).bind fun y3 =>
    if y3 = (1 : Int32) then
      (f_X10_compute q x2 x1).bind fun r6 =>
      f_X10_counts_35 B11 r6 x1 x2
    else
      f_X10_counts_35 B11 q x1 x2
set_option maxHeartbeats 4000000 in
set_option maxRecDepth 100000 in
theorem g_X10_counts_11_b {E : En} {p : Program} {l : Launch} {e : Env} {s : State} {m : MethodId} {args : Array Value} {below : List Frame} {meth : Method} {c : Code} {A : Nat → Prop} {Q : State → Prop} (F : Fx E p s m args meth c (yX10_counts).cls cX10_counts 3 (some .boolean)) (hA : ∀ z : Nat, s.heap.size ≤ z → A z) {o : Int32 × QS} (hRt : RtZ (wM E) E p l e rm_X10_counts s m args below meth c A Q cX10_counts o) {K41 : QS → Option (Int32 × QS)} {B11 : QS → Int32 → Int32 → Option (Int32 × QS)} (hK41 : ∀ (q : QS), K41 q = some o → ∀ ls : Array Slot, lv_has ls 3 [(0, .ref (eA E 0))] → Wq (wM E) E p l e rm_X10_counts s m args below meth c A 0 0 Q q (F0 m 41 ls [])) (hB11 : ∀ (q : QS) (x1 : Int32) (x2 : Int32), B11 q x1 x2 = some o → ∀ ls : Array Slot, lv_has ls 3 [(0, .ref (eA E 0)), (1, .int x1), (2, .int x2)] → Wq (wM E) E p l e rm_X10_counts s m args below meth c A 0 0 Q q (F0 m 11 ls [])) (q : QS) (x1 : Int32) (x2 : Int32) (h : f_X10_counts_11_b K41 B11 q x1 x2 = some o) (ls : Array Slot) (hl : lv_has ls 3 [(0, .ref (eA E 0)), (1, .int x1), (2, .int x2)]) : Wq (wM E) E p l e rm_X10_counts s m args below meth c A 0 0 Q q (F0 m 11 ls []) := by
  intro H locs hP hD hS
  have hx := F.1
  have hb := F.2.1
  unfold f_X10_counts_11_b at h
  refine lv_iload_n hx hb dX10_counts_11 rfl (lv_at hl 2 rfl) ?_
  refine lv_aload_n hx hb dX10_counts_12 rfl (lv_at hl 0 rfl) ?_
  refine r_get F hP i_X10 0 (me_0 E q) rfl 28 (by decide) rfl lf_X10_89 rfl dX10_counts_13 ?_
  refine lv_icmp_gt (tgt := 41) hx hb dX10_counts_16 (by decide) (fun c2 => ?_) (fun c2 => ?_)
  · rw [if_pos c2] at h
    exact hK41 q h _ (lv_sub hl [0] rfl) _ _ hP hD hS
  · rw [if_neg c2] at h
    refine lv_aload_n hx hb dX10_counts_19 rfl (lv_at hl 0 rfl) ?_
    refine r_get F hP i_X10 0 (me_0 E q) rfl 27 (by decide) rfl lf_X10_86 rfl dX10_counts_20 ?_
    refine lv_iload_n hx hb dX10_counts_23 rfl (lv_at hl 2 rfl) ?_
    obtain ⟨y3, e4, h⟩ := Option.bind_eq_some_iff.mp h
    refine r_iald F hP 25 (me_25 E q) e4 dX10_counts_24 ?_
    refine lv_iconst (v := 1) hx hb dX10_counts_25 (by decide) ?_
    refine lv_icmp_ne (tgt := 35) hx hb dX10_counts_26 (by decide) (fun c5 => ?_) (fun c5 => ?_)
    · rw [if_neg c5] at h
      exact g_X10_counts_35 F hA hRt hB11 q x1 x2 h _ (lv_sub hl [0, 1, 2] rfl) _ _ hP hD hS
    · rw [if_pos c5] at h
      refine lv_aload_n hx hb dX10_counts_29 rfl (lv_at hl 0 rfl) ?_
      refine lv_iload_n hx hb dX10_counts_30 rfl (lv_at hl 2 rfl) ?_
      refine lv_iload_n hx hb dX10_counts_31 rfl (lv_at hl 1 rfl) ?_
      obtain ⟨r6, e7, h⟩ := Option.bind_eq_some_iff.mp h
      refine q_callV (As := [.int x2, .int x1]) (rest := []) F hA hP hD hS (c_X10_compute (E := E) (l := l) q x2 x1 e7) k_X10_compute in_X10_compute se_X10_compute lm_X10_247 0 (me_0 E q) rfl ⟨rfl, rfl⟩ ⟨by decide, by decide⟩ rfl hl.1 rfl (Nat.le_of_ble_eq_true rfl) dX10_counts_32 ⟨by decide, by decide⟩ ?_
      intro H locs hP hD hS
      exact g_X10_counts_35 F hA hRt hB11 r6 x1 x2 h _ (lv_sub hl [0, 1, 2] rfl) _ _ hP hD hS
def f_X10_counts_11 (K41 : QS → Option (Int32 × QS)) : Nat → QS → Int32 → Int32 → Option (Int32 × QS)
  | 0 => fun _ _ _ => none
  | n + 1 => f_X10_counts_11_b K41 (f_X10_counts_11 K41 n)
theorem g_X10_counts_11 {E : En} {p : Program} {l : Launch} {e : Env} {s : State} {m : MethodId} {args : Array Value} {below : List Frame} {meth : Method} {c : Code} {A : Nat → Prop} {Q : State → Prop} (F : Fx E p s m args meth c (yX10_counts).cls cX10_counts 3 (some .boolean)) (hA : ∀ z : Nat, s.heap.size ≤ z → A z) {o : Int32 × QS} (hRt : RtZ (wM E) E p l e rm_X10_counts s m args below meth c A Q cX10_counts o) {K41 : QS → Option (Int32 × QS)} (hK41 : ∀ (q : QS), K41 q = some o → ∀ ls : Array Slot, lv_has ls 3 [(0, .ref (eA E 0))] → Wq (wM E) E p l e rm_X10_counts s m args below meth c A 0 0 Q q (F0 m 41 ls [])) (n : Nat) : ∀ (q : QS) (x1 : Int32) (x2 : Int32), f_X10_counts_11 K41 n q x1 x2 = some o → ∀ ls : Array Slot, lv_has ls 3 [(0, .ref (eA E 0)), (1, .int x1), (2, .int x2)] → Wq (wM E) E p l e rm_X10_counts s m args below meth c A 0 0 Q q (F0 m 11 ls []) := by
  induction n with
  | zero => intro q x1 x2 h; cases h
  | succ n ih => intro q x1 x2 h; exact g_X10_counts_11_b F hA hRt hK41 ih q x1 x2 h
def f_X10_counts_41 (q : QS) : Option (Int32 × QS) :=
  (rd (qI q 17) 200 (qF q 3)).bind fun y8 =>
  if y8 = 0 then
    (rd (qL q 18) 200 (qF q 3)).bind fun y11 =>
    if (lg_cmp y11 (1 : Int64)) = 0 then
      some ((1 : Int32), q)
    else
      some ((0 : Int32), q)
  else
    some ((0 : Int32), q)
set_option maxHeartbeats 4000000 in
set_option maxRecDepth 100000 in
theorem g_X10_counts_41 {E : En} {p : Program} {l : Launch} {e : Env} {s : State} {m : MethodId} {args : Array Value} {below : List Frame} {meth : Method} {c : Code} {A : Nat → Prop} {Q : State → Prop} (F : Fx E p s m args meth c (yX10_counts).cls cX10_counts 3 (some .boolean)) (hA : ∀ z : Nat, s.heap.size ≤ z → A z) {o : Int32 × QS} (hRt : RtZ (wM E) E p l e rm_X10_counts s m args below meth c A Q cX10_counts o) (q : QS) (h : f_X10_counts_41 q = some o) (ls : Array Slot) (hl : lv_has ls 3 [(0, .ref (eA E 0))]) : Wq (wM E) E p l e rm_X10_counts s m args below meth c A 0 0 Q q (F0 m 41 ls []) := by
  intro H locs hP hD hS
  have hx := F.1
  have hb := F.2.1
  unfold f_X10_counts_41 at h
  refine lv_aload_n hx hb dX10_counts_41 rfl (lv_at hl 0 rfl) ?_
  refine r_get F hP i_X10 0 (me_0 E q) rfl 19 (by decide) rfl lf_X10_62 rfl dX10_counts_42 ?_
  refine lv_aload_n hx hb dX10_counts_45 rfl (lv_at hl 0 rfl) ?_
  refine r_get F hP i_X10 0 (me_0 E q) rfl 28 (by decide) rfl lf_X10_89 rfl dX10_counts_46 ?_
  obtain ⟨y8, e9, h⟩ := Option.bind_eq_some_iff.mp h
  refine r_zald F hP 17 (me_17 E q) e9 dX10_counts_49 ?_
  refine lv_if_ne (tgt := 71) hx hb dX10_counts_50 (by decide) (fun c10 => ?_) (fun c10 => ?_)
  · rw [if_neg c10] at h
    refine lv_iconst (v := 0) hx hb dX10_counts_71 (by decide) ?_
    cases h
    exact hRt _ _ zz_0 dX10_counts_72 _ _ hP hD hS
  · rw [if_pos c10] at h
    refine lv_aload_n hx hb dX10_counts_53 rfl (lv_at hl 0 rfl) ?_
    refine r_get F hP i_X10 0 (me_0 E q) rfl 20 (by decide) rfl lf_X10_65 rfl dX10_counts_54 ?_
    refine lv_aload_n hx hb dX10_counts_57 rfl (lv_at hl 0 rfl) ?_
    refine r_get F hP i_X10 0 (me_0 E q) rfl 28 (by decide) rfl lf_X10_89 rfl dX10_counts_58 ?_
    obtain ⟨y11, e12, h⟩ := Option.bind_eq_some_iff.mp h
    refine r_lald F hP 18 (me_18 E q) e12 dX10_counts_61 ?_
    refine lv_lconst (v := 1) hx hb dX10_counts_62 (by decide) ?_
    refine W.lcmp hx hb dX10_counts_63 ?_
    refine lv_if_ne (tgt := 71) hx hb dX10_counts_64 (by decide) (fun c13 => ?_) (fun c13 => ?_)
    · rw [if_neg c13] at h
      refine lv_iconst (v := 0) hx hb dX10_counts_71 (by decide) ?_
      cases h
      exact hRt _ _ zz_0 dX10_counts_72 _ _ hP hD hS
    · rw [if_pos c13] at h
      refine lv_iconst (v := 1) hx hb dX10_counts_67 (by decide) ?_
      refine lv_goto (tgt := 72) hx hb dX10_counts_68 (by decide) ?_
      cases h
      exact hRt _ _ zz_1 dX10_counts_72 _ _ hP hD hS
def f_X10_counts_0 (q : QS) (x1 : Int32) : Option (Int32 × QS) :=
  if 0 ≤ (qF q 3) then
    f_X10_counts_11 (f_X10_counts_41) FU q x1 (0 : Int32)
  else
    some ((1 : Int32), q)
set_option maxHeartbeats 4000000 in
set_option maxRecDepth 100000 in
theorem g_X10_counts_0 {E : En} {p : Program} {l : Launch} {e : Env} {s : State} {m : MethodId} {args : Array Value} {below : List Frame} {meth : Method} {c : Code} {A : Nat → Prop} {Q : State → Prop} (F : Fx E p s m args meth c (yX10_counts).cls cX10_counts 3 (some .boolean)) (hA : ∀ z : Nat, s.heap.size ≤ z → A z) {o : Int32 × QS} (hRt : RtZ (wM E) E p l e rm_X10_counts s m args below meth c A Q cX10_counts o) (q : QS) (x1 : Int32) (h : f_X10_counts_0 q x1 = some o) (ls : Array Slot) (hl : lv_has ls 3 [(0, .ref (eA E 0)), (1, .int x1)]) : Wq (wM E) E p l e rm_X10_counts s m args below meth c A 0 0 Q q (F0 m 0 ls []) := by
  intro H locs hP hD hS
  have hx := F.1
  have hb := F.2.1
  unfold f_X10_counts_0 at h
  refine lv_aload_n hx hb dX10_counts_0 rfl (lv_at hl 0 rfl) ?_
  refine r_get F hP i_X10 0 (me_0 E q) rfl 28 (by decide) rfl lf_X10_89 rfl dX10_counts_1 ?_
  refine lv_if_ge (tgt := 9) hx hb dX10_counts_4 (by decide) (fun c1 => ?_) (fun c1 => ?_)
  · rw [if_pos c1] at h
    refine lv_iconst (v := 0) hx hb dX10_counts_9 (by decide) ?_
    refine lv_istore_n (lv' := [(2, .int (0 : Int32)), (0, .ref (eA E 0)), (1, .int x1)]) hx hb dX10_counts_10 rfl hl (by decide) rfl (fun ls hl => ?_)
    exact g_X10_counts_11 F hA hRt (g_X10_counts_41 F hA hRt) FU q x1 (0 : Int32) h _ (lv_sub hl [1, 2, 0] rfl) _ _ hP hD hS
  · rw [if_neg c1] at h
    refine lv_iconst (v := 1) hx hb dX10_counts_7 (by decide) ?_
    cases h
    exact hRt _ _ zz_1 dX10_counts_8 _ _ hP hD hS
def f_X10_counts (q : QS) (x1 : Int32) : Option (Int32 × QS) := f_X10_counts_0 q x1
set_option maxRecDepth 100000 in
theorem c_X10_counts {E : En} {l : Launch} (q : QS) (x1 : Int32) {o : Int32 × QS} (h : f_X10_counts q x1 = some o) : Ct (wM E) E l yX10_counts (wy yX10_counts cX10_counts 3 (some .boolean)) rm_X10_counts q o.2 [.ref (eA E 0), .int x1] (some (.int o.1)) :=
  ct_Z (o := o) (by decide +kernel) (fun p e s m below meth c A Q F hA hRt H locs hP hD hS => en_W [.ref (eA E 0), .int x1] (Nat.le_of_ble_eq_true rfl) (fun ls hl => g_X10_counts_0 F hA hRt q x1 h ls (lv_sub hl [0, 1] rfl) H locs hP hD hS))
def rm_X10_gatherAll : Room := { frames := 4, cells := 0, slots := 0, locals := 100 }
def f_X10_gatherAll_132 (B81 : QS → Int32 → Int32 → Int32 → Int32 → Int32 → Int32 → Option (Int32 × QS)) (q : QS) (x1 : Int32) (x2 : Int32) (x3 : Int32) (x4 : Int32) (x5 : Int32) (x6 : Int32) : Option (Int32 × QS) :=
  B81 q x1 x2 x3 x4 x5 (x6 + (1 : Int32))
set_option maxHeartbeats 4000000 in
set_option maxRecDepth 100000 in
theorem g_X10_gatherAll_132 {E : En} {p : Program} {l : Launch} {e : Env} {s : State} {m : MethodId} {args : Array Value} {below : List Frame} {meth : Method} {c : Code} {A : Nat → Prop} {Q : State → Prop} (F : Fx E p s m args meth c (yX10_gatherAll).cls cX10_gatherAll 8 (some .boolean)) (hA : ∀ z : Nat, s.heap.size ≤ z → A z) {o : Int32 × QS} (hRt : RtZ (wM E) E p l e rm_X10_gatherAll s m args below meth c A Q cX10_gatherAll o) {B81 : QS → Int32 → Int32 → Int32 → Int32 → Int32 → Int32 → Option (Int32 × QS)} (hB81 : ∀ (q : QS) (x1 : Int32) (x2 : Int32) (x3 : Int32) (x4 : Int32) (x5 : Int32) (x6 : Int32), B81 q x1 x2 x3 x4 x5 x6 = some o → ∀ ls : Array Slot, lv_has ls 8 [(0, .ref (eA E 0)), (1, .int x1), (2, .int x2), (3, .int x3), (4, .int x4), (5, .int x5), (6, .int x6)] → Wq (wM E) E p l e rm_X10_gatherAll s m args below meth c A 0 0 Q q (F0 m 81 ls [])) (q : QS) (x1 : Int32) (x2 : Int32) (x3 : Int32) (x4 : Int32) (x5 : Int32) (x6 : Int32) (h : f_X10_gatherAll_132 B81 q x1 x2 x3 x4 x5 x6 = some o) (ls : Array Slot) (hl : lv_has ls 8 [(0, .ref (eA E 0)), (1, .int x1), (2, .int x2), (3, .int x3), (4, .int x4), (5, .int x5), (6, .int x6)]) : Wq (wM E) E p l e rm_X10_gatherAll s m args below meth c A 0 0 Q q (F0 m 132 ls []) := by
  intro H locs hP hD hS
  have hx := F.1
  have hb := F.2.1
  unfold f_X10_gatherAll_132 at h
  refine lv_iinc (v := (x6 + (1 : Int32))) (lv' := [(6, .int (x6 + (1 : Int32))), (0, .ref (eA E 0)), (1, .int x1), (2, .int x2), (3, .int x3), (4, .int x4), (5, .int x5)]) hx hb dX10_gatherAll_132 hl (k := 6) rfl rfl (by decide) rfl (fun ls hl => ?_)
  refine lv_goto (tgt := 81) hx hb dX10_gatherAll_135 (by decide) ?_
  exact hB81 q x1 x2 x3 x4 x5 (x6 + (1 : Int32)) h _ (lv_sub hl [1, 2, 3, 4, 5, 6, 0] rfl) _ _ hP hD hS
def f_X10_gatherAll_81_b (K138 : QS → Int32 → Int32 → Int32 → Int32 → Int32 → Option (Int32 × QS)) (B81 : QS → Int32 → Int32 → Int32 → Int32 → Int32 → Int32 → Option (Int32 × QS)) (q : QS) (x1 : Int32) (x2 : Int32) (x3 : Int32) (x4 : Int32) (x5 : Int32) (x6 : Int32) : Option (Int32 × QS) :=
  if x2 ≤ x6 then
    K138 q x1 x2 x3 x4 x5
  else
    (f_X10_counts q (((64 : Int32) * (((64 : Int32) * x4) + x5)) + x6)).bind fun r9 =>
    if r9.1 = 0 then
      f_X10_gatherAll_132 B81 r9.2 x1 x2 x3 x4 x5 x6
    else
      if x3 = (2000 : Int32) then
        some ((0 : Int32), r9.2)
      else
        (wI r9.2 30 2000 x3 (((64 : Int32) * (((64 : Int32) * x4) + x5)) + x6)).bind fun q13 =>
        f_X10_gatherAll_132 B81 q13 x1 x2 (x3 + (1 : Int32)) x4 x5 x6
set_option maxHeartbeats 4000000 in
set_option maxRecDepth 100000 in
theorem g_X10_gatherAll_81_b {E : En} {p : Program} {l : Launch} {e : Env} {s : State} {m : MethodId} {args : Array Value} {below : List Frame} {meth : Method} {c : Code} {A : Nat → Prop} {Q : State → Prop} (F : Fx E p s m args meth c (yX10_gatherAll).cls cX10_gatherAll 8 (some .boolean)) (hA : ∀ z : Nat, s.heap.size ≤ z → A z) {o : Int32 × QS} (hRt : RtZ (wM E) E p l e rm_X10_gatherAll s m args below meth c A Q cX10_gatherAll o) {K138 : QS → Int32 → Int32 → Int32 → Int32 → Int32 → Option (Int32 × QS)} {B81 : QS → Int32 → Int32 → Int32 → Int32 → Int32 → Int32 → Option (Int32 × QS)} (hK138 : ∀ (q : QS) (x1 : Int32) (x2 : Int32) (x3 : Int32) (x4 : Int32) (x5 : Int32), K138 q x1 x2 x3 x4 x5 = some o → ∀ ls : Array Slot, lv_has ls 8 [(0, .ref (eA E 0)), (1, .int x1), (2, .int x2), (3, .int x3), (4, .int x4), (5, .int x5)] → Wq (wM E) E p l e rm_X10_gatherAll s m args below meth c A 0 0 Q q (F0 m 138 ls [])) (hB81 : ∀ (q : QS) (x1 : Int32) (x2 : Int32) (x3 : Int32) (x4 : Int32) (x5 : Int32) (x6 : Int32), B81 q x1 x2 x3 x4 x5 x6 = some o → ∀ ls : Array Slot, lv_has ls 8 [(0, .ref (eA E 0)), (1, .int x1), (2, .int x2), (3, .int x3), (4, .int x4), (5, .int x5), (6, .int x6)] → Wq (wM E) E p l e rm_X10_gatherAll s m args below meth c A 0 0 Q q (F0 m 81 ls [])) (q : QS) (x1 : Int32) (x2 : Int32) (x3 : Int32) (x4 : Int32) (x5 : Int32) (x6 : Int32) (h : f_X10_gatherAll_81_b K138 B81 q x1 x2 x3 x4 x5 x6 = some o) (ls : Array Slot) (hl : lv_has ls 8 [(0, .ref (eA E 0)), (1, .int x1), (2, .int x2), (3, .int x3), (4, .int x4), (5, .int x5), (6, .int x6)]) : Wq (wM E) E p l e rm_X10_gatherAll s m args below meth c A 0 0 Q q (F0 m 81 ls []) := by
  intro H locs hP hD hS
  have hx := F.1
  have hb := F.2.1
  unfold f_X10_gatherAll_81_b at h
  refine lv_iload hx hb dX10_gatherAll_81 (lv_at hl 6 rfl) ?_
  refine lv_iload_n hx hb dX10_gatherAll_83 rfl (lv_at hl 2 rfl) ?_
  refine lv_icmp_ge (tgt := 138) hx hb dX10_gatherAll_84 (by decide) (fun c8 => ?_) (fun c8 => ?_)
  · rw [if_pos c8] at h
    exact hK138 q x1 x2 x3 x4 x5 h _ (lv_sub hl [0, 1, 2, 3, 4, 5] rfl) _ _ hP hD hS
  · rw [if_neg c8] at h
    refine lv_bipush (v := 64) hx hb dX10_gatherAll_87 (by decide) ?_
    refine lv_bipush (v := 64) hx hb dX10_gatherAll_89 (by decide) ?_
    refine lv_iload hx hb dX10_gatherAll_91 (lv_at hl 4 rfl) ?_
    refine lv_imul hx hb dX10_gatherAll_93 ?_
    refine lv_iload hx hb dX10_gatherAll_94 (lv_at hl 5 rfl) ?_
    refine lv_iadd hx hb dX10_gatherAll_96 ?_
    refine lv_imul hx hb dX10_gatherAll_97 ?_
    refine lv_iload hx hb dX10_gatherAll_98 (lv_at hl 6 rfl) ?_
    refine lv_iadd hx hb dX10_gatherAll_100 ?_
    refine lv_istore (lv' := [(7, .int (((64 : Int32) * (((64 : Int32) * x4) + x5)) + x6)), (0, .ref (eA E 0)), (1, .int x1), (2, .int x2), (3, .int x3), (4, .int x4), (5, .int x5), (6, .int x6)]) hx hb dX10_gatherAll_101 hl (by decide) rfl (fun ls hl => ?_)
    refine lv_aload_n hx hb dX10_gatherAll_103 rfl (lv_at hl 1 rfl) ?_
    refine lv_iload hx hb dX10_gatherAll_104 (lv_at hl 0 rfl) ?_
    obtain ⟨r9, e10, h⟩ := Option.bind_eq_some_iff.mp h
    refine q_callV (As := [.int (((64 : Int32) * (((64 : Int32) * x4) + x5)) + x6)]) (rest := []) F hA hP hD hS (c_X10_counts (E := E) (l := l) q (((64 : Int32) * (((64 : Int32) * x4) + x5)) + x6) e10) k_X10_counts in_X10_counts se_X10_counts lm_X10_270 0 (me_0 E q) rfl ⟨rfl, rfl⟩ ⟨by decide, by decide⟩ rfl hl.1 rfl (Nat.le_of_ble_eq_true rfl) dX10_gatherAll_106 ⟨by decide, by decide⟩ ?_
    intro H locs hP hD hS
    refine lv_if_eq (tgt := 132) hx hb dX10_gatherAll_109 (by decide) (fun c11 => ?_) (fun c11 => ?_)
    · rw [if_pos c11] at h
      exact g_X10_gatherAll_132 F hA hRt hB81 r9.2 x1 x2 x3 x4 x5 x6 h _ (lv_sub hl [1, 2, 3, 4, 5, 6, 7] rfl) _ _ hP hD hS
    · rw [if_neg c11] at h
      refine lv_iload_n hx hb dX10_gatherAll_112 rfl (lv_at hl 4 rfl) ?_
      refine lv_sipush (v := 2000) hx hb dX10_gatherAll_113 (by decide) ?_
      refine lv_icmp_ne (tgt := 121) hx hb dX10_gatherAll_116 (by decide) (fun c12 => ?_) (fun c12 => ?_)
      · rw [if_neg c12] at h
        refine lv_aload_n hx hb dX10_gatherAll_121 rfl (lv_at hl 1 rfl) ?_
        refine r_get F hP i_X10 0 (me_0 E r9.2) rfl 39 (by decide) rfl lf_X10_108 rfl dX10_gatherAll_122 ?_
        refine lv_iload_n hx hb dX10_gatherAll_125 rfl (lv_at hl 4 rfl) ?_
        refine lv_iload hx hb dX10_gatherAll_126 (lv_at hl 0 rfl) ?_
        obtain ⟨q13, e14, h⟩ := Option.bind_eq_some_iff.mp h
        refine r_iast F hP hD hS 30 (me_30 E r9.2) (ms_30 E r9.2) e14 dX10_gatherAll_128 ?_
        intro H locs hP hD hS
        refine lv_iinc (v := (x3 + (1 : Int32))) (lv' := [(3, .int (x3 + (1 : Int32))), (7, .int (((64 : Int32) * (((64 : Int32) * x4) + x5)) + x6)), (0, .ref (eA E 0)), (1, .int x1), (2, .int x2), (4, .int x4), (5, .int x5), (6, .int x6)]) hx hb dX10_gatherAll_129 hl (k := 4) rfl rfl (by decide) rfl (fun ls hl => ?_)
        exact g_X10_gatherAll_132 F hA hRt hB81 q13 x1 x2 (x3 + (1 : Int32)) x4 x5 x6 h _ (lv_sub hl [2, 3, 4, 0, 5, 6, 7] rfl) _ _ hP hD hS
      · rw [if_pos c12] at h
        refine lv_iconst (v := 0) hx hb dX10_gatherAll_119 (by decide) ?_
        cases h
        exact hRt _ _ zz_0 dX10_gatherAll_120 _ _ hP hD hS
def f_X10_gatherAll_81 (K138 : QS → Int32 → Int32 → Int32 → Int32 → Int32 → Option (Int32 × QS)) : Nat → QS → Int32 → Int32 → Int32 → Int32 → Int32 → Int32 → Option (Int32 × QS)
  | 0 => fun _ _ _ _ _ _ _ => none
  | n + 1 => f_X10_gatherAll_81_b K138 (f_X10_gatherAll_81 K138 n)
theorem g_X10_gatherAll_81 {E : En} {p : Program} {l : Launch} {e : Env} {s : State} {m : MethodId} {args : Array Value} {below : List Frame} {meth : Method} {c : Code} {A : Nat → Prop} {Q : State → Prop} (F : Fx E p s m args meth c (yX10_gatherAll).cls cX10_gatherAll 8 (some .boolean)) (hA : ∀ z : Nat, s.heap.size ≤ z → A z) {o : Int32 × QS} (hRt : RtZ (wM E) E p l e rm_X10_gatherAll s m args below meth c A Q cX10_gatherAll o) {K138 : QS → Int32 → Int32 → Int32 → Int32 → Int32 → Option (Int32 × QS)} (hK138 : ∀ (q : QS) (x1 : Int32) (x2 : Int32) (x3 : Int32) (x4 : Int32) (x5 : Int32), K138 q x1 x2 x3 x4 x5 = some o → ∀ ls : Array Slot, lv_has ls 8 [(0, .ref (eA E 0)), (1, .int x1), (2, .int x2), (3, .int x3), (4, .int x4), (5, .int x5)] → Wq (wM E) E p l e rm_X10_gatherAll s m args below meth c A 0 0 Q q (F0 m 138 ls [])) (n : Nat) : ∀ (q : QS) (x1 : Int32) (x2 : Int32) (x3 : Int32) (x4 : Int32) (x5 : Int32) (x6 : Int32), f_X10_gatherAll_81 K138 n q x1 x2 x3 x4 x5 x6 = some o → ∀ ls : Array Slot, lv_has ls 8 [(0, .ref (eA E 0)), (1, .int x1), (2, .int x2), (3, .int x3), (4, .int x4), (5, .int x5), (6, .int x6)] → Wq (wM E) E p l e rm_X10_gatherAll s m args below meth c A 0 0 Q q (F0 m 81 ls []) := by
  induction n with
  | zero => intro q x1 x2 x3 x4 x5 x6 h; cases h
  | succ n ih => intro q x1 x2 x3 x4 x5 x6 h; exact g_X10_gatherAll_81_b F hA hRt hK138 ih q x1 x2 x3 x4 x5 x6 h
def f_X10_gatherAll_138 (B72 : QS → Int32 → Int32 → Int32 → Int32 → Int32 → Option (Int32 × QS)) (q : QS) (x1 : Int32) (x2 : Int32) (x3 : Int32) (x4 : Int32) (x5 : Int32) : Option (Int32 × QS) :=
  B72 q x1 x2 x3 x4 (x5 + (1 : Int32))
set_option maxHeartbeats 4000000 in
set_option maxRecDepth 100000 in
theorem g_X10_gatherAll_138 {E : En} {p : Program} {l : Launch} {e : Env} {s : State} {m : MethodId} {args : Array Value} {below : List Frame} {meth : Method} {c : Code} {A : Nat → Prop} {Q : State → Prop} (F : Fx E p s m args meth c (yX10_gatherAll).cls cX10_gatherAll 8 (some .boolean)) (hA : ∀ z : Nat, s.heap.size ≤ z → A z) {o : Int32 × QS} (hRt : RtZ (wM E) E p l e rm_X10_gatherAll s m args below meth c A Q cX10_gatherAll o) {B72 : QS → Int32 → Int32 → Int32 → Int32 → Int32 → Option (Int32 × QS)} (hB72 : ∀ (q : QS) (x1 : Int32) (x2 : Int32) (x3 : Int32) (x4 : Int32) (x5 : Int32), B72 q x1 x2 x3 x4 x5 = some o → ∀ ls : Array Slot, lv_has ls 8 [(0, .ref (eA E 0)), (1, .int x1), (2, .int x2), (3, .int x3), (4, .int x4), (5, .int x5)] → Wq (wM E) E p l e rm_X10_gatherAll s m args below meth c A 0 0 Q q (F0 m 72 ls [])) (q : QS) (x1 : Int32) (x2 : Int32) (x3 : Int32) (x4 : Int32) (x5 : Int32) (h : f_X10_gatherAll_138 B72 q x1 x2 x3 x4 x5 = some o) (ls : Array Slot) (hl : lv_has ls 8 [(0, .ref (eA E 0)), (1, .int x1), (2, .int x2), (3, .int x3), (4, .int x4), (5, .int x5)]) : Wq (wM E) E p l e rm_X10_gatherAll s m args below meth c A 0 0 Q q (F0 m 138 ls []) := by
  intro H locs hP hD hS
  have hx := F.1
  have hb := F.2.1
  unfold f_X10_gatherAll_138 at h
  refine lv_iinc (v := (x5 + (1 : Int32))) (lv' := [(5, .int (x5 + (1 : Int32))), (0, .ref (eA E 0)), (1, .int x1), (2, .int x2), (3, .int x3), (4, .int x4)]) hx hb dX10_gatherAll_138 hl (k := 5) rfl rfl (by decide) rfl (fun ls hl => ?_)
  refine lv_goto (tgt := 72) hx hb dX10_gatherAll_141 (by decide) ?_
  exact hB72 q x1 x2 x3 x4 (x5 + (1 : Int32)) h _ (lv_sub hl [1, 2, 3, 4, 5, 0] rfl) _ _ hP hD hS
def f_X10_gatherAll_72_b (K144 : QS → Int32 → Int32 → Int32 → Int32 → Option (Int32 × QS)) (B72 : QS → Int32 → Int32 → Int32 → Int32 → Int32 → Option (Int32 × QS)) (q : QS) (x1 : Int32) (x2 : Int32) (x3 : Int32) (x4 : Int32) (x5 : Int32) : Option (Int32 × QS) :=
  if x1 ≤ x5 then
    K144 q x1 x2 x3 x4
  else
    f_X10_gatherAll_81 (f_X10_gatherAll_138 B72) FU q x1 x2 x3 x4 x5 (0 : Int32)
set_option maxHeartbeats 4000000 in
set_option maxRecDepth 100000 in
theorem g_X10_gatherAll_72_b {E : En} {p : Program} {l : Launch} {e : Env} {s : State} {m : MethodId} {args : Array Value} {below : List Frame} {meth : Method} {c : Code} {A : Nat → Prop} {Q : State → Prop} (F : Fx E p s m args meth c (yX10_gatherAll).cls cX10_gatherAll 8 (some .boolean)) (hA : ∀ z : Nat, s.heap.size ≤ z → A z) {o : Int32 × QS} (hRt : RtZ (wM E) E p l e rm_X10_gatherAll s m args below meth c A Q cX10_gatherAll o) {K144 : QS → Int32 → Int32 → Int32 → Int32 → Option (Int32 × QS)} {B72 : QS → Int32 → Int32 → Int32 → Int32 → Int32 → Option (Int32 × QS)} (hK144 : ∀ (q : QS) (x1 : Int32) (x2 : Int32) (x3 : Int32) (x4 : Int32), K144 q x1 x2 x3 x4 = some o → ∀ ls : Array Slot, lv_has ls 8 [(0, .ref (eA E 0)), (1, .int x1), (2, .int x2), (3, .int x3), (4, .int x4)] → Wq (wM E) E p l e rm_X10_gatherAll s m args below meth c A 0 0 Q q (F0 m 144 ls [])) (hB72 : ∀ (q : QS) (x1 : Int32) (x2 : Int32) (x3 : Int32) (x4 : Int32) (x5 : Int32), B72 q x1 x2 x3 x4 x5 = some o → ∀ ls : Array Slot, lv_has ls 8 [(0, .ref (eA E 0)), (1, .int x1), (2, .int x2), (3, .int x3), (4, .int x4), (5, .int x5)] → Wq (wM E) E p l e rm_X10_gatherAll s m args below meth c A 0 0 Q q (F0 m 72 ls [])) (q : QS) (x1 : Int32) (x2 : Int32) (x3 : Int32) (x4 : Int32) (x5 : Int32) (h : f_X10_gatherAll_72_b K144 B72 q x1 x2 x3 x4 x5 = some o) (ls : Array Slot) (hl : lv_has ls 8 [(0, .ref (eA E 0)), (1, .int x1), (2, .int x2), (3, .int x3), (4, .int x4), (5, .int x5)]) : Wq (wM E) E p l e rm_X10_gatherAll s m args below meth c A 0 0 Q q (F0 m 72 ls []) := by
  intro H locs hP hD hS
  have hx := F.1
  have hb := F.2.1
  unfold f_X10_gatherAll_72_b at h
  refine lv_iload hx hb dX10_gatherAll_72 (lv_at hl 5 rfl) ?_
  refine lv_iload_n hx hb dX10_gatherAll_74 rfl (lv_at hl 1 rfl) ?_
  refine lv_icmp_ge (tgt := 144) hx hb dX10_gatherAll_75 (by decide) (fun c7 => ?_) (fun c7 => ?_)
  · rw [if_pos c7] at h
    exact hK144 q x1 x2 x3 x4 h _ (lv_sub hl [0, 1, 2, 3, 4] rfl) _ _ hP hD hS
  · rw [if_neg c7] at h
    refine lv_iconst (v := 0) hx hb dX10_gatherAll_78 (by decide) ?_
    refine lv_istore (lv' := [(6, .int (0 : Int32)), (0, .ref (eA E 0)), (1, .int x1), (2, .int x2), (3, .int x3), (4, .int x4), (5, .int x5)]) hx hb dX10_gatherAll_79 hl (by decide) rfl (fun ls hl => ?_)
    exact g_X10_gatherAll_81 F hA hRt (g_X10_gatherAll_138 F hA hRt hB72) FU q x1 x2 x3 x4 x5 (0 : Int32) h _ (lv_sub hl [1, 2, 3, 4, 5, 6, 0] rfl) _ _ hP hD hS
def f_X10_gatherAll_72 (K144 : QS → Int32 → Int32 → Int32 → Int32 → Option (Int32 × QS)) : Nat → QS → Int32 → Int32 → Int32 → Int32 → Int32 → Option (Int32 × QS)
  | 0 => fun _ _ _ _ _ _ => none
  | n + 1 => f_X10_gatherAll_72_b K144 (f_X10_gatherAll_72 K144 n)
theorem g_X10_gatherAll_72 {E : En} {p : Program} {l : Launch} {e : Env} {s : State} {m : MethodId} {args : Array Value} {below : List Frame} {meth : Method} {c : Code} {A : Nat → Prop} {Q : State → Prop} (F : Fx E p s m args meth c (yX10_gatherAll).cls cX10_gatherAll 8 (some .boolean)) (hA : ∀ z : Nat, s.heap.size ≤ z → A z) {o : Int32 × QS} (hRt : RtZ (wM E) E p l e rm_X10_gatherAll s m args below meth c A Q cX10_gatherAll o) {K144 : QS → Int32 → Int32 → Int32 → Int32 → Option (Int32 × QS)} (hK144 : ∀ (q : QS) (x1 : Int32) (x2 : Int32) (x3 : Int32) (x4 : Int32), K144 q x1 x2 x3 x4 = some o → ∀ ls : Array Slot, lv_has ls 8 [(0, .ref (eA E 0)), (1, .int x1), (2, .int x2), (3, .int x3), (4, .int x4)] → Wq (wM E) E p l e rm_X10_gatherAll s m args below meth c A 0 0 Q q (F0 m 144 ls [])) (n : Nat) : ∀ (q : QS) (x1 : Int32) (x2 : Int32) (x3 : Int32) (x4 : Int32) (x5 : Int32), f_X10_gatherAll_72 K144 n q x1 x2 x3 x4 x5 = some o → ∀ ls : Array Slot, lv_has ls 8 [(0, .ref (eA E 0)), (1, .int x1), (2, .int x2), (3, .int x3), (4, .int x4), (5, .int x5)] → Wq (wM E) E p l e rm_X10_gatherAll s m args below meth c A 0 0 Q q (F0 m 72 ls []) := by
  induction n with
  | zero => intro q x1 x2 x3 x4 x5 h; cases h
  | succ n ih => intro q x1 x2 x3 x4 x5 h; exact g_X10_gatherAll_72_b F hA hRt hK144 ih q x1 x2 x3 x4 x5 h
def f_X10_gatherAll_144 (B58 : QS → Int32 → Int32 → Int32 → Int32 → Option (Int32 × QS)) (q : QS) (x1 : Int32) (x2 : Int32) (x3 : Int32) (x4 : Int32) : Option (Int32 × QS) :=
  B58 q x1 x2 x3 (x4 + (1 : Int32))
set_option maxHeartbeats 4000000 in
set_option maxRecDepth 100000 in
theorem g_X10_gatherAll_144 {E : En} {p : Program} {l : Launch} {e : Env} {s : State} {m : MethodId} {args : Array Value} {below : List Frame} {meth : Method} {c : Code} {A : Nat → Prop} {Q : State → Prop} (F : Fx E p s m args meth c (yX10_gatherAll).cls cX10_gatherAll 8 (some .boolean)) (hA : ∀ z : Nat, s.heap.size ≤ z → A z) {o : Int32 × QS} (hRt : RtZ (wM E) E p l e rm_X10_gatherAll s m args below meth c A Q cX10_gatherAll o) {B58 : QS → Int32 → Int32 → Int32 → Int32 → Option (Int32 × QS)} (hB58 : ∀ (q : QS) (x1 : Int32) (x2 : Int32) (x3 : Int32) (x4 : Int32), B58 q x1 x2 x3 x4 = some o → ∀ ls : Array Slot, lv_has ls 8 [(0, .ref (eA E 0)), (1, .int x1), (2, .int x2), (3, .int x3), (4, .int x4)] → Wq (wM E) E p l e rm_X10_gatherAll s m args below meth c A 0 0 Q q (F0 m 58 ls [])) (q : QS) (x1 : Int32) (x2 : Int32) (x3 : Int32) (x4 : Int32) (h : f_X10_gatherAll_144 B58 q x1 x2 x3 x4 = some o) (ls : Array Slot) (hl : lv_has ls 8 [(0, .ref (eA E 0)), (1, .int x1), (2, .int x2), (3, .int x3), (4, .int x4)]) : Wq (wM E) E p l e rm_X10_gatherAll s m args below meth c A 0 0 Q q (F0 m 144 ls []) := by
  intro H locs hP hD hS
  have hx := F.1
  have hb := F.2.1
  unfold f_X10_gatherAll_144 at h
  refine lv_iinc (v := (x4 + (1 : Int32))) (lv' := [(4, .int (x4 + (1 : Int32))), (0, .ref (eA E 0)), (1, .int x1), (2, .int x2), (3, .int x3)]) hx hb dX10_gatherAll_144 hl (k := 4) rfl rfl (by decide) rfl (fun ls hl => ?_)
  refine lv_goto (tgt := 58) hx hb dX10_gatherAll_147 (by decide) ?_
  exact hB58 q x1 x2 x3 (x4 + (1 : Int32)) h _ (lv_sub hl [1, 2, 3, 4, 0] rfl) _ _ hP hD hS
def f_X10_gatherAll_58_b (B58 : QS → Int32 → Int32 → Int32 → Int32 → Option (Int32 × QS)) (q : QS) (x1 : Int32) (x2 : Int32) (x3 : Int32) (x4 : Int32) : Option (Int32 × QS) :=
  (rd (qI q 9) 3 (0 : Int32)).bind fun y4 =>
  if y4 ≤ x4 then
    some ((1 : Int32), (uF q 9 x3))
  else
    f_X10_gatherAll_72 (f_X10_gatherAll_144 B58) FU q x1 x2 x3 x4 (0 : Int32)
set_option maxHeartbeats 4000000 in
set_option maxRecDepth 100000 in
theorem g_X10_gatherAll_58_b {E : En} {p : Program} {l : Launch} {e : Env} {s : State} {m : MethodId} {args : Array Value} {below : List Frame} {meth : Method} {c : Code} {A : Nat → Prop} {Q : State → Prop} (F : Fx E p s m args meth c (yX10_gatherAll).cls cX10_gatherAll 8 (some .boolean)) (hA : ∀ z : Nat, s.heap.size ≤ z → A z) {o : Int32 × QS} (hRt : RtZ (wM E) E p l e rm_X10_gatherAll s m args below meth c A Q cX10_gatherAll o) {B58 : QS → Int32 → Int32 → Int32 → Int32 → Option (Int32 × QS)} (hB58 : ∀ (q : QS) (x1 : Int32) (x2 : Int32) (x3 : Int32) (x4 : Int32), B58 q x1 x2 x3 x4 = some o → ∀ ls : Array Slot, lv_has ls 8 [(0, .ref (eA E 0)), (1, .int x1), (2, .int x2), (3, .int x3), (4, .int x4)] → Wq (wM E) E p l e rm_X10_gatherAll s m args below meth c A 0 0 Q q (F0 m 58 ls [])) (q : QS) (x1 : Int32) (x2 : Int32) (x3 : Int32) (x4 : Int32) (h : f_X10_gatherAll_58_b B58 q x1 x2 x3 x4 = some o) (ls : Array Slot) (hl : lv_has ls 8 [(0, .ref (eA E 0)), (1, .int x1), (2, .int x2), (3, .int x3), (4, .int x4)]) : Wq (wM E) E p l e rm_X10_gatherAll s m args below meth c A 0 0 Q q (F0 m 58 ls []) := by
  intro H locs hP hD hS
  have hx := F.1
  have hb := F.2.1
  unfold f_X10_gatherAll_58_b at h
  refine lv_iload hx hb dX10_gatherAll_58 (lv_at hl 4 rfl) ?_
  refine lv_aload_n hx hb dX10_gatherAll_60 rfl (lv_at hl 0 rfl) ?_
  refine r_get F hP i_X10 0 (me_0 E q) rfl 10 (by decide) rfl lf_X10_37 rfl dX10_gatherAll_61 ?_
  refine lv_iconst (v := 0) hx hb dX10_gatherAll_64 (by decide) ?_
  obtain ⟨y4, e5, h⟩ := Option.bind_eq_some_iff.mp h
  refine r_iald F hP 9 (me_9 E q) e5 dX10_gatherAll_65 ?_
  refine lv_icmp_ge (tgt := 150) hx hb dX10_gatherAll_66 (by decide) (fun c6 => ?_) (fun c6 => ?_)
  · rw [if_pos c6] at h
    refine lv_aload_n hx hb dX10_gatherAll_150 rfl (lv_at hl 0 rfl) ?_
    refine lv_iload_n hx hb dX10_gatherAll_151 rfl (lv_at hl 3 rfl) ?_
    refine r_put (ty := .int) (q1 := (uF q 9 x3)) F hP hD hS i_X10 tyX10_ok nmX10 0 (me_0 E q) rfl 38 (by decide) rfl lf_X10_273 rfl (by decide +kernel) rfl rfl (Nat.le_of_ble_eq_true rfl) (mf_0_9 E q x3) dX10_gatherAll_152 ?_
    intro H locs hP hD hS
    refine lv_iconst (v := 1) hx hb dX10_gatherAll_155 (by decide) ?_
    cases h
    exact hRt _ _ zz_1 dX10_gatherAll_156 _ _ hP hD hS
  · rw [if_neg c6] at h
    refine lv_iconst (v := 0) hx hb dX10_gatherAll_69 (by decide) ?_
    refine lv_istore (lv' := [(5, .int (0 : Int32)), (0, .ref (eA E 0)), (1, .int x1), (2, .int x2), (3, .int x3), (4, .int x4)]) hx hb dX10_gatherAll_70 hl (by decide) rfl (fun ls hl => ?_)
    exact g_X10_gatherAll_72 F hA hRt (g_X10_gatherAll_144 F hA hRt hB58) FU q x1 x2 x3 x4 (0 : Int32) h _ (lv_sub hl [1, 2, 3, 4, 5, 0] rfl) _ _ hP hD hS
def f_X10_gatherAll_58 : Nat → QS → Int32 → Int32 → Int32 → Int32 → Option (Int32 × QS)
  | 0 => fun _ _ _ _ _ => none
  | n + 1 => f_X10_gatherAll_58_b (f_X10_gatherAll_58 n)
theorem g_X10_gatherAll_58 {E : En} {p : Program} {l : Launch} {e : Env} {s : State} {m : MethodId} {args : Array Value} {below : List Frame} {meth : Method} {c : Code} {A : Nat → Prop} {Q : State → Prop} (F : Fx E p s m args meth c (yX10_gatherAll).cls cX10_gatherAll 8 (some .boolean)) (hA : ∀ z : Nat, s.heap.size ≤ z → A z) {o : Int32 × QS} (hRt : RtZ (wM E) E p l e rm_X10_gatherAll s m args below meth c A Q cX10_gatherAll o) (n : Nat) : ∀ (q : QS) (x1 : Int32) (x2 : Int32) (x3 : Int32) (x4 : Int32), f_X10_gatherAll_58 n q x1 x2 x3 x4 = some o → ∀ ls : Array Slot, lv_has ls 8 [(0, .ref (eA E 0)), (1, .int x1), (2, .int x2), (3, .int x3), (4, .int x4)] → Wq (wM E) E p l e rm_X10_gatherAll s m args below meth c A 0 0 Q q (F0 m 58 ls []) := by
  induction n with
  | zero => intro q x1 x2 x3 x4 h; cases h
  | succ n ih => intro q x1 x2 x3 x4 h; exact g_X10_gatherAll_58_b F hA hRt ih q x1 x2 x3 x4 h
def f_X10_gatherAll_55 (q : QS) (x1 : Int32) (x2 : Int32) (x3 : Int32) : Option (Int32 × QS) :=
  f_X10_gatherAll_58 FU q x1 x2 x3 (0 : Int32)
set_option maxHeartbeats 4000000 in
set_option maxRecDepth 100000 in
theorem g_X10_gatherAll_55 {E : En} {p : Program} {l : Launch} {e : Env} {s : State} {m : MethodId} {args : Array Value} {below : List Frame} {meth : Method} {c : Code} {A : Nat → Prop} {Q : State → Prop} (F : Fx E p s m args meth c (yX10_gatherAll).cls cX10_gatherAll 8 (some .boolean)) (hA : ∀ z : Nat, s.heap.size ≤ z → A z) {o : Int32 × QS} (hRt : RtZ (wM E) E p l e rm_X10_gatherAll s m args below meth c A Q cX10_gatherAll o) (q : QS) (x1 : Int32) (x2 : Int32) (x3 : Int32) (h : f_X10_gatherAll_55 q x1 x2 x3 = some o) (ls : Array Slot) (hl : lv_has ls 8 [(0, .ref (eA E 0)), (1, .int x1), (2, .int x2), (3, .int x3)]) : Wq (wM E) E p l e rm_X10_gatherAll s m args below meth c A 0 0 Q q (F0 m 55 ls []) := by
  intro H locs hP hD hS
  have hx := F.1
  have hb := F.2.1
  unfold f_X10_gatherAll_55 at h
  refine lv_iconst (v := 0) hx hb dX10_gatherAll_55 (by decide) ?_
  refine lv_istore (lv' := [(4, .int (0 : Int32)), (0, .ref (eA E 0)), (1, .int x1), (2, .int x2), (3, .int x3)]) hx hb dX10_gatherAll_56 hl (by decide) rfl (fun ls hl => ?_)
  exact g_X10_gatherAll_58 F hA hRt FU q x1 x2 x3 (0 : Int32) h _ (lv_sub hl [1, 2, 3, 4, 0] rfl) _ _ hP hD hS
def f_X10_gatherAll_37 (q : QS) (x1 : Int32) (t0 : Int32) : Option (Int32 × QS) :=
  if (qF q 3) < 0 then
    f_X10_gatherAll_55 q x1 t0 (0 : Int32)
  else
    (f_X10_mark q (qF q 3)).bind fun r15 =>
    f_X10_gatherAll_55 r15 x1 t0 (0 : Int32)
set_option maxHeartbeats 4000000 in
set_option maxRecDepth 100000 in
theorem g_X10_gatherAll_37 {E : En} {p : Program} {l : Launch} {e : Env} {s : State} {m : MethodId} {args : Array Value} {below : List Frame} {meth : Method} {c : Code} {A : Nat → Prop} {Q : State → Prop} (F : Fx E p s m args meth c (yX10_gatherAll).cls cX10_gatherAll 8 (some .boolean)) (hA : ∀ z : Nat, s.heap.size ≤ z → A z) {o : Int32 × QS} (hRt : RtZ (wM E) E p l e rm_X10_gatherAll s m args below meth c A Q cX10_gatherAll o) (q : QS) (x1 : Int32) (t0 : Int32) (h : f_X10_gatherAll_37 q x1 t0 = some o) (ls : Array Slot) (hl : lv_has ls 8 [(0, .ref (eA E 0)), (1, .int x1)]) : Wq (wM E) E p l e rm_X10_gatherAll s m args below meth c A 0 0 Q q (F0 m 37 ls [.int t0]) := by
  intro H locs hP hD hS
  have hx := F.1
  have hb := F.2.1
  unfold f_X10_gatherAll_37 at h
  refine lv_istore_n (lv' := [(2, .int t0), (0, .ref (eA E 0)), (1, .int x1)]) hx hb dX10_gatherAll_37 rfl hl (by decide) rfl (fun ls hl => ?_)
  refine lv_iconst (v := 0) hx hb dX10_gatherAll_38 (by decide) ?_
  refine lv_istore_n (lv' := [(3, .int (0 : Int32)), (2, .int t0), (0, .ref (eA E 0)), (1, .int x1)]) hx hb dX10_gatherAll_39 rfl hl (by decide) rfl (fun ls hl => ?_)
  refine lv_aload_n hx hb dX10_gatherAll_40 rfl (lv_at hl 2 rfl) ?_
  refine r_get F hP i_X10 0 (me_0 E q) rfl 28 (by decide) rfl lf_X10_89 rfl dX10_gatherAll_41 ?_
  refine lv_if_lt (tgt := 55) hx hb dX10_gatherAll_44 (by decide) (fun c3 => ?_) (fun c3 => ?_)
  · rw [if_pos c3] at h
    exact g_X10_gatherAll_55 F hA hRt q x1 t0 (0 : Int32) h _ (lv_sub hl [2, 3, 1, 0] rfl) _ _ hP hD hS
  · rw [if_neg c3] at h
    refine lv_aload_n hx hb dX10_gatherAll_47 rfl (lv_at hl 2 rfl) ?_
    refine lv_aload_n hx hb dX10_gatherAll_48 rfl (lv_at hl 2 rfl) ?_
    refine r_get F hP i_X10 0 (me_0 E q) rfl 28 (by decide) rfl lf_X10_89 rfl dX10_gatherAll_49 ?_
    obtain ⟨r15, e16, h⟩ := Option.bind_eq_some_iff.mp h
    refine q_callV (As := [.int (qF q 3)]) (rest := []) F hA hP hD hS (c_X10_mark (E := E) (l := l) q (qF q 3) e16) k_X10_mark in_X10_mark se_X10_mark lm_X10_243 0 (me_0 E q) rfl ⟨rfl, rfl⟩ ⟨by decide, by decide⟩ rfl hl.1 rfl (Nat.le_of_ble_eq_true rfl) dX10_gatherAll_52 ⟨by decide, by decide⟩ ?_
    intro H locs hP hD hS
    exact g_X10_gatherAll_55 F hA hRt r15 x1 t0 (0 : Int32) h _ (lv_sub hl [2, 3, 1, 0] rfl) _ _ hP hD hS
def f_X10_gatherAll_18 (q : QS) (t0 : Int32) : Option (Int32 × QS) :=
  if (qF q 1) ≤ (2 : Int32) then
    f_X10_gatherAll_37 q t0 (1 : Int32)
  else
    (rd (qI q 9) 3 (2 : Int32)).bind fun y17 =>
    f_X10_gatherAll_37 q t0 y17
set_option maxHeartbeats 4000000 in
set_option maxRecDepth 100000 in
theorem g_X10_gatherAll_18 {E : En} {p : Program} {l : Launch} {e : Env} {s : State} {m : MethodId} {args : Array Value} {below : List Frame} {meth : Method} {c : Code} {A : Nat → Prop} {Q : State → Prop} (F : Fx E p s m args meth c (yX10_gatherAll).cls cX10_gatherAll 8 (some .boolean)) (hA : ∀ z : Nat, s.heap.size ≤ z → A z) {o : Int32 × QS} (hRt : RtZ (wM E) E p l e rm_X10_gatherAll s m args below meth c A Q cX10_gatherAll o) (q : QS) (t0 : Int32) (h : f_X10_gatherAll_18 q t0 = some o) (ls : Array Slot) (hl : lv_has ls 8 [(0, .ref (eA E 0))]) : Wq (wM E) E p l e rm_X10_gatherAll s m args below meth c A 0 0 Q q (F0 m 18 ls [.int t0]) := by
  intro H locs hP hD hS
  have hx := F.1
  have hb := F.2.1
  unfold f_X10_gatherAll_18 at h
  refine lv_istore_n (lv' := [(1, .int t0), (0, .ref (eA E 0))]) hx hb dX10_gatherAll_18 rfl hl (by decide) rfl (fun ls hl => ?_)
  refine lv_aload_n hx hb dX10_gatherAll_19 rfl (lv_at hl 1 rfl) ?_
  refine r_get F hP i_X10 0 (me_0 E q) rfl 7 (by decide) rfl lf_X10_144 rfl dX10_gatherAll_20 ?_
  refine lv_iconst (v := 2) hx hb dX10_gatherAll_23 (by decide) ?_
  refine lv_icmp_le (tgt := 36) hx hb dX10_gatherAll_24 (by decide) (fun c2 => ?_) (fun c2 => ?_)
  · rw [if_pos c2] at h
    refine lv_iconst (v := 1) hx hb dX10_gatherAll_36 (by decide) ?_
    exact g_X10_gatherAll_37 F hA hRt q t0 (1 : Int32) h _ (lv_sub hl [1, 0] rfl) _ _ hP hD hS
  · rw [if_neg c2] at h
    refine lv_aload_n hx hb dX10_gatherAll_27 rfl (lv_at hl 1 rfl) ?_
    refine r_get F hP i_X10 0 (me_0 E q) rfl 10 (by decide) rfl lf_X10_37 rfl dX10_gatherAll_28 ?_
    refine lv_iconst (v := 2) hx hb dX10_gatherAll_31 (by decide) ?_
    obtain ⟨y17, e18, h⟩ := Option.bind_eq_some_iff.mp h
    refine r_iald F hP 9 (me_9 E q) e18 dX10_gatherAll_32 ?_
    refine lv_goto (tgt := 37) hx hb dX10_gatherAll_33 (by decide) ?_
    exact g_X10_gatherAll_37 F hA hRt q t0 y17 h _ (lv_sub hl [1, 0] rfl) _ _ hP hD hS
def f_X10_gatherAll_0 (q : QS) : Option (Int32 × QS) :=
  if (qF q 1) ≤ (1 : Int32) then
    f_X10_gatherAll_18 q (1 : Int32)
  else
    (rd (qI q 9) 3 (1 : Int32)).bind fun y19 =>
    f_X10_gatherAll_18 q y19
set_option maxHeartbeats 4000000 in
set_option maxRecDepth 100000 in
theorem g_X10_gatherAll_0 {E : En} {p : Program} {l : Launch} {e : Env} {s : State} {m : MethodId} {args : Array Value} {below : List Frame} {meth : Method} {c : Code} {A : Nat → Prop} {Q : State → Prop} (F : Fx E p s m args meth c (yX10_gatherAll).cls cX10_gatherAll 8 (some .boolean)) (hA : ∀ z : Nat, s.heap.size ≤ z → A z) {o : Int32 × QS} (hRt : RtZ (wM E) E p l e rm_X10_gatherAll s m args below meth c A Q cX10_gatherAll o) (q : QS) (h : f_X10_gatherAll_0 q = some o) (ls : Array Slot) (hl : lv_has ls 8 [(0, .ref (eA E 0))]) : Wq (wM E) E p l e rm_X10_gatherAll s m args below meth c A 0 0 Q q (F0 m 0 ls []) := by
  intro H locs hP hD hS
  have hx := F.1
  have hb := F.2.1
  unfold f_X10_gatherAll_0 at h
  refine lv_aload_n hx hb dX10_gatherAll_0 rfl (lv_at hl 0 rfl) ?_
  refine r_get F hP i_X10 0 (me_0 E q) rfl 7 (by decide) rfl lf_X10_144 rfl dX10_gatherAll_1 ?_
  refine lv_iconst (v := 1) hx hb dX10_gatherAll_4 (by decide) ?_
  refine lv_icmp_le (tgt := 17) hx hb dX10_gatherAll_5 (by decide) (fun c1 => ?_) (fun c1 => ?_)
  · rw [if_pos c1] at h
    refine lv_iconst (v := 1) hx hb dX10_gatherAll_17 (by decide) ?_
    exact g_X10_gatherAll_18 F hA hRt q (1 : Int32) h _ (lv_sub hl [0] rfl) _ _ hP hD hS
  · rw [if_neg c1] at h
    refine lv_aload_n hx hb dX10_gatherAll_8 rfl (lv_at hl 0 rfl) ?_
    refine r_get F hP i_X10 0 (me_0 E q) rfl 10 (by decide) rfl lf_X10_37 rfl dX10_gatherAll_9 ?_
    refine lv_iconst (v := 1) hx hb dX10_gatherAll_12 (by decide) ?_
    obtain ⟨y19, e20, h⟩ := Option.bind_eq_some_iff.mp h
    refine r_iald F hP 9 (me_9 E q) e20 dX10_gatherAll_13 ?_
    refine lv_goto (tgt := 18) hx hb dX10_gatherAll_14 (by decide) ?_
    exact g_X10_gatherAll_18 F hA hRt q y19 h _ (lv_sub hl [0] rfl) _ _ hP hD hS
def f_X10_gatherAll (q : QS) : Option (Int32 × QS) := f_X10_gatherAll_0 q
set_option maxRecDepth 100000 in
theorem c_X10_gatherAll {E : En} {l : Launch} (q : QS) {o : Int32 × QS} (h : f_X10_gatherAll q = some o) : Ct (wM E) E l yX10_gatherAll (wy yX10_gatherAll cX10_gatherAll 8 (some .boolean)) rm_X10_gatherAll q o.2 [.ref (eA E 0)] (some (.int o.1)) :=
  ct_Z (o := o) (by decide +kernel) (fun p e s m below meth c A Q F hA hRt H locs hP hD hS => en_W [.ref (eA E 0)] (Nat.le_of_ble_eq_true rfl) (fun ls hl => g_X10_gatherAll_0 F hA hRt q h ls (lv_sub hl [0] rfl) H locs hP hD hS))
def rm_X10_isLike : Room := { frames := 5, cells := 0, slots := 0, locals := 127 }
def f_X10_isLike_39 (B5 : QS → Int32 → Int32 → Int32 → Int32 → Option (Int32 × QS)) (q : QS) (x1 : Int32) (x2 : Int32) (x4 : Int32) (t0 : Int32) : Option (Int32 × QS) :=
  B5 q x1 x2 t0 (x4 + (1 : Int32))
set_option maxHeartbeats 4000000 in
set_option maxRecDepth 100000 in
theorem g_X10_isLike_39 {E : En} {p : Program} {l : Launch} {e : Env} {s : State} {m : MethodId} {args : Array Value} {below : List Frame} {meth : Method} {c : Code} {A : Nat → Prop} {Q : State → Prop} (F : Fx E p s m args meth c (yX10_isLike).cls cX10_isLike 5 (some .boolean)) (hA : ∀ z : Nat, s.heap.size ≤ z → A z) {o : Int32 × QS} (hRt : RtZ (wM E) E p l e rm_X10_isLike s m args below meth c A Q cX10_isLike o) {B5 : QS → Int32 → Int32 → Int32 → Int32 → Option (Int32 × QS)} (hB5 : ∀ (q : QS) (x1 : Int32) (x2 : Int32) (x3 : Int32) (x4 : Int32), B5 q x1 x2 x3 x4 = some o → ∀ ls : Array Slot, lv_has ls 5 [(0, .ref (eA E 0)), (1, .int x1), (2, .int x2), (3, .int x3), (4, .int x4)] → Wq (wM E) E p l e rm_X10_isLike s m args below meth c A 0 0 Q q (F0 m 5 ls [])) (q : QS) (x1 : Int32) (x2 : Int32) (x4 : Int32) (t0 : Int32) (h : f_X10_isLike_39 B5 q x1 x2 x4 t0 = some o) (ls : Array Slot) (hl : lv_has ls 5 [(0, .ref (eA E 0)), (1, .int x1), (2, .int x2), (4, .int x4)]) : Wq (wM E) E p l e rm_X10_isLike s m args below meth c A 0 0 Q q (F0 m 39 ls [.int t0]) := by
  intro H locs hP hD hS
  have hx := F.1
  have hb := F.2.1
  unfold f_X10_isLike_39 at h
  refine lv_istore_n (lv' := [(3, .int t0), (0, .ref (eA E 0)), (1, .int x1), (2, .int x2), (4, .int x4)]) hx hb dX10_isLike_39 rfl hl (by decide) rfl (fun ls hl => ?_)
  refine lv_iinc (v := (x4 + (1 : Int32))) (lv' := [(4, .int (x4 + (1 : Int32))), (3, .int t0), (0, .ref (eA E 0)), (1, .int x1), (2, .int x2)]) hx hb dX10_isLike_40 hl (k := 4) rfl rfl (by decide) rfl (fun ls hl => ?_)
  refine lv_goto (tgt := 5) hx hb dX10_isLike_43 (by decide) ?_
  exact hB5 q x1 x2 t0 (x4 + (1 : Int32)) h _ (lv_sub hl [2, 3, 4, 1, 0] rfl) _ _ hP hD hS
def f_X10_isLike_5_b (B5 : QS → Int32 → Int32 → Int32 → Int32 → Option (Int32 × QS)) (q : QS) (x1 : Int32) (x2 : Int32) (x3 : Int32) (x4 : Int32) : Option (Int32 × QS) :=
  if (qF q 5) ≤ x4 then
    if vp_nar .boolean x3 = x3 then some (x3, q) else none
  else
    if x3 = 0 then
      if vp_nar .boolean x3 = x3 then some (x3, q) else none
    else
      (rd (qI q 27) 4 x4).bind fun y5 =>
      (f_X10_compare q y5 x1 x2).bind fun r7 =>
      if r7.1 = 0 then
        f_X10_isLike_39 B5 r7.2 x1 x2 x4 (1 : Int32)
      else
        f_X10_isLike_39 B5 r7.2 x1 x2 x4 (0 : Int32)
set_option maxHeartbeats 4000000 in
set_option maxRecDepth 100000 in
theorem g_X10_isLike_5_b {E : En} {p : Program} {l : Launch} {e : Env} {s : State} {m : MethodId} {args : Array Value} {below : List Frame} {meth : Method} {c : Code} {A : Nat → Prop} {Q : State → Prop} (F : Fx E p s m args meth c (yX10_isLike).cls cX10_isLike 5 (some .boolean)) (hA : ∀ z : Nat, s.heap.size ≤ z → A z) {o : Int32 × QS} (hRt : RtZ (wM E) E p l e rm_X10_isLike s m args below meth c A Q cX10_isLike o) {B5 : QS → Int32 → Int32 → Int32 → Int32 → Option (Int32 × QS)} (hB5 : ∀ (q : QS) (x1 : Int32) (x2 : Int32) (x3 : Int32) (x4 : Int32), B5 q x1 x2 x3 x4 = some o → ∀ ls : Array Slot, lv_has ls 5 [(0, .ref (eA E 0)), (1, .int x1), (2, .int x2), (3, .int x3), (4, .int x4)] → Wq (wM E) E p l e rm_X10_isLike s m args below meth c A 0 0 Q q (F0 m 5 ls [])) (q : QS) (x1 : Int32) (x2 : Int32) (x3 : Int32) (x4 : Int32) (h : f_X10_isLike_5_b B5 q x1 x2 x3 x4 = some o) (ls : Array Slot) (hl : lv_has ls 5 [(0, .ref (eA E 0)), (1, .int x1), (2, .int x2), (3, .int x3), (4, .int x4)]) : Wq (wM E) E p l e rm_X10_isLike s m args below meth c A 0 0 Q q (F0 m 5 ls []) := by
  intro H locs hP hD hS
  have hx := F.1
  have hb := F.2.1
  unfold f_X10_isLike_5_b at h
  refine lv_iload hx hb dX10_isLike_5 (lv_at hl 4 rfl) ?_
  refine lv_aload_n hx hb dX10_isLike_7 rfl (lv_at hl 0 rfl) ?_
  refine r_get F hP i_X10 0 (me_0 E q) rfl 31 (by decide) rfl lf_X10_153 rfl dX10_isLike_8 ?_
  refine lv_icmp_ge (tgt := 46) hx hb dX10_isLike_11 (by decide) (fun c1 => ?_) (fun c1 => ?_)
  · rw [if_pos c1] at h
    refine lv_iload_n hx hb dX10_isLike_46 rfl (lv_at hl 3 rfl) ?_
    by_cases z2 : vp_nar .boolean x3 = x3
    rotate_left
    · rw [if_neg z2] at h; cases h
    rw [if_pos z2] at h
    cases h
    exact hRt _ _ z2 dX10_isLike_47 _ _ hP hD hS
  · rw [if_neg c1] at h
    refine lv_iload_n hx hb dX10_isLike_14 rfl (lv_at hl 3 rfl) ?_
    refine lv_if_eq (tgt := 46) hx hb dX10_isLike_15 (by decide) (fun c3 => ?_) (fun c3 => ?_)
    · rw [if_pos c3] at h
      refine lv_iload_n hx hb dX10_isLike_46 rfl (lv_at hl 3 rfl) ?_
      by_cases z4 : vp_nar .boolean x3 = x3
      rotate_left
      · rw [if_neg z4] at h; cases h
      rw [if_pos z4] at h
      cases h
      exact hRt _ _ z4 dX10_isLike_47 _ _ hP hD hS
    · rw [if_neg c3] at h
      refine lv_aload_n hx hb dX10_isLike_18 rfl (lv_at hl 0 rfl) ?_
      refine lv_aload_n hx hb dX10_isLike_19 rfl (lv_at hl 0 rfl) ?_
      refine r_get F hP i_X10 0 (me_0 E q) rfl 32 (by decide) rfl lf_X10_96 rfl dX10_isLike_20 ?_
      refine lv_iload hx hb dX10_isLike_23 (lv_at hl 4 rfl) ?_
      obtain ⟨y5, e6, h⟩ := Option.bind_eq_some_iff.mp h
      refine r_iald F hP 27 (me_27 E q) e6 dX10_isLike_25 ?_
      refine lv_iload_n hx hb dX10_isLike_26 rfl (lv_at hl 1 rfl) ?_
      refine lv_iload_n hx hb dX10_isLike_27 rfl (lv_at hl 2 rfl) ?_
      obtain ⟨r7, e8, h⟩ := Option.bind_eq_some_iff.mp h
      refine q_callV (As := [.int y5, .int x1, .int x2]) (rest := []) F hA hP hD hS (c_X10_compare (E := E) (l := l) q y5 x1 x2 e8) k_X10_compare in_X10_compare se_X10_compare lm_X10_276 0 (me_0 E q) rfl ⟨rfl, rfl⟩ ⟨by decide, by decide⟩ rfl hl.1 rfl (Nat.le_of_ble_eq_true rfl) dX10_isLike_28 ⟨by decide, by decide⟩ ?_
      intro H locs hP hD hS
      refine lv_if_ne (tgt := 38) hx hb dX10_isLike_31 (by decide) (fun c9 => ?_) (fun c9 => ?_)
      · rw [if_neg c9] at h
        refine lv_iconst (v := 0) hx hb dX10_isLike_38 (by decide) ?_
        exact g_X10_isLike_39 F hA hRt hB5 r7.2 x1 x2 x4 (0 : Int32) h _ (lv_sub hl [0, 1, 2, 4] rfl) _ _ hP hD hS
      · rw [if_pos c9] at h
        refine lv_iconst (v := 1) hx hb dX10_isLike_34 (by decide) ?_
        refine lv_goto (tgt := 39) hx hb dX10_isLike_35 (by decide) ?_
        exact g_X10_isLike_39 F hA hRt hB5 r7.2 x1 x2 x4 (1 : Int32) h _ (lv_sub hl [0, 1, 2, 4] rfl) _ _ hP hD hS
def f_X10_isLike_5 : Nat → QS → Int32 → Int32 → Int32 → Int32 → Option (Int32 × QS)
  | 0 => fun _ _ _ _ _ => none
  | n + 1 => f_X10_isLike_5_b (f_X10_isLike_5 n)
theorem g_X10_isLike_5 {E : En} {p : Program} {l : Launch} {e : Env} {s : State} {m : MethodId} {args : Array Value} {below : List Frame} {meth : Method} {c : Code} {A : Nat → Prop} {Q : State → Prop} (F : Fx E p s m args meth c (yX10_isLike).cls cX10_isLike 5 (some .boolean)) (hA : ∀ z : Nat, s.heap.size ≤ z → A z) {o : Int32 × QS} (hRt : RtZ (wM E) E p l e rm_X10_isLike s m args below meth c A Q cX10_isLike o) (n : Nat) : ∀ (q : QS) (x1 : Int32) (x2 : Int32) (x3 : Int32) (x4 : Int32), f_X10_isLike_5 n q x1 x2 x3 x4 = some o → ∀ ls : Array Slot, lv_has ls 5 [(0, .ref (eA E 0)), (1, .int x1), (2, .int x2), (3, .int x3), (4, .int x4)] → Wq (wM E) E p l e rm_X10_isLike s m args below meth c A 0 0 Q q (F0 m 5 ls []) := by
  induction n with
  | zero => intro q x1 x2 x3 x4 h; cases h
  | succ n ih => intro q x1 x2 x3 x4 h; exact g_X10_isLike_5_b F hA hRt ih q x1 x2 x3 x4 h
def f_X10_isLike_0 (q : QS) (x1 : Int32) (x2 : Int32) : Option (Int32 × QS) :=
  f_X10_isLike_5 FU q x1 x2 (1 : Int32) (0 : Int32)
set_option maxHeartbeats 4000000 in
set_option maxRecDepth 100000 in
theorem g_X10_isLike_0 {E : En} {p : Program} {l : Launch} {e : Env} {s : State} {m : MethodId} {args : Array Value} {below : List Frame} {meth : Method} {c : Code} {A : Nat → Prop} {Q : State → Prop} (F : Fx E p s m args meth c (yX10_isLike).cls cX10_isLike 5 (some .boolean)) (hA : ∀ z : Nat, s.heap.size ≤ z → A z) {o : Int32 × QS} (hRt : RtZ (wM E) E p l e rm_X10_isLike s m args below meth c A Q cX10_isLike o) (q : QS) (x1 : Int32) (x2 : Int32) (h : f_X10_isLike_0 q x1 x2 = some o) (ls : Array Slot) (hl : lv_has ls 5 [(0, .ref (eA E 0)), (1, .int x1), (2, .int x2)]) : Wq (wM E) E p l e rm_X10_isLike s m args below meth c A 0 0 Q q (F0 m 0 ls []) := by
  intro H locs hP hD hS
  have hx := F.1
  have hb := F.2.1
  unfold f_X10_isLike_0 at h
  refine lv_iconst (v := 1) hx hb dX10_isLike_0 (by decide) ?_
  refine lv_istore_n (lv' := [(3, .int (1 : Int32)), (0, .ref (eA E 0)), (1, .int x1), (2, .int x2)]) hx hb dX10_isLike_1 rfl hl (by decide) rfl (fun ls hl => ?_)
  refine lv_iconst (v := 0) hx hb dX10_isLike_2 (by decide) ?_
  refine lv_istore (lv' := [(4, .int (0 : Int32)), (3, .int (1 : Int32)), (0, .ref (eA E 0)), (1, .int x1), (2, .int x2)]) hx hb dX10_isLike_3 hl (by decide) rfl (fun ls hl => ?_)
  exact g_X10_isLike_5 F hA hRt FU q x1 x2 (1 : Int32) (0 : Int32) h _ (lv_sub hl [2, 3, 4, 1, 0] rfl) _ _ hP hD hS
def f_X10_isLike (q : QS) (x1 : Int32) (x2 : Int32) : Option (Int32 × QS) := f_X10_isLike_0 q x1 x2
set_option maxRecDepth 100000 in
theorem c_X10_isLike {E : En} {l : Launch} (q : QS) (x1 : Int32) (x2 : Int32) {o : Int32 × QS} (h : f_X10_isLike q x1 x2 = some o) : Ct (wM E) E l yX10_isLike (wy yX10_isLike cX10_isLike 5 (some .boolean)) rm_X10_isLike q o.2 [.ref (eA E 0), .int x1, .int x2] (some (.int o.1)) :=
  ct_Z (o := o) (by decide +kernel) (fun p e s m below meth c A Q F hA hRt H locs hP hD hS => en_W [.ref (eA E 0), .int x1, .int x2] (Nat.le_of_ble_eq_true rfl) (fun ls hl => g_X10_isLike_0 F hA hRt q x1 x2 h ls (lv_sub hl [0, 1, 2] rfl) H locs hP hD hS))
def rm_X10_makeRows : Room := { frames := 6, cells := 0, slots := 0, locals := 151 }
def f_X10_makeRows_70 (B32 : QS → Int32 → Int32 → Int32 → Int32 → Option (QS)) (q : QS) (x1 : Int32) (x2 : Int32) (x4 : Int32) (t0 : Int32) : Option (QS) :=
  B32 q x1 x2 t0 (x4 + (1 : Int32))
set_option maxHeartbeats 4000000 in
set_option maxRecDepth 100000 in
theorem g_X10_makeRows_70 {E : En} {p : Program} {l : Launch} {e : Env} {s : State} {m : MethodId} {args : Array Value} {below : List Frame} {meth : Method} {c : Code} {A : Nat → Prop} {Q : State → Prop} (F : Fx E p s m args meth c (yX10_makeRows).cls cX10_makeRows 5 none) (hA : ∀ z : Nat, s.heap.size ≤ z → A z) {o : QS} (hRt : RtV (wM E) E p l e rm_X10_makeRows s m args below meth c A Q cX10_makeRows o) {B32 : QS → Int32 → Int32 → Int32 → Int32 → Option (QS)} (hB32 : ∀ (q : QS) (x1 : Int32) (x2 : Int32) (x3 : Int32) (x4 : Int32), B32 q x1 x2 x3 x4 = some o → ∀ ls : Array Slot, lv_has ls 5 [(0, .ref (eA E 0)), (1, .int x1), (2, .int x2), (3, .int x3), (4, .int x4)] → Wq (wM E) E p l e rm_X10_makeRows s m args below meth c A 0 0 Q q (F0 m 32 ls [])) (q : QS) (x1 : Int32) (x2 : Int32) (x4 : Int32) (t0 : Int32) (h : f_X10_makeRows_70 B32 q x1 x2 x4 t0 = some o) (ls : Array Slot) (hl : lv_has ls 5 [(0, .ref (eA E 0)), (1, .int x1), (2, .int x2), (4, .int x4)]) : Wq (wM E) E p l e rm_X10_makeRows s m args below meth c A 0 0 Q q (F0 m 70 ls [.int t0]) := by
  intro H locs hP hD hS
  have hx := F.1
  have hb := F.2.1
  unfold f_X10_makeRows_70 at h
  refine lv_istore_n (lv' := [(3, .int t0), (0, .ref (eA E 0)), (1, .int x1), (2, .int x2), (4, .int x4)]) hx hb dX10_makeRows_70 rfl hl (by decide) rfl (fun ls hl => ?_)
  refine lv_iinc (v := (x4 + (1 : Int32))) (lv' := [(4, .int (x4 + (1 : Int32))), (3, .int t0), (0, .ref (eA E 0)), (1, .int x1), (2, .int x2)]) hx hb dX10_makeRows_71 hl (k := 4) rfl rfl (by decide) rfl (fun ls hl => ?_)
  refine lv_goto (tgt := 32) hx hb dX10_makeRows_74 (by decide) ?_
  exact hB32 q x1 x2 t0 (x4 + (1 : Int32)) h _ (lv_sub hl [2, 3, 4, 1, 0] rfl) _ _ hP hD hS
def f_X10_makeRows_32_b (K77 : QS → Int32 → Int32 → Int32 → Option (QS)) (B32 : QS → Int32 → Int32 → Int32 → Int32 → Option (QS)) (q : QS) (x1 : Int32) (x2 : Int32) (x3 : Int32) (x4 : Int32) : Option (QS) :=
  if (qF q 10) ≤ x4 then
    K77 q x1 x2 x3
  else
    if x1 = 0 then
      K77 q x1 x2 x3
    else
      if 0 ≤ x3 then
        K77 q x1 x2 x3
      else
        (rd (qI q 32) 2000 x4).bind fun y9 =>
        (f_X10_isLike q y9 x2).bind fun r11 =>
        if r11.1 = 0 then
          f_X10_makeRows_70 B32 r11.2 x1 x2 x4 (-1 : Int32)
        else
          f_X10_makeRows_70 B32 r11.2 x1 x2 x4 x4
set_option maxHeartbeats 4000000 in
set_option maxRecDepth 100000 in
theorem g_X10_makeRows_32_b {E : En} {p : Program} {l : Launch} {e : Env} {s : State} {m : MethodId} {args : Array Value} {below : List Frame} {meth : Method} {c : Code} {A : Nat → Prop} {Q : State → Prop} (F : Fx E p s m args meth c (yX10_makeRows).cls cX10_makeRows 5 none) (hA : ∀ z : Nat, s.heap.size ≤ z → A z) {o : QS} (hRt : RtV (wM E) E p l e rm_X10_makeRows s m args below meth c A Q cX10_makeRows o) {K77 : QS → Int32 → Int32 → Int32 → Option (QS)} {B32 : QS → Int32 → Int32 → Int32 → Int32 → Option (QS)} (hK77 : ∀ (q : QS) (x1 : Int32) (x2 : Int32) (x3 : Int32), K77 q x1 x2 x3 = some o → ∀ ls : Array Slot, lv_has ls 5 [(0, .ref (eA E 0)), (1, .int x1), (2, .int x2), (3, .int x3)] → Wq (wM E) E p l e rm_X10_makeRows s m args below meth c A 0 0 Q q (F0 m 77 ls [])) (hB32 : ∀ (q : QS) (x1 : Int32) (x2 : Int32) (x3 : Int32) (x4 : Int32), B32 q x1 x2 x3 x4 = some o → ∀ ls : Array Slot, lv_has ls 5 [(0, .ref (eA E 0)), (1, .int x1), (2, .int x2), (3, .int x3), (4, .int x4)] → Wq (wM E) E p l e rm_X10_makeRows s m args below meth c A 0 0 Q q (F0 m 32 ls [])) (q : QS) (x1 : Int32) (x2 : Int32) (x3 : Int32) (x4 : Int32) (h : f_X10_makeRows_32_b K77 B32 q x1 x2 x3 x4 = some o) (ls : Array Slot) (hl : lv_has ls 5 [(0, .ref (eA E 0)), (1, .int x1), (2, .int x2), (3, .int x3), (4, .int x4)]) : Wq (wM E) E p l e rm_X10_makeRows s m args below meth c A 0 0 Q q (F0 m 32 ls []) := by
  intro H locs hP hD hS
  have hx := F.1
  have hb := F.2.1
  unfold f_X10_makeRows_32_b at h
  refine lv_iload hx hb dX10_makeRows_32 (lv_at hl 4 rfl) ?_
  refine lv_aload_n hx hb dX10_makeRows_34 rfl (lv_at hl 0 rfl) ?_
  refine r_get F hP i_X10 0 (me_0 E q) rfl 41 (by decide) rfl lf_X10_280 rfl dX10_makeRows_35 ?_
  refine lv_icmp_ge (tgt := 77) hx hb dX10_makeRows_38 (by decide) (fun c6 => ?_) (fun c6 => ?_)
  · rw [if_pos c6] at h
    exact hK77 q x1 x2 x3 h _ (lv_sub hl [0, 1, 2, 3] rfl) _ _ hP hD hS
  · rw [if_neg c6] at h
    refine lv_iload_n hx hb dX10_makeRows_41 rfl (lv_at hl 1 rfl) ?_
    refine lv_if_eq (tgt := 77) hx hb dX10_makeRows_42 (by decide) (fun c7 => ?_) (fun c7 => ?_)
    · rw [if_pos c7] at h
      exact hK77 q x1 x2 x3 h _ (lv_sub hl [0, 1, 2, 3] rfl) _ _ hP hD hS
    · rw [if_neg c7] at h
      refine lv_iload_n hx hb dX10_makeRows_45 rfl (lv_at hl 3 rfl) ?_
      refine lv_if_ge (tgt := 77) hx hb dX10_makeRows_46 (by decide) (fun c8 => ?_) (fun c8 => ?_)
      · rw [if_pos c8] at h
        exact hK77 q x1 x2 x3 h _ (lv_sub hl [0, 1, 2, 3] rfl) _ _ hP hD hS
      · rw [if_neg c8] at h
        refine lv_aload_n hx hb dX10_makeRows_49 rfl (lv_at hl 0 rfl) ?_
        refine lv_aload_n hx hb dX10_makeRows_50 rfl (lv_at hl 0 rfl) ?_
        refine r_get F hP i_X10 0 (me_0 E q) rfl 42 (by decide) rfl lf_X10_114 rfl dX10_makeRows_51 ?_
        refine lv_iload hx hb dX10_makeRows_54 (lv_at hl 4 rfl) ?_
        obtain ⟨y9, e10, h⟩ := Option.bind_eq_some_iff.mp h
        refine r_sald F hP 32 (me_32 E q) e10 dX10_makeRows_56 ?_
        refine lv_iload_n hx hb dX10_makeRows_57 rfl (lv_at hl 2 rfl) ?_
        obtain ⟨r11, e12, h⟩ := Option.bind_eq_some_iff.mp h
        refine q_callV (As := [.int y9, .int x2]) (rest := []) F hA hP hD hS (c_X10_isLike (E := E) (l := l) q y9 x2 e12) k_X10_isLike in_X10_isLike se_X10_isLike lm_X10_283 0 (me_0 E q) rfl ⟨rfl, rfl⟩ ⟨by decide, by decide⟩ rfl hl.1 rfl (Nat.le_of_ble_eq_true rfl) dX10_makeRows_58 ⟨by decide, by decide⟩ ?_
        intro H locs hP hD hS
        refine lv_if_eq (tgt := 69) hx hb dX10_makeRows_61 (by decide) (fun c13 => ?_) (fun c13 => ?_)
        · rw [if_pos c13] at h
          refine lv_iconst (v := (-1)) hx hb dX10_makeRows_69 (by decide) ?_
          exact g_X10_makeRows_70 F hA hRt hB32 r11.2 x1 x2 x4 (-1 : Int32) h _ (lv_sub hl [0, 1, 2, 4] rfl) _ _ hP hD hS
        · rw [if_neg c13] at h
          refine lv_iload hx hb dX10_makeRows_64 (lv_at hl 4 rfl) ?_
          refine lv_goto (tgt := 70) hx hb dX10_makeRows_66 (by decide) ?_
          exact g_X10_makeRows_70 F hA hRt hB32 r11.2 x1 x2 x4 x4 h _ (lv_sub hl [0, 1, 2, 4] rfl) _ _ hP hD hS
def f_X10_makeRows_32 (K77 : QS → Int32 → Int32 → Int32 → Option (QS)) : Nat → QS → Int32 → Int32 → Int32 → Int32 → Option (QS)
  | 0 => fun _ _ _ _ _ => none
  | n + 1 => f_X10_makeRows_32_b K77 (f_X10_makeRows_32 K77 n)
theorem g_X10_makeRows_32 {E : En} {p : Program} {l : Launch} {e : Env} {s : State} {m : MethodId} {args : Array Value} {below : List Frame} {meth : Method} {c : Code} {A : Nat → Prop} {Q : State → Prop} (F : Fx E p s m args meth c (yX10_makeRows).cls cX10_makeRows 5 none) (hA : ∀ z : Nat, s.heap.size ≤ z → A z) {o : QS} (hRt : RtV (wM E) E p l e rm_X10_makeRows s m args below meth c A Q cX10_makeRows o) {K77 : QS → Int32 → Int32 → Int32 → Option (QS)} (hK77 : ∀ (q : QS) (x1 : Int32) (x2 : Int32) (x3 : Int32), K77 q x1 x2 x3 = some o → ∀ ls : Array Slot, lv_has ls 5 [(0, .ref (eA E 0)), (1, .int x1), (2, .int x2), (3, .int x3)] → Wq (wM E) E p l e rm_X10_makeRows s m args below meth c A 0 0 Q q (F0 m 77 ls [])) (n : Nat) : ∀ (q : QS) (x1 : Int32) (x2 : Int32) (x3 : Int32) (x4 : Int32), f_X10_makeRows_32 K77 n q x1 x2 x3 x4 = some o → ∀ ls : Array Slot, lv_has ls 5 [(0, .ref (eA E 0)), (1, .int x1), (2, .int x2), (3, .int x3), (4, .int x4)] → Wq (wM E) E p l e rm_X10_makeRows s m args below meth c A 0 0 Q q (F0 m 32 ls []) := by
  induction n with
  | zero => intro q x1 x2 x3 x4 h; cases h
  | succ n ih => intro q x1 x2 x3 x4 h; exact g_X10_makeRows_32_b F hA hRt hK77 ih q x1 x2 x3 x4 h
def f_X10_makeRows_137 (B12 : QS → Int32 → Int32 → Option (QS)) (q : QS) (x1 : Int32) (x2 : Int32) : Option (QS) :=
  B12 q x1 (x2 + (1 : Int32))
set_option maxHeartbeats 4000000 in
set_option maxRecDepth 100000 in
theorem g_X10_makeRows_137 {E : En} {p : Program} {l : Launch} {e : Env} {s : State} {m : MethodId} {args : Array Value} {below : List Frame} {meth : Method} {c : Code} {A : Nat → Prop} {Q : State → Prop} (F : Fx E p s m args meth c (yX10_makeRows).cls cX10_makeRows 5 none) (hA : ∀ z : Nat, s.heap.size ≤ z → A z) {o : QS} (hRt : RtV (wM E) E p l e rm_X10_makeRows s m args below meth c A Q cX10_makeRows o) {B12 : QS → Int32 → Int32 → Option (QS)} (hB12 : ∀ (q : QS) (x1 : Int32) (x2 : Int32), B12 q x1 x2 = some o → ∀ ls : Array Slot, lv_has ls 5 [(0, .ref (eA E 0)), (1, .int x1), (2, .int x2)] → Wq (wM E) E p l e rm_X10_makeRows s m args below meth c A 0 0 Q q (F0 m 12 ls [])) (q : QS) (x1 : Int32) (x2 : Int32) (h : f_X10_makeRows_137 B12 q x1 x2 = some o) (ls : Array Slot) (hl : lv_has ls 5 [(0, .ref (eA E 0)), (1, .int x1), (2, .int x2)]) : Wq (wM E) E p l e rm_X10_makeRows s m args below meth c A 0 0 Q q (F0 m 137 ls []) := by
  intro H locs hP hD hS
  have hx := F.1
  have hb := F.2.1
  unfold f_X10_makeRows_137 at h
  refine lv_iinc (v := (x2 + (1 : Int32))) (lv' := [(2, .int (x2 + (1 : Int32))), (0, .ref (eA E 0)), (1, .int x1)]) hx hb dX10_makeRows_137 hl (k := 2) rfl rfl (by decide) rfl (fun ls hl => ?_)
  refine lv_goto (tgt := 12) hx hb dX10_makeRows_140 (by decide) ?_
  exact hB12 q x1 (x2 + (1 : Int32)) h _ (lv_sub hl [1, 2, 0] rfl) _ _ hP hD hS
def f_X10_makeRows_77 (B12 : QS → Int32 → Int32 → Option (QS)) (q : QS) (x1 : Int32) (x2 : Int32) (x3 : Int32) : Option (QS) :=
  if 0 ≤ x3 then
    (rd (qI q 33) 2000 x3).bind fun y15 =>
    (wI q 31 2000 y15 (vp_nar .short ((x2).toInt16.toInt32))).bind fun q17 =>
    (wI q17 33 2000 x3 (vp_nar .short ((x2).toInt16.toInt32))).bind fun q19 =>
    f_X10_makeRows_137 B12 q19 x1 x2
  else
    (wI q 32 2000 (qF q 10) (vp_nar .short ((x2).toInt16.toInt32))).bind fun q21 =>
    (wI q21 33 2000 (qF q21 10) (vp_nar .short ((x2).toInt16.toInt32))).bind fun q23 =>
    f_X10_makeRows_137 B12 (uF q23 10 ((qF q23 10) + (1 : Int32))) x1 x2
set_option maxHeartbeats 4000000 in
set_option maxRecDepth 100000 in
theorem g_X10_makeRows_77 {E : En} {p : Program} {l : Launch} {e : Env} {s : State} {m : MethodId} {args : Array Value} {below : List Frame} {meth : Method} {c : Code} {A : Nat → Prop} {Q : State → Prop} (F : Fx E p s m args meth c (yX10_makeRows).cls cX10_makeRows 5 none) (hA : ∀ z : Nat, s.heap.size ≤ z → A z) {o : QS} (hRt : RtV (wM E) E p l e rm_X10_makeRows s m args below meth c A Q cX10_makeRows o) {B12 : QS → Int32 → Int32 → Option (QS)} (hB12 : ∀ (q : QS) (x1 : Int32) (x2 : Int32), B12 q x1 x2 = some o → ∀ ls : Array Slot, lv_has ls 5 [(0, .ref (eA E 0)), (1, .int x1), (2, .int x2)] → Wq (wM E) E p l e rm_X10_makeRows s m args below meth c A 0 0 Q q (F0 m 12 ls [])) (q : QS) (x1 : Int32) (x2 : Int32) (x3 : Int32) (h : f_X10_makeRows_77 B12 q x1 x2 x3 = some o) (ls : Array Slot) (hl : lv_has ls 5 [(0, .ref (eA E 0)), (1, .int x1), (2, .int x2), (3, .int x3)]) : Wq (wM E) E p l e rm_X10_makeRows s m args below meth c A 0 0 Q q (F0 m 77 ls []) := by
  intro H locs hP hD hS
  have hx := F.1
  have hb := F.2.1
  unfold f_X10_makeRows_77 at h
  refine lv_iload_n hx hb dX10_makeRows_77 rfl (lv_at hl 3 rfl) ?_
  refine lv_if_ge (tgt := 116) hx hb dX10_makeRows_78 (by decide) (fun c14 => ?_) (fun c14 => ?_)
  · rw [if_pos c14] at h
    refine lv_aload_n hx hb dX10_makeRows_116 rfl (lv_at hl 0 rfl) ?_
    refine r_get F hP i_X10 0 (me_0 E q) rfl 40 (by decide) rfl lf_X10_111 rfl dX10_makeRows_117 ?_
    refine lv_aload_n hx hb dX10_makeRows_120 rfl (lv_at hl 0 rfl) ?_
    refine r_get F hP i_X10 0 (me_0 E q) rfl 43 (by decide) rfl lf_X10_117 rfl dX10_makeRows_121 ?_
    refine lv_iload_n hx hb dX10_makeRows_124 rfl (lv_at hl 3 rfl) ?_
    obtain ⟨y15, e16, h⟩ := Option.bind_eq_some_iff.mp h
    refine r_sald F hP 33 (me_33 E q) e16 dX10_makeRows_125 ?_
    refine lv_iload_n hx hb dX10_makeRows_126 rfl (lv_at hl 2 rfl) ?_
    refine lv_i2s (v := ((x2).toInt16.toInt32)) hx hb dX10_makeRows_127 rfl ?_
    obtain ⟨q17, e18, h⟩ := Option.bind_eq_some_iff.mp h
    refine r_sast F hP hD hS 31 (me_31 E q) (ms_31 E q) e18 dX10_makeRows_128 ?_
    intro H locs hP hD hS
    refine lv_aload_n hx hb dX10_makeRows_129 rfl (lv_at hl 0 rfl) ?_
    refine r_get F hP i_X10 0 (me_0 E q17) rfl 43 (by decide) rfl lf_X10_117 rfl dX10_makeRows_130 ?_
    refine lv_iload_n hx hb dX10_makeRows_133 rfl (lv_at hl 3 rfl) ?_
    refine lv_iload_n hx hb dX10_makeRows_134 rfl (lv_at hl 2 rfl) ?_
    refine lv_i2s (v := ((x2).toInt16.toInt32)) hx hb dX10_makeRows_135 rfl ?_
    obtain ⟨q19, e20, h⟩ := Option.bind_eq_some_iff.mp h
    refine r_sast F hP hD hS 33 (me_33 E q17) (ms_33 E q17) e20 dX10_makeRows_136 ?_
    intro H locs hP hD hS
    exact g_X10_makeRows_137 F hA hRt hB12 q19 x1 x2 h _ (lv_sub hl [0, 1, 2] rfl) _ _ hP hD hS
  · rw [if_neg c14] at h
    refine lv_aload_n hx hb dX10_makeRows_81 rfl (lv_at hl 0 rfl) ?_
    refine r_get F hP i_X10 0 (me_0 E q) rfl 42 (by decide) rfl lf_X10_114 rfl dX10_makeRows_82 ?_
    refine lv_aload_n hx hb dX10_makeRows_85 rfl (lv_at hl 0 rfl) ?_
    refine r_get F hP i_X10 0 (me_0 E q) rfl 41 (by decide) rfl lf_X10_280 rfl dX10_makeRows_86 ?_
    refine lv_iload_n hx hb dX10_makeRows_89 rfl (lv_at hl 2 rfl) ?_
    refine lv_i2s (v := ((x2).toInt16.toInt32)) hx hb dX10_makeRows_90 rfl ?_
    obtain ⟨q21, e22, h⟩ := Option.bind_eq_some_iff.mp h
    refine r_sast F hP hD hS 32 (me_32 E q) (ms_32 E q) e22 dX10_makeRows_91 ?_
    intro H locs hP hD hS
    refine lv_aload_n hx hb dX10_makeRows_92 rfl (lv_at hl 0 rfl) ?_
    refine r_get F hP i_X10 0 (me_0 E q21) rfl 43 (by decide) rfl lf_X10_117 rfl dX10_makeRows_93 ?_
    refine lv_aload_n hx hb dX10_makeRows_96 rfl (lv_at hl 0 rfl) ?_
    refine r_get F hP i_X10 0 (me_0 E q21) rfl 41 (by decide) rfl lf_X10_280 rfl dX10_makeRows_97 ?_
    refine lv_iload_n hx hb dX10_makeRows_100 rfl (lv_at hl 2 rfl) ?_
    refine lv_i2s (v := ((x2).toInt16.toInt32)) hx hb dX10_makeRows_101 rfl ?_
    obtain ⟨q23, e24, h⟩ := Option.bind_eq_some_iff.mp h
    refine r_sast F hP hD hS 33 (me_33 E q21) (ms_33 E q21) e24 dX10_makeRows_102 ?_
    intro H locs hP hD hS
    refine lv_aload_n hx hb dX10_makeRows_103 rfl (lv_at hl 0 rfl) ?_
    refine lv_dup hx hb dX10_makeRows_104 rfl ?_
    refine r_get F hP i_X10 0 (me_0 E q23) rfl 41 (by decide) rfl lf_X10_280 rfl dX10_makeRows_105 ?_
    refine lv_iconst (v := 1) hx hb dX10_makeRows_108 (by decide) ?_
    refine lv_iadd hx hb dX10_makeRows_109 ?_
    refine r_put (ty := .int) (q1 := (uF q23 10 ((qF q23 10) + (1 : Int32)))) F hP hD hS i_X10 tyX10_ok nmX10 0 (me_0 E q23) rfl 41 (by decide) rfl lf_X10_280 rfl (by decide +kernel) rfl rfl (Nat.le_of_ble_eq_true rfl) (mf_0_10 E q23 ((qF q23 10) + (1 : Int32))) dX10_makeRows_110 ?_
    intro H locs hP hD hS
    refine lv_goto (tgt := 137) hx hb dX10_makeRows_113 (by decide) ?_
    exact g_X10_makeRows_137 F hA hRt hB12 (uF q23 10 ((qF q23 10) + (1 : Int32))) x1 x2 h _ (lv_sub hl [0, 1, 2] rfl) _ _ hP hD hS
def f_X10_makeRows_12_b (K143 : QS → Int32 → Option (QS)) (B12 : QS → Int32 → Int32 → Option (QS)) (q : QS) (x1 : Int32) (x2 : Int32) : Option (QS) :=
  if (qF q 9) ≤ x2 then
    K143 q x1
  else
    (wI q 31 2000 x2 (vp_nar .short (-1 : Int32))).bind fun q4 =>
    f_X10_makeRows_32 (f_X10_makeRows_77 B12) FU q4 x1 x2 (-1 : Int32) (0 : Int32)
set_option maxHeartbeats 4000000 in
set_option maxRecDepth 100000 in
theorem g_X10_makeRows_12_b {E : En} {p : Program} {l : Launch} {e : Env} {s : State} {m : MethodId} {args : Array Value} {below : List Frame} {meth : Method} {c : Code} {A : Nat → Prop} {Q : State → Prop} (F : Fx E p s m args meth c (yX10_makeRows).cls cX10_makeRows 5 none) (hA : ∀ z : Nat, s.heap.size ≤ z → A z) {o : QS} (hRt : RtV (wM E) E p l e rm_X10_makeRows s m args below meth c A Q cX10_makeRows o) {K143 : QS → Int32 → Option (QS)} {B12 : QS → Int32 → Int32 → Option (QS)} (hK143 : ∀ (q : QS) (x1 : Int32), K143 q x1 = some o → ∀ ls : Array Slot, lv_has ls 5 [(0, .ref (eA E 0)), (1, .int x1)] → Wq (wM E) E p l e rm_X10_makeRows s m args below meth c A 0 0 Q q (F0 m 143 ls [])) (hB12 : ∀ (q : QS) (x1 : Int32) (x2 : Int32), B12 q x1 x2 = some o → ∀ ls : Array Slot, lv_has ls 5 [(0, .ref (eA E 0)), (1, .int x1), (2, .int x2)] → Wq (wM E) E p l e rm_X10_makeRows s m args below meth c A 0 0 Q q (F0 m 12 ls [])) (q : QS) (x1 : Int32) (x2 : Int32) (h : f_X10_makeRows_12_b K143 B12 q x1 x2 = some o) (ls : Array Slot) (hl : lv_has ls 5 [(0, .ref (eA E 0)), (1, .int x1), (2, .int x2)]) : Wq (wM E) E p l e rm_X10_makeRows s m args below meth c A 0 0 Q q (F0 m 12 ls []) := by
  intro H locs hP hD hS
  have hx := F.1
  have hb := F.2.1
  unfold f_X10_makeRows_12_b at h
  refine lv_iload_n hx hb dX10_makeRows_12 rfl (lv_at hl 2 rfl) ?_
  refine lv_aload_n hx hb dX10_makeRows_13 rfl (lv_at hl 0 rfl) ?_
  refine r_get F hP i_X10 0 (me_0 E q) rfl 38 (by decide) rfl lf_X10_273 rfl dX10_makeRows_14 ?_
  refine lv_icmp_ge (tgt := 143) hx hb dX10_makeRows_17 (by decide) (fun c3 => ?_) (fun c3 => ?_)
  · rw [if_pos c3] at h
    exact hK143 q x1 h _ (lv_sub hl [0, 1] rfl) _ _ hP hD hS
  · rw [if_neg c3] at h
    refine lv_aload_n hx hb dX10_makeRows_20 rfl (lv_at hl 0 rfl) ?_
    refine r_get F hP i_X10 0 (me_0 E q) rfl 40 (by decide) rfl lf_X10_111 rfl dX10_makeRows_21 ?_
    refine lv_iload_n hx hb dX10_makeRows_24 rfl (lv_at hl 2 rfl) ?_
    refine lv_iconst (v := (-1)) hx hb dX10_makeRows_25 (by decide) ?_
    obtain ⟨q4, e5, h⟩ := Option.bind_eq_some_iff.mp h
    refine r_sast F hP hD hS 31 (me_31 E q) (ms_31 E q) e5 dX10_makeRows_26 ?_
    intro H locs hP hD hS
    refine lv_iconst (v := (-1)) hx hb dX10_makeRows_27 (by decide) ?_
    refine lv_istore_n (lv' := [(3, .int (-1 : Int32)), (0, .ref (eA E 0)), (1, .int x1), (2, .int x2)]) hx hb dX10_makeRows_28 rfl hl (by decide) rfl (fun ls hl => ?_)
    refine lv_iconst (v := 0) hx hb dX10_makeRows_29 (by decide) ?_
    refine lv_istore (lv' := [(4, .int (0 : Int32)), (3, .int (-1 : Int32)), (0, .ref (eA E 0)), (1, .int x1), (2, .int x2)]) hx hb dX10_makeRows_30 hl (by decide) rfl (fun ls hl => ?_)
    exact g_X10_makeRows_32 F hA hRt (g_X10_makeRows_77 F hA hRt hB12) FU q4 x1 x2 (-1 : Int32) (0 : Int32) h _ (lv_sub hl [2, 3, 4, 1, 0] rfl) _ _ hP hD hS
def f_X10_makeRows_12 (K143 : QS → Int32 → Option (QS)) : Nat → QS → Int32 → Int32 → Option (QS)
  | 0 => fun _ _ _ => none
  | n + 1 => f_X10_makeRows_12_b K143 (f_X10_makeRows_12 K143 n)
theorem g_X10_makeRows_12 {E : En} {p : Program} {l : Launch} {e : Env} {s : State} {m : MethodId} {args : Array Value} {below : List Frame} {meth : Method} {c : Code} {A : Nat → Prop} {Q : State → Prop} (F : Fx E p s m args meth c (yX10_makeRows).cls cX10_makeRows 5 none) (hA : ∀ z : Nat, s.heap.size ≤ z → A z) {o : QS} (hRt : RtV (wM E) E p l e rm_X10_makeRows s m args below meth c A Q cX10_makeRows o) {K143 : QS → Int32 → Option (QS)} (hK143 : ∀ (q : QS) (x1 : Int32), K143 q x1 = some o → ∀ ls : Array Slot, lv_has ls 5 [(0, .ref (eA E 0)), (1, .int x1)] → Wq (wM E) E p l e rm_X10_makeRows s m args below meth c A 0 0 Q q (F0 m 143 ls [])) (n : Nat) : ∀ (q : QS) (x1 : Int32) (x2 : Int32), f_X10_makeRows_12 K143 n q x1 x2 = some o → ∀ ls : Array Slot, lv_has ls 5 [(0, .ref (eA E 0)), (1, .int x1), (2, .int x2)] → Wq (wM E) E p l e rm_X10_makeRows s m args below meth c A 0 0 Q q (F0 m 12 ls []) := by
  induction n with
  | zero => intro q x1 x2 h; cases h
  | succ n ih => intro q x1 x2 h; exact g_X10_makeRows_12_b F hA hRt hK143 ih q x1 x2 h
def f_X10_makeRows_143 (q : QS) (x1 : Int32) : Option (QS) :=
  if x1 = 0 then
    some q
  else
    if (qF q 5) = 0 then
      if (qF q 10) = 0 then
        (wI q 32 2000 (0 : Int32) (vp_nar .short (-1 : Int32))).bind fun q28 =>
        some (uF q28 10 (1 : Int32))
      else
        some q
    else
      some q
set_option maxHeartbeats 4000000 in
set_option maxRecDepth 100000 in
theorem g_X10_makeRows_143 {E : En} {p : Program} {l : Launch} {e : Env} {s : State} {m : MethodId} {args : Array Value} {below : List Frame} {meth : Method} {c : Code} {A : Nat → Prop} {Q : State → Prop} (F : Fx E p s m args meth c (yX10_makeRows).cls cX10_makeRows 5 none) (hA : ∀ z : Nat, s.heap.size ≤ z → A z) {o : QS} (hRt : RtV (wM E) E p l e rm_X10_makeRows s m args below meth c A Q cX10_makeRows o) (q : QS) (x1 : Int32) (h : f_X10_makeRows_143 q x1 = some o) (ls : Array Slot) (hl : lv_has ls 5 [(0, .ref (eA E 0)), (1, .int x1)]) : Wq (wM E) E p l e rm_X10_makeRows s m args below meth c A 0 0 Q q (F0 m 143 ls []) := by
  intro H locs hP hD hS
  have hx := F.1
  have hb := F.2.1
  unfold f_X10_makeRows_143 at h
  refine lv_iload_n hx hb dX10_makeRows_143 rfl (lv_at hl 1 rfl) ?_
  refine lv_if_eq (tgt := 173) hx hb dX10_makeRows_144 (by decide) (fun c25 => ?_) (fun c25 => ?_)
  · rw [if_pos c25] at h
    cases h
    exact hRt _ _ dX10_makeRows_173 _ _ hP hD hS
  · rw [if_neg c25] at h
    refine lv_aload_n hx hb dX10_makeRows_147 rfl (lv_at hl 0 rfl) ?_
    refine r_get F hP i_X10 0 (me_0 E q) rfl 31 (by decide) rfl lf_X10_153 rfl dX10_makeRows_148 ?_
    refine lv_if_ne (tgt := 173) hx hb dX10_makeRows_151 (by decide) (fun c26 => ?_) (fun c26 => ?_)
    · rw [if_neg c26] at h
      cases h
      exact hRt _ _ dX10_makeRows_173 _ _ hP hD hS
    · rw [if_pos c26] at h
      refine lv_aload_n hx hb dX10_makeRows_154 rfl (lv_at hl 0 rfl) ?_
      refine r_get F hP i_X10 0 (me_0 E q) rfl 41 (by decide) rfl lf_X10_280 rfl dX10_makeRows_155 ?_
      refine lv_if_ne (tgt := 173) hx hb dX10_makeRows_158 (by decide) (fun c27 => ?_) (fun c27 => ?_)
      · rw [if_neg c27] at h
        cases h
        exact hRt _ _ dX10_makeRows_173 _ _ hP hD hS
      · rw [if_pos c27] at h
        refine lv_aload_n hx hb dX10_makeRows_161 rfl (lv_at hl 0 rfl) ?_
        refine r_get F hP i_X10 0 (me_0 E q) rfl 42 (by decide) rfl lf_X10_114 rfl dX10_makeRows_162 ?_
        refine lv_iconst (v := 0) hx hb dX10_makeRows_165 (by decide) ?_
        refine lv_iconst (v := (-1)) hx hb dX10_makeRows_166 (by decide) ?_
        obtain ⟨q28, e29, h⟩ := Option.bind_eq_some_iff.mp h
        refine r_sast F hP hD hS 32 (me_32 E q) (ms_32 E q) e29 dX10_makeRows_167 ?_
        intro H locs hP hD hS
        refine lv_aload_n hx hb dX10_makeRows_168 rfl (lv_at hl 0 rfl) ?_
        refine lv_iconst (v := 1) hx hb dX10_makeRows_169 (by decide) ?_
        refine r_put (ty := .int) (q1 := (uF q28 10 (1 : Int32))) F hP hD hS i_X10 tyX10_ok nmX10 0 (me_0 E q28) rfl 41 (by decide) rfl lf_X10_280 rfl (by decide +kernel) rfl rfl (Nat.le_of_ble_eq_true rfl) (mf_0_10 E q28 (1 : Int32)) dX10_makeRows_170 ?_
        intro H locs hP hD hS
        cases h
        exact hRt _ _ dX10_makeRows_173 _ _ hP hD hS
def f_X10_makeRows_0 (q : QS) : Option (QS) :=
  (f_X10_isGathered q).bind fun r1 =>
  f_X10_makeRows_12 (f_X10_makeRows_143) FU (uF q 10 (0 : Int32)) r1 (0 : Int32)
set_option maxHeartbeats 4000000 in
set_option maxRecDepth 100000 in
theorem g_X10_makeRows_0 {E : En} {p : Program} {l : Launch} {e : Env} {s : State} {m : MethodId} {args : Array Value} {below : List Frame} {meth : Method} {c : Code} {A : Nat → Prop} {Q : State → Prop} (F : Fx E p s m args meth c (yX10_makeRows).cls cX10_makeRows 5 none) (hA : ∀ z : Nat, s.heap.size ≤ z → A z) {o : QS} (hRt : RtV (wM E) E p l e rm_X10_makeRows s m args below meth c A Q cX10_makeRows o) (q : QS) (h : f_X10_makeRows_0 q = some o) (ls : Array Slot) (hl : lv_has ls 5 [(0, .ref (eA E 0))]) : Wq (wM E) E p l e rm_X10_makeRows s m args below meth c A 0 0 Q q (F0 m 0 ls []) := by
  intro H locs hP hD hS
  have hx := F.1
  have hb := F.2.1
  unfold f_X10_makeRows_0 at h
  refine lv_aload_n hx hb dX10_makeRows_0 rfl (lv_at hl 0 rfl) ?_
  obtain ⟨r1, e2, h⟩ := Option.bind_eq_some_iff.mp h
  refine q_callV (As := []) (rest := []) F hA hP hD hS (c_X10_isGathered (E := E) (l := l) q e2) k_X10_isGathered in_X10_isGathered se_X10_isGathered lm_X10_262 0 (me_0 E q) rfl ⟨rfl, rfl⟩ ⟨by decide, by decide⟩ rfl hl.1 rfl (Nat.le_of_ble_eq_true rfl) dX10_makeRows_1 ⟨by decide, by decide⟩ ?_
  intro H locs hP hD hS
  refine lv_istore_n (lv' := [(1, .int r1), (0, .ref (eA E 0))]) hx hb dX10_makeRows_4 rfl hl (by decide) rfl (fun ls hl => ?_)
  refine lv_aload_n hx hb dX10_makeRows_5 rfl (lv_at hl 1 rfl) ?_
  refine lv_iconst (v := 0) hx hb dX10_makeRows_6 (by decide) ?_
  refine r_put (ty := .int) (q1 := (uF q 10 (0 : Int32))) F hP hD hS i_X10 tyX10_ok nmX10 0 (me_0 E q) rfl 41 (by decide) rfl lf_X10_280 rfl (by decide +kernel) rfl rfl (Nat.le_of_ble_eq_true rfl) (mf_0_10 E q (0 : Int32)) dX10_makeRows_7 ?_
  intro H locs hP hD hS
  refine lv_iconst (v := 0) hx hb dX10_makeRows_10 (by decide) ?_
  refine lv_istore_n (lv' := [(2, .int (0 : Int32)), (1, .int r1), (0, .ref (eA E 0))]) hx hb dX10_makeRows_11 rfl hl (by decide) rfl (fun ls hl => ?_)
  exact g_X10_makeRows_12 F hA hRt (g_X10_makeRows_143 F hA hRt) FU (uF q 10 (0 : Int32)) r1 (0 : Int32) h _ (lv_sub hl [2, 1, 0] rfl) _ _ hP hD hS
def f_X10_makeRows (q : QS) : Option (QS) := f_X10_makeRows_0 q
set_option maxRecDepth 100000 in
theorem c_X10_makeRows {E : En} {l : Launch} (q : QS) {o : QS} (h : f_X10_makeRows q = some o) : Ct (wM E) E l yX10_makeRows (wy yX10_makeRows cX10_makeRows 5 none) rm_X10_makeRows q o [.ref (eA E 0)] none :=
  ct_V (o := o) (by decide +kernel) (fun p e s m below meth c A Q F hA hRt H locs hP hD hS => en_W [.ref (eA E 0)] (Nat.le_of_ble_eq_true rfl) (fun ls hl => g_X10_makeRows_0 F hA hRt q h ls (lv_sub hl [0] rfl) H locs hP hD hS))
def rm_X10_makeDistinct : Room := { frames := 5, cells := 0, slots := 0, locals := 127 }
def f_X10_makeDistinct_79 (B33 : QS → Int32 → Int32 → Int32 → Int32 → Int32 → Option (QS)) (q : QS) (x1 : Int32) (x2 : Int32) (x4 : Int32) (x6 : Int32) (t0 : Int32) : Option (QS) :=
  B33 q x1 x2 x4 t0 (x6 + (1 : Int32))
set_option maxHeartbeats 4000000 in
set_option maxRecDepth 100000 in
theorem g_X10_makeDistinct_79 {E : En} {p : Program} {l : Launch} {e : Env} {s : State} {m : MethodId} {args : Array Value} {below : List Frame} {meth : Method} {c : Code} {A : Nat → Prop} {Q : State → Prop} (F : Fx E p s m args meth c (yX10_makeDistinct).cls cX10_makeDistinct 7 none) (hA : ∀ z : Nat, s.heap.size ≤ z → A z) {o : QS} (hRt : RtV (wM E) E p l e rm_X10_makeDistinct s m args below meth c A Q cX10_makeDistinct o) {B33 : QS → Int32 → Int32 → Int32 → Int32 → Int32 → Option (QS)} (hB33 : ∀ (q : QS) (x1 : Int32) (x2 : Int32) (x4 : Int32) (x5 : Int32) (x6 : Int32), B33 q x1 x2 x4 x5 x6 = some o → ∀ ls : Array Slot, lv_has ls 7 [(0, .ref (eA E 0)), (1, .int x1), (2, .int x2), (4, .int x4), (5, .int x5), (6, .int x6)] → Wq (wM E) E p l e rm_X10_makeDistinct s m args below meth c A 0 0 Q q (F0 m 33 ls [])) (q : QS) (x1 : Int32) (x2 : Int32) (x4 : Int32) (x6 : Int32) (t0 : Int32) (h : f_X10_makeDistinct_79 B33 q x1 x2 x4 x6 t0 = some o) (ls : Array Slot) (hl : lv_has ls 7 [(0, .ref (eA E 0)), (1, .int x1), (2, .int x2), (4, .int x4), (6, .int x6)]) : Wq (wM E) E p l e rm_X10_makeDistinct s m args below meth c A 0 0 Q q (F0 m 79 ls [.int t0]) := by
  intro H locs hP hD hS
  have hx := F.1
  have hb := F.2.1
  unfold f_X10_makeDistinct_79 at h
  refine lv_istore (lv' := [(5, .int t0), (0, .ref (eA E 0)), (1, .int x1), (2, .int x2), (4, .int x4), (6, .int x6)]) hx hb dX10_makeDistinct_79 hl (by decide) rfl (fun ls hl => ?_)
  refine lv_iinc (v := (x6 + (1 : Int32))) (lv' := [(6, .int (x6 + (1 : Int32))), (5, .int t0), (0, .ref (eA E 0)), (1, .int x1), (2, .int x2), (4, .int x4)]) hx hb dX10_makeDistinct_81 hl (k := 5) rfl rfl (by decide) rfl (fun ls hl => ?_)
  refine lv_goto (tgt := 33) hx hb dX10_makeDistinct_84 (by decide) ?_
  exact hB33 q x1 x2 x4 t0 (x6 + (1 : Int32)) h _ (lv_sub hl [2, 3, 4, 5, 1, 0] rfl) _ _ hP hD hS
def f_X10_makeDistinct_33_b (K87 : QS → Int32 → Int32 → Int32 → Int32 → Option (QS)) (B33 : QS → Int32 → Int32 → Int32 → Int32 → Int32 → Option (QS)) (q : QS) (x1 : Int32) (x2 : Int32) (x4 : Int32) (x5 : Int32) (x6 : Int32) : Option (QS) :=
  if (qF q 4) ≤ x6 then
    K87 q x1 x2 x4 x5
  else
    if x5 = 0 then
      K87 q x1 x2 x4 x5
    else
      (rd (qI q 26) 8 x6).bind fun y6 =>
      (rd (qI q 32) 2000 x4).bind fun y8 =>
      (rd (qI q 32) 2000 x2).bind fun y10 =>
      (f_X10_compare q y6 y8 y10).bind fun r12 =>
      if r12.1 = 0 then
        f_X10_makeDistinct_79 B33 r12.2 x1 x2 x4 x6 (1 : Int32)
      else
        f_X10_makeDistinct_79 B33 r12.2 x1 x2 x4 x6 (0 : Int32)
set_option maxHeartbeats 4000000 in
set_option maxRecDepth 100000 in
theorem g_X10_makeDistinct_33_b {E : En} {p : Program} {l : Launch} {e : Env} {s : State} {m : MethodId} {args : Array Value} {below : List Frame} {meth : Method} {c : Code} {A : Nat → Prop} {Q : State → Prop} (F : Fx E p s m args meth c (yX10_makeDistinct).cls cX10_makeDistinct 7 none) (hA : ∀ z : Nat, s.heap.size ≤ z → A z) {o : QS} (hRt : RtV (wM E) E p l e rm_X10_makeDistinct s m args below meth c A Q cX10_makeDistinct o) {K87 : QS → Int32 → Int32 → Int32 → Int32 → Option (QS)} {B33 : QS → Int32 → Int32 → Int32 → Int32 → Int32 → Option (QS)} (hK87 : ∀ (q : QS) (x1 : Int32) (x2 : Int32) (x4 : Int32) (x5 : Int32), K87 q x1 x2 x4 x5 = some o → ∀ ls : Array Slot, lv_has ls 7 [(0, .ref (eA E 0)), (1, .int x1), (2, .int x2), (4, .int x4), (5, .int x5)] → Wq (wM E) E p l e rm_X10_makeDistinct s m args below meth c A 0 0 Q q (F0 m 87 ls [])) (hB33 : ∀ (q : QS) (x1 : Int32) (x2 : Int32) (x4 : Int32) (x5 : Int32) (x6 : Int32), B33 q x1 x2 x4 x5 x6 = some o → ∀ ls : Array Slot, lv_has ls 7 [(0, .ref (eA E 0)), (1, .int x1), (2, .int x2), (4, .int x4), (5, .int x5), (6, .int x6)] → Wq (wM E) E p l e rm_X10_makeDistinct s m args below meth c A 0 0 Q q (F0 m 33 ls [])) (q : QS) (x1 : Int32) (x2 : Int32) (x4 : Int32) (x5 : Int32) (x6 : Int32) (h : f_X10_makeDistinct_33_b K87 B33 q x1 x2 x4 x5 x6 = some o) (ls : Array Slot) (hl : lv_has ls 7 [(0, .ref (eA E 0)), (1, .int x1), (2, .int x2), (4, .int x4), (5, .int x5), (6, .int x6)]) : Wq (wM E) E p l e rm_X10_makeDistinct s m args below meth c A 0 0 Q q (F0 m 33 ls []) := by
  intro H locs hP hD hS
  have hx := F.1
  have hb := F.2.1
  unfold f_X10_makeDistinct_33_b at h
  refine lv_iload hx hb dX10_makeDistinct_33 (lv_at hl 5 rfl) ?_
  refine lv_aload_n hx hb dX10_makeDistinct_35 rfl (lv_at hl 0 rfl) ?_
  refine r_get F hP i_X10 0 (me_0 E q) rfl 29 (by decide) rfl lf_X10_150 rfl dX10_makeDistinct_36 ?_
  refine lv_icmp_ge (tgt := 87) hx hb dX10_makeDistinct_39 (by decide) (fun c4 => ?_) (fun c4 => ?_)
  · rw [if_pos c4] at h
    exact hK87 q x1 x2 x4 x5 h _ (lv_sub hl [0, 1, 2, 3, 4] rfl) _ _ hP hD hS
  · rw [if_neg c4] at h
    refine lv_iload hx hb dX10_makeDistinct_42 (lv_at hl 4 rfl) ?_
    refine lv_if_eq (tgt := 87) hx hb dX10_makeDistinct_44 (by decide) (fun c5 => ?_) (fun c5 => ?_)
    · rw [if_pos c5] at h
      exact hK87 q x1 x2 x4 x5 h _ (lv_sub hl [0, 1, 2, 3, 4] rfl) _ _ hP hD hS
    · rw [if_neg c5] at h
      refine lv_aload_n hx hb dX10_makeDistinct_47 rfl (lv_at hl 0 rfl) ?_
      refine lv_aload_n hx hb dX10_makeDistinct_48 rfl (lv_at hl 0 rfl) ?_
      refine r_get F hP i_X10 0 (me_0 E q) rfl 30 (by decide) rfl lf_X10_93 rfl dX10_makeDistinct_49 ?_
      refine lv_iload hx hb dX10_makeDistinct_52 (lv_at hl 5 rfl) ?_
      obtain ⟨y6, e7, h⟩ := Option.bind_eq_some_iff.mp h
      refine r_iald F hP 26 (me_26 E q) e7 dX10_makeDistinct_54 ?_
      refine lv_aload_n hx hb dX10_makeDistinct_55 rfl (lv_at hl 0 rfl) ?_
      refine r_get F hP i_X10 0 (me_0 E q) rfl 42 (by decide) rfl lf_X10_114 rfl dX10_makeDistinct_56 ?_
      refine lv_iload hx hb dX10_makeDistinct_59 (lv_at hl 3 rfl) ?_
      obtain ⟨y8, e9, h⟩ := Option.bind_eq_some_iff.mp h
      refine r_sald F hP 32 (me_32 E q) e9 dX10_makeDistinct_61 ?_
      refine lv_aload_n hx hb dX10_makeDistinct_62 rfl (lv_at hl 0 rfl) ?_
      refine r_get F hP i_X10 0 (me_0 E q) rfl 42 (by decide) rfl lf_X10_114 rfl dX10_makeDistinct_63 ?_
      refine lv_iload_n hx hb dX10_makeDistinct_66 rfl (lv_at hl 2 rfl) ?_
      obtain ⟨y10, e11, h⟩ := Option.bind_eq_some_iff.mp h
      refine r_sald F hP 32 (me_32 E q) e11 dX10_makeDistinct_67 ?_
      obtain ⟨r12, e13, h⟩ := Option.bind_eq_some_iff.mp h
      refine q_callV (As := [.int y6, .int y8, .int y10]) (rest := []) F hA hP hD hS (c_X10_compare (E := E) (l := l) q y6 y8 y10 e13) k_X10_compare in_X10_compare se_X10_compare lm_X10_276 0 (me_0 E q) rfl ⟨rfl, rfl⟩ ⟨by decide, by decide⟩ rfl hl.1 rfl (Nat.le_of_ble_eq_true rfl) dX10_makeDistinct_68 ⟨by decide, by decide⟩ ?_
      intro H locs hP hD hS
      refine lv_if_ne (tgt := 78) hx hb dX10_makeDistinct_71 (by decide) (fun c14 => ?_) (fun c14 => ?_)
      · rw [if_neg c14] at h
        refine lv_iconst (v := 0) hx hb dX10_makeDistinct_78 (by decide) ?_
        exact g_X10_makeDistinct_79 F hA hRt hB33 r12.2 x1 x2 x4 x6 (0 : Int32) h _ (lv_sub hl [0, 1, 2, 3, 5] rfl) _ _ hP hD hS
      · rw [if_pos c14] at h
        refine lv_iconst (v := 1) hx hb dX10_makeDistinct_74 (by decide) ?_
        refine lv_goto (tgt := 79) hx hb dX10_makeDistinct_75 (by decide) ?_
        exact g_X10_makeDistinct_79 F hA hRt hB33 r12.2 x1 x2 x4 x6 (1 : Int32) h _ (lv_sub hl [0, 1, 2, 3, 5] rfl) _ _ hP hD hS
def f_X10_makeDistinct_33 (K87 : QS → Int32 → Int32 → Int32 → Int32 → Option (QS)) : Nat → QS → Int32 → Int32 → Int32 → Int32 → Int32 → Option (QS)
  | 0 => fun _ _ _ _ _ _ => none
  | n + 1 => f_X10_makeDistinct_33_b K87 (f_X10_makeDistinct_33 K87 n)
theorem g_X10_makeDistinct_33 {E : En} {p : Program} {l : Launch} {e : Env} {s : State} {m : MethodId} {args : Array Value} {below : List Frame} {meth : Method} {c : Code} {A : Nat → Prop} {Q : State → Prop} (F : Fx E p s m args meth c (yX10_makeDistinct).cls cX10_makeDistinct 7 none) (hA : ∀ z : Nat, s.heap.size ≤ z → A z) {o : QS} (hRt : RtV (wM E) E p l e rm_X10_makeDistinct s m args below meth c A Q cX10_makeDistinct o) {K87 : QS → Int32 → Int32 → Int32 → Int32 → Option (QS)} (hK87 : ∀ (q : QS) (x1 : Int32) (x2 : Int32) (x4 : Int32) (x5 : Int32), K87 q x1 x2 x4 x5 = some o → ∀ ls : Array Slot, lv_has ls 7 [(0, .ref (eA E 0)), (1, .int x1), (2, .int x2), (4, .int x4), (5, .int x5)] → Wq (wM E) E p l e rm_X10_makeDistinct s m args below meth c A 0 0 Q q (F0 m 87 ls [])) (n : Nat) : ∀ (q : QS) (x1 : Int32) (x2 : Int32) (x4 : Int32) (x5 : Int32) (x6 : Int32), f_X10_makeDistinct_33 K87 n q x1 x2 x4 x5 x6 = some o → ∀ ls : Array Slot, lv_has ls 7 [(0, .ref (eA E 0)), (1, .int x1), (2, .int x2), (4, .int x4), (5, .int x5), (6, .int x6)] → Wq (wM E) E p l e rm_X10_makeDistinct s m args below meth c A 0 0 Q q (F0 m 33 ls []) := by
  induction n with
  | zero => intro q x1 x2 x4 x5 x6 h; cases h
  | succ n ih => intro q x1 x2 x4 x5 x6 h; exact g_X10_makeDistinct_33_b F hA hRt hK87 ih q x1 x2 x4 x5 x6 h
def f_X10_makeDistinct_97 (B17 : QS → Int32 → Int32 → Int32 → Int32 → Option (QS)) (q : QS) (x1 : Int32) (x2 : Int32) (x4 : Int32) (t0 : Int32) : Option (QS) :=
  B17 q x1 x2 t0 (x4 + (1 : Int32))
set_option maxHeartbeats 4000000 in
set_option maxRecDepth 100000 in
theorem g_X10_makeDistinct_97 {E : En} {p : Program} {l : Launch} {e : Env} {s : State} {m : MethodId} {args : Array Value} {below : List Frame} {meth : Method} {c : Code} {A : Nat → Prop} {Q : State → Prop} (F : Fx E p s m args meth c (yX10_makeDistinct).cls cX10_makeDistinct 7 none) (hA : ∀ z : Nat, s.heap.size ≤ z → A z) {o : QS} (hRt : RtV (wM E) E p l e rm_X10_makeDistinct s m args below meth c A Q cX10_makeDistinct o) {B17 : QS → Int32 → Int32 → Int32 → Int32 → Option (QS)} (hB17 : ∀ (q : QS) (x1 : Int32) (x2 : Int32) (x3 : Int32) (x4 : Int32), B17 q x1 x2 x3 x4 = some o → ∀ ls : Array Slot, lv_has ls 7 [(0, .ref (eA E 0)), (1, .int x1), (2, .int x2), (3, .int x3), (4, .int x4)] → Wq (wM E) E p l e rm_X10_makeDistinct s m args below meth c A 0 0 Q q (F0 m 17 ls [])) (q : QS) (x1 : Int32) (x2 : Int32) (x4 : Int32) (t0 : Int32) (h : f_X10_makeDistinct_97 B17 q x1 x2 x4 t0 = some o) (ls : Array Slot) (hl : lv_has ls 7 [(0, .ref (eA E 0)), (1, .int x1), (2, .int x2), (4, .int x4)]) : Wq (wM E) E p l e rm_X10_makeDistinct s m args below meth c A 0 0 Q q (F0 m 97 ls [.int t0]) := by
  intro H locs hP hD hS
  have hx := F.1
  have hb := F.2.1
  unfold f_X10_makeDistinct_97 at h
  refine lv_istore_n (lv' := [(3, .int t0), (0, .ref (eA E 0)), (1, .int x1), (2, .int x2), (4, .int x4)]) hx hb dX10_makeDistinct_97 rfl hl (by decide) rfl (fun ls hl => ?_)
  refine lv_iinc (v := (x4 + (1 : Int32))) (lv' := [(4, .int (x4 + (1 : Int32))), (3, .int t0), (0, .ref (eA E 0)), (1, .int x1), (2, .int x2)]) hx hb dX10_makeDistinct_98 hl (k := 4) rfl rfl (by decide) rfl (fun ls hl => ?_)
  refine lv_goto (tgt := 17) hx hb dX10_makeDistinct_101 (by decide) ?_
  exact hB17 q x1 x2 t0 (x4 + (1 : Int32)) h _ (lv_sub hl [2, 3, 4, 1, 0] rfl) _ _ hP hD hS
def f_X10_makeDistinct_87 (B17 : QS → Int32 → Int32 → Int32 → Int32 → Option (QS)) (q : QS) (x1 : Int32) (x2 : Int32) (x4 : Int32) (x5 : Int32) : Option (QS) :=
  if x5 = 0 then
    f_X10_makeDistinct_97 B17 q x1 x2 x4 (1 : Int32)
  else
    f_X10_makeDistinct_97 B17 q x1 x2 x4 (0 : Int32)
set_option maxHeartbeats 4000000 in
set_option maxRecDepth 100000 in
theorem g_X10_makeDistinct_87 {E : En} {p : Program} {l : Launch} {e : Env} {s : State} {m : MethodId} {args : Array Value} {below : List Frame} {meth : Method} {c : Code} {A : Nat → Prop} {Q : State → Prop} (F : Fx E p s m args meth c (yX10_makeDistinct).cls cX10_makeDistinct 7 none) (hA : ∀ z : Nat, s.heap.size ≤ z → A z) {o : QS} (hRt : RtV (wM E) E p l e rm_X10_makeDistinct s m args below meth c A Q cX10_makeDistinct o) {B17 : QS → Int32 → Int32 → Int32 → Int32 → Option (QS)} (hB17 : ∀ (q : QS) (x1 : Int32) (x2 : Int32) (x3 : Int32) (x4 : Int32), B17 q x1 x2 x3 x4 = some o → ∀ ls : Array Slot, lv_has ls 7 [(0, .ref (eA E 0)), (1, .int x1), (2, .int x2), (3, .int x3), (4, .int x4)] → Wq (wM E) E p l e rm_X10_makeDistinct s m args below meth c A 0 0 Q q (F0 m 17 ls [])) (q : QS) (x1 : Int32) (x2 : Int32) (x4 : Int32) (x5 : Int32) (h : f_X10_makeDistinct_87 B17 q x1 x2 x4 x5 = some o) (ls : Array Slot) (hl : lv_has ls 7 [(0, .ref (eA E 0)), (1, .int x1), (2, .int x2), (4, .int x4), (5, .int x5)]) : Wq (wM E) E p l e rm_X10_makeDistinct s m args below meth c A 0 0 Q q (F0 m 87 ls []) := by
  intro H locs hP hD hS
  have hx := F.1
  have hb := F.2.1
  unfold f_X10_makeDistinct_87 at h
  refine lv_iload hx hb dX10_makeDistinct_87 (lv_at hl 4 rfl) ?_
  refine lv_if_ne (tgt := 96) hx hb dX10_makeDistinct_89 (by decide) (fun c15 => ?_) (fun c15 => ?_)
  · rw [if_neg c15] at h
    refine lv_iconst (v := 0) hx hb dX10_makeDistinct_96 (by decide) ?_
    exact g_X10_makeDistinct_97 F hA hRt hB17 q x1 x2 x4 (0 : Int32) h _ (lv_sub hl [0, 1, 2, 3] rfl) _ _ hP hD hS
  · rw [if_pos c15] at h
    refine lv_iconst (v := 1) hx hb dX10_makeDistinct_92 (by decide) ?_
    refine lv_goto (tgt := 97) hx hb dX10_makeDistinct_93 (by decide) ?_
    exact g_X10_makeDistinct_97 F hA hRt hB17 q x1 x2 x4 (1 : Int32) h _ (lv_sub hl [0, 1, 2, 3] rfl) _ _ hP hD hS
def f_X10_makeDistinct_17_b (K104 : QS → Int32 → Int32 → Int32 → Option (QS)) (B17 : QS → Int32 → Int32 → Int32 → Int32 → Option (QS)) (q : QS) (x1 : Int32) (x2 : Int32) (x3 : Int32) (x4 : Int32) : Option (QS) :=
  if x1 ≤ x4 then
    K104 q x1 x2 x3
  else
    if x3 = 0 then
      K104 q x1 x2 x3
    else
      f_X10_makeDistinct_33 (f_X10_makeDistinct_87 B17) FU q x1 x2 x4 (1 : Int32) (0 : Int32)
set_option maxHeartbeats 4000000 in
set_option maxRecDepth 100000 in
theorem g_X10_makeDistinct_17_b {E : En} {p : Program} {l : Launch} {e : Env} {s : State} {m : MethodId} {args : Array Value} {below : List Frame} {meth : Method} {c : Code} {A : Nat → Prop} {Q : State → Prop} (F : Fx E p s m args meth c (yX10_makeDistinct).cls cX10_makeDistinct 7 none) (hA : ∀ z : Nat, s.heap.size ≤ z → A z) {o : QS} (hRt : RtV (wM E) E p l e rm_X10_makeDistinct s m args below meth c A Q cX10_makeDistinct o) {K104 : QS → Int32 → Int32 → Int32 → Option (QS)} {B17 : QS → Int32 → Int32 → Int32 → Int32 → Option (QS)} (hK104 : ∀ (q : QS) (x1 : Int32) (x2 : Int32) (x3 : Int32), K104 q x1 x2 x3 = some o → ∀ ls : Array Slot, lv_has ls 7 [(0, .ref (eA E 0)), (1, .int x1), (2, .int x2), (3, .int x3)] → Wq (wM E) E p l e rm_X10_makeDistinct s m args below meth c A 0 0 Q q (F0 m 104 ls [])) (hB17 : ∀ (q : QS) (x1 : Int32) (x2 : Int32) (x3 : Int32) (x4 : Int32), B17 q x1 x2 x3 x4 = some o → ∀ ls : Array Slot, lv_has ls 7 [(0, .ref (eA E 0)), (1, .int x1), (2, .int x2), (3, .int x3), (4, .int x4)] → Wq (wM E) E p l e rm_X10_makeDistinct s m args below meth c A 0 0 Q q (F0 m 17 ls [])) (q : QS) (x1 : Int32) (x2 : Int32) (x3 : Int32) (x4 : Int32) (h : f_X10_makeDistinct_17_b K104 B17 q x1 x2 x3 x4 = some o) (ls : Array Slot) (hl : lv_has ls 7 [(0, .ref (eA E 0)), (1, .int x1), (2, .int x2), (3, .int x3), (4, .int x4)]) : Wq (wM E) E p l e rm_X10_makeDistinct s m args below meth c A 0 0 Q q (F0 m 17 ls []) := by
  intro H locs hP hD hS
  have hx := F.1
  have hb := F.2.1
  unfold f_X10_makeDistinct_17_b at h
  refine lv_iload hx hb dX10_makeDistinct_17 (lv_at hl 4 rfl) ?_
  refine lv_iload_n hx hb dX10_makeDistinct_19 rfl (lv_at hl 1 rfl) ?_
  refine lv_icmp_ge (tgt := 104) hx hb dX10_makeDistinct_20 (by decide) (fun c2 => ?_) (fun c2 => ?_)
  · rw [if_pos c2] at h
    exact hK104 q x1 x2 x3 h _ (lv_sub hl [0, 1, 2, 3] rfl) _ _ hP hD hS
  · rw [if_neg c2] at h
    refine lv_iload_n hx hb dX10_makeDistinct_23 rfl (lv_at hl 3 rfl) ?_
    refine lv_if_eq (tgt := 104) hx hb dX10_makeDistinct_24 (by decide) (fun c3 => ?_) (fun c3 => ?_)
    · rw [if_pos c3] at h
      exact hK104 q x1 x2 x3 h _ (lv_sub hl [0, 1, 2, 3] rfl) _ _ hP hD hS
    · rw [if_neg c3] at h
      refine lv_iconst (v := 1) hx hb dX10_makeDistinct_27 (by decide) ?_
      refine lv_istore (lv' := [(5, .int (1 : Int32)), (0, .ref (eA E 0)), (1, .int x1), (2, .int x2), (3, .int x3), (4, .int x4)]) hx hb dX10_makeDistinct_28 hl (by decide) rfl (fun ls hl => ?_)
      refine lv_iconst (v := 0) hx hb dX10_makeDistinct_30 (by decide) ?_
      refine lv_istore (lv' := [(6, .int (0 : Int32)), (5, .int (1 : Int32)), (0, .ref (eA E 0)), (1, .int x1), (2, .int x2), (3, .int x3), (4, .int x4)]) hx hb dX10_makeDistinct_31 hl (by decide) rfl (fun ls hl => ?_)
      exact g_X10_makeDistinct_33 F hA hRt (g_X10_makeDistinct_87 F hA hRt hB17) FU q x1 x2 x4 (1 : Int32) (0 : Int32) h _ (lv_sub hl [2, 3, 4, 6, 1, 0] rfl) _ _ hP hD hS
def f_X10_makeDistinct_17 (K104 : QS → Int32 → Int32 → Int32 → Option (QS)) : Nat → QS → Int32 → Int32 → Int32 → Int32 → Option (QS)
  | 0 => fun _ _ _ _ _ => none
  | n + 1 => f_X10_makeDistinct_17_b K104 (f_X10_makeDistinct_17 K104 n)
theorem g_X10_makeDistinct_17 {E : En} {p : Program} {l : Launch} {e : Env} {s : State} {m : MethodId} {args : Array Value} {below : List Frame} {meth : Method} {c : Code} {A : Nat → Prop} {Q : State → Prop} (F : Fx E p s m args meth c (yX10_makeDistinct).cls cX10_makeDistinct 7 none) (hA : ∀ z : Nat, s.heap.size ≤ z → A z) {o : QS} (hRt : RtV (wM E) E p l e rm_X10_makeDistinct s m args below meth c A Q cX10_makeDistinct o) {K104 : QS → Int32 → Int32 → Int32 → Option (QS)} (hK104 : ∀ (q : QS) (x1 : Int32) (x2 : Int32) (x3 : Int32), K104 q x1 x2 x3 = some o → ∀ ls : Array Slot, lv_has ls 7 [(0, .ref (eA E 0)), (1, .int x1), (2, .int x2), (3, .int x3)] → Wq (wM E) E p l e rm_X10_makeDistinct s m args below meth c A 0 0 Q q (F0 m 104 ls [])) (n : Nat) : ∀ (q : QS) (x1 : Int32) (x2 : Int32) (x3 : Int32) (x4 : Int32), f_X10_makeDistinct_17 K104 n q x1 x2 x3 x4 = some o → ∀ ls : Array Slot, lv_has ls 7 [(0, .ref (eA E 0)), (1, .int x1), (2, .int x2), (3, .int x3), (4, .int x4)] → Wq (wM E) E p l e rm_X10_makeDistinct s m args below meth c A 0 0 Q q (F0 m 17 ls []) := by
  induction n with
  | zero => intro q x1 x2 x3 x4 h; cases h
  | succ n ih => intro q x1 x2 x3 x4 h; exact g_X10_makeDistinct_17_b F hA hRt hK104 ih q x1 x2 x3 x4 h
def f_X10_makeDistinct_123 (B4 : QS → Int32 → Int32 → Option (QS)) (q : QS) (x1 : Int32) (x2 : Int32) : Option (QS) :=
  B4 q x1 (x2 + (1 : Int32))
set_option maxHeartbeats 4000000 in
set_option maxRecDepth 100000 in
theorem g_X10_makeDistinct_123 {E : En} {p : Program} {l : Launch} {e : Env} {s : State} {m : MethodId} {args : Array Value} {below : List Frame} {meth : Method} {c : Code} {A : Nat → Prop} {Q : State → Prop} (F : Fx E p s m args meth c (yX10_makeDistinct).cls cX10_makeDistinct 7 none) (hA : ∀ z : Nat, s.heap.size ≤ z → A z) {o : QS} (hRt : RtV (wM E) E p l e rm_X10_makeDistinct s m args below meth c A Q cX10_makeDistinct o) {B4 : QS → Int32 → Int32 → Option (QS)} (hB4 : ∀ (q : QS) (x1 : Int32) (x2 : Int32), B4 q x1 x2 = some o → ∀ ls : Array Slot, lv_has ls 7 [(0, .ref (eA E 0)), (1, .int x1), (2, .int x2)] → Wq (wM E) E p l e rm_X10_makeDistinct s m args below meth c A 0 0 Q q (F0 m 4 ls [])) (q : QS) (x1 : Int32) (x2 : Int32) (h : f_X10_makeDistinct_123 B4 q x1 x2 = some o) (ls : Array Slot) (hl : lv_has ls 7 [(0, .ref (eA E 0)), (1, .int x1), (2, .int x2)]) : Wq (wM E) E p l e rm_X10_makeDistinct s m args below meth c A 0 0 Q q (F0 m 123 ls []) := by
  intro H locs hP hD hS
  have hx := F.1
  have hb := F.2.1
  unfold f_X10_makeDistinct_123 at h
  refine lv_iinc (v := (x2 + (1 : Int32))) (lv' := [(2, .int (x2 + (1 : Int32))), (0, .ref (eA E 0)), (1, .int x1)]) hx hb dX10_makeDistinct_123 hl (k := 2) rfl rfl (by decide) rfl (fun ls hl => ?_)
  refine lv_goto (tgt := 4) hx hb dX10_makeDistinct_126 (by decide) ?_
  exact hB4 q x1 (x2 + (1 : Int32)) h _ (lv_sub hl [1, 2, 0] rfl) _ _ hP hD hS
def f_X10_makeDistinct_104 (B4 : QS → Int32 → Int32 → Option (QS)) (q : QS) (x1 : Int32) (x2 : Int32) (x3 : Int32) : Option (QS) :=
  if x3 = 0 then
    f_X10_makeDistinct_123 B4 q x1 x2
  else
    (rd (qI q 32) 2000 x2).bind fun y17 =>
    (wI q 32 2000 x1 (vp_nar .short y17)).bind fun q19 =>
    f_X10_makeDistinct_123 B4 q19 (x1 + (1 : Int32)) x2
set_option maxHeartbeats 4000000 in
set_option maxRecDepth 100000 in
theorem g_X10_makeDistinct_104 {E : En} {p : Program} {l : Launch} {e : Env} {s : State} {m : MethodId} {args : Array Value} {below : List Frame} {meth : Method} {c : Code} {A : Nat → Prop} {Q : State → Prop} (F : Fx E p s m args meth c (yX10_makeDistinct).cls cX10_makeDistinct 7 none) (hA : ∀ z : Nat, s.heap.size ≤ z → A z) {o : QS} (hRt : RtV (wM E) E p l e rm_X10_makeDistinct s m args below meth c A Q cX10_makeDistinct o) {B4 : QS → Int32 → Int32 → Option (QS)} (hB4 : ∀ (q : QS) (x1 : Int32) (x2 : Int32), B4 q x1 x2 = some o → ∀ ls : Array Slot, lv_has ls 7 [(0, .ref (eA E 0)), (1, .int x1), (2, .int x2)] → Wq (wM E) E p l e rm_X10_makeDistinct s m args below meth c A 0 0 Q q (F0 m 4 ls [])) (q : QS) (x1 : Int32) (x2 : Int32) (x3 : Int32) (h : f_X10_makeDistinct_104 B4 q x1 x2 x3 = some o) (ls : Array Slot) (hl : lv_has ls 7 [(0, .ref (eA E 0)), (1, .int x1), (2, .int x2), (3, .int x3)]) : Wq (wM E) E p l e rm_X10_makeDistinct s m args below meth c A 0 0 Q q (F0 m 104 ls []) := by
  intro H locs hP hD hS
  have hx := F.1
  have hb := F.2.1
  unfold f_X10_makeDistinct_104 at h
  refine lv_iload_n hx hb dX10_makeDistinct_104 rfl (lv_at hl 3 rfl) ?_
  refine lv_if_eq (tgt := 123) hx hb dX10_makeDistinct_105 (by decide) (fun c16 => ?_) (fun c16 => ?_)
  · rw [if_pos c16] at h
    exact g_X10_makeDistinct_123 F hA hRt hB4 q x1 x2 h _ (lv_sub hl [0, 1, 2] rfl) _ _ hP hD hS
  · rw [if_neg c16] at h
    refine lv_aload_n hx hb dX10_makeDistinct_108 rfl (lv_at hl 0 rfl) ?_
    refine r_get F hP i_X10 0 (me_0 E q) rfl 42 (by decide) rfl lf_X10_114 rfl dX10_makeDistinct_109 ?_
    refine lv_iload_n hx hb dX10_makeDistinct_112 rfl (lv_at hl 1 rfl) ?_
    refine lv_aload_n hx hb dX10_makeDistinct_113 rfl (lv_at hl 0 rfl) ?_
    refine r_get F hP i_X10 0 (me_0 E q) rfl 42 (by decide) rfl lf_X10_114 rfl dX10_makeDistinct_114 ?_
    refine lv_iload_n hx hb dX10_makeDistinct_117 rfl (lv_at hl 2 rfl) ?_
    obtain ⟨y17, e18, h⟩ := Option.bind_eq_some_iff.mp h
    refine r_sald F hP 32 (me_32 E q) e18 dX10_makeDistinct_118 ?_
    obtain ⟨q19, e20, h⟩ := Option.bind_eq_some_iff.mp h
    refine r_sast F hP hD hS 32 (me_32 E q) (ms_32 E q) e20 dX10_makeDistinct_119 ?_
    intro H locs hP hD hS
    refine lv_iinc (v := (x1 + (1 : Int32))) (lv' := [(1, .int (x1 + (1 : Int32))), (0, .ref (eA E 0)), (2, .int x2), (3, .int x3)]) hx hb dX10_makeDistinct_120 hl (k := 1) rfl rfl (by decide) rfl (fun ls hl => ?_)
    exact g_X10_makeDistinct_123 F hA hRt hB4 q19 (x1 + (1 : Int32)) x2 h _ (lv_sub hl [1, 0, 2] rfl) _ _ hP hD hS
def f_X10_makeDistinct_4_b (B4 : QS → Int32 → Int32 → Option (QS)) (q : QS) (x1 : Int32) (x2 : Int32) : Option (QS) :=
  if (qF q 10) ≤ x2 then
    some (uF q 10 x1)
  else
    f_X10_makeDistinct_17 (f_X10_makeDistinct_104 B4) FU q x1 x2 (1 : Int32) (0 : Int32)
set_option maxHeartbeats 4000000 in
set_option maxRecDepth 100000 in
theorem g_X10_makeDistinct_4_b {E : En} {p : Program} {l : Launch} {e : Env} {s : State} {m : MethodId} {args : Array Value} {below : List Frame} {meth : Method} {c : Code} {A : Nat → Prop} {Q : State → Prop} (F : Fx E p s m args meth c (yX10_makeDistinct).cls cX10_makeDistinct 7 none) (hA : ∀ z : Nat, s.heap.size ≤ z → A z) {o : QS} (hRt : RtV (wM E) E p l e rm_X10_makeDistinct s m args below meth c A Q cX10_makeDistinct o) {B4 : QS → Int32 → Int32 → Option (QS)} (hB4 : ∀ (q : QS) (x1 : Int32) (x2 : Int32), B4 q x1 x2 = some o → ∀ ls : Array Slot, lv_has ls 7 [(0, .ref (eA E 0)), (1, .int x1), (2, .int x2)] → Wq (wM E) E p l e rm_X10_makeDistinct s m args below meth c A 0 0 Q q (F0 m 4 ls [])) (q : QS) (x1 : Int32) (x2 : Int32) (h : f_X10_makeDistinct_4_b B4 q x1 x2 = some o) (ls : Array Slot) (hl : lv_has ls 7 [(0, .ref (eA E 0)), (1, .int x1), (2, .int x2)]) : Wq (wM E) E p l e rm_X10_makeDistinct s m args below meth c A 0 0 Q q (F0 m 4 ls []) := by
  intro H locs hP hD hS
  have hx := F.1
  have hb := F.2.1
  unfold f_X10_makeDistinct_4_b at h
  refine lv_iload_n hx hb dX10_makeDistinct_4 rfl (lv_at hl 2 rfl) ?_
  refine lv_aload_n hx hb dX10_makeDistinct_5 rfl (lv_at hl 0 rfl) ?_
  refine r_get F hP i_X10 0 (me_0 E q) rfl 41 (by decide) rfl lf_X10_280 rfl dX10_makeDistinct_6 ?_
  refine lv_icmp_ge (tgt := 129) hx hb dX10_makeDistinct_9 (by decide) (fun c1 => ?_) (fun c1 => ?_)
  · rw [if_pos c1] at h
    refine lv_aload_n hx hb dX10_makeDistinct_129 rfl (lv_at hl 0 rfl) ?_
    refine lv_iload_n hx hb dX10_makeDistinct_130 rfl (lv_at hl 1 rfl) ?_
    refine r_put (ty := .int) (q1 := (uF q 10 x1)) F hP hD hS i_X10 tyX10_ok nmX10 0 (me_0 E q) rfl 41 (by decide) rfl lf_X10_280 rfl (by decide +kernel) rfl rfl (Nat.le_of_ble_eq_true rfl) (mf_0_10 E q x1) dX10_makeDistinct_131 ?_
    intro H locs hP hD hS
    cases h
    exact hRt _ _ dX10_makeDistinct_134 _ _ hP hD hS
  · rw [if_neg c1] at h
    refine lv_iconst (v := 1) hx hb dX10_makeDistinct_12 (by decide) ?_
    refine lv_istore_n (lv' := [(3, .int (1 : Int32)), (0, .ref (eA E 0)), (1, .int x1), (2, .int x2)]) hx hb dX10_makeDistinct_13 rfl hl (by decide) rfl (fun ls hl => ?_)
    refine lv_iconst (v := 0) hx hb dX10_makeDistinct_14 (by decide) ?_
    refine lv_istore (lv' := [(4, .int (0 : Int32)), (3, .int (1 : Int32)), (0, .ref (eA E 0)), (1, .int x1), (2, .int x2)]) hx hb dX10_makeDistinct_15 hl (by decide) rfl (fun ls hl => ?_)
    exact g_X10_makeDistinct_17 F hA hRt (g_X10_makeDistinct_104 F hA hRt hB4) FU q x1 x2 (1 : Int32) (0 : Int32) h _ (lv_sub hl [2, 3, 4, 1, 0] rfl) _ _ hP hD hS
def f_X10_makeDistinct_4 : Nat → QS → Int32 → Int32 → Option (QS)
  | 0 => fun _ _ _ => none
  | n + 1 => f_X10_makeDistinct_4_b (f_X10_makeDistinct_4 n)
theorem g_X10_makeDistinct_4 {E : En} {p : Program} {l : Launch} {e : Env} {s : State} {m : MethodId} {args : Array Value} {below : List Frame} {meth : Method} {c : Code} {A : Nat → Prop} {Q : State → Prop} (F : Fx E p s m args meth c (yX10_makeDistinct).cls cX10_makeDistinct 7 none) (hA : ∀ z : Nat, s.heap.size ≤ z → A z) {o : QS} (hRt : RtV (wM E) E p l e rm_X10_makeDistinct s m args below meth c A Q cX10_makeDistinct o) (n : Nat) : ∀ (q : QS) (x1 : Int32) (x2 : Int32), f_X10_makeDistinct_4 n q x1 x2 = some o → ∀ ls : Array Slot, lv_has ls 7 [(0, .ref (eA E 0)), (1, .int x1), (2, .int x2)] → Wq (wM E) E p l e rm_X10_makeDistinct s m args below meth c A 0 0 Q q (F0 m 4 ls []) := by
  induction n with
  | zero => intro q x1 x2 h; cases h
  | succ n ih => intro q x1 x2 h; exact g_X10_makeDistinct_4_b F hA hRt ih q x1 x2 h
def f_X10_makeDistinct_0 (q : QS) : Option (QS) :=
  f_X10_makeDistinct_4 FU q (0 : Int32) (0 : Int32)
set_option maxHeartbeats 4000000 in
set_option maxRecDepth 100000 in
theorem g_X10_makeDistinct_0 {E : En} {p : Program} {l : Launch} {e : Env} {s : State} {m : MethodId} {args : Array Value} {below : List Frame} {meth : Method} {c : Code} {A : Nat → Prop} {Q : State → Prop} (F : Fx E p s m args meth c (yX10_makeDistinct).cls cX10_makeDistinct 7 none) (hA : ∀ z : Nat, s.heap.size ≤ z → A z) {o : QS} (hRt : RtV (wM E) E p l e rm_X10_makeDistinct s m args below meth c A Q cX10_makeDistinct o) (q : QS) (h : f_X10_makeDistinct_0 q = some o) (ls : Array Slot) (hl : lv_has ls 7 [(0, .ref (eA E 0))]) : Wq (wM E) E p l e rm_X10_makeDistinct s m args below meth c A 0 0 Q q (F0 m 0 ls []) := by
  intro H locs hP hD hS
  have hx := F.1
  have hb := F.2.1
  unfold f_X10_makeDistinct_0 at h
  refine lv_iconst (v := 0) hx hb dX10_makeDistinct_0 (by decide) ?_
  refine lv_istore_n (lv' := [(1, .int (0 : Int32)), (0, .ref (eA E 0))]) hx hb dX10_makeDistinct_1 rfl hl (by decide) rfl (fun ls hl => ?_)
  refine lv_iconst (v := 0) hx hb dX10_makeDistinct_2 (by decide) ?_
  refine lv_istore_n (lv' := [(2, .int (0 : Int32)), (1, .int (0 : Int32)), (0, .ref (eA E 0))]) hx hb dX10_makeDistinct_3 rfl hl (by decide) rfl (fun ls hl => ?_)
  exact g_X10_makeDistinct_4 F hA hRt FU q (0 : Int32) (0 : Int32) h _ (lv_sub hl [2, 1, 0] rfl) _ _ hP hD hS
def f_X10_makeDistinct (q : QS) : Option (QS) := f_X10_makeDistinct_0 q
set_option maxRecDepth 100000 in
theorem c_X10_makeDistinct {E : En} {l : Launch} (q : QS) {o : QS} (h : f_X10_makeDistinct q = some o) : Ct (wM E) E l yX10_makeDistinct (wy yX10_makeDistinct cX10_makeDistinct 7 none) rm_X10_makeDistinct q o [.ref (eA E 0)] none :=
  ct_V (o := o) (by decide +kernel) (fun p e s m below meth c A Q F hA hRt H locs hP hD hS => en_W [.ref (eA E 0)] (Nat.le_of_ble_eq_true rfl) (fun ls hl => g_X10_makeDistinct_0 F hA hRt q h ls (lv_sub hl [0] rfl) H locs hP hD hS))
def rm_X10_isBehind : Room := { frames := 5, cells := 0, slots := 0, locals := 127 }
def f_X10_isBehind_56 (B5 : QS → Int32 → Int32 → Int32 → Int32 → Option (Int32 × QS)) (q : QS) (x1 : Int32) (x2 : Int32) (x4 : Int32) (t0 : Int32) : Option (Int32 × QS) :=
  B5 q x1 x2 t0 (x4 + (1 : Int32))
set_option maxHeartbeats 4000000 in
set_option maxRecDepth 100000 in
theorem g_X10_isBehind_56 {E : En} {p : Program} {l : Launch} {e : Env} {s : State} {m : MethodId} {args : Array Value} {below : List Frame} {meth : Method} {c : Code} {A : Nat → Prop} {Q : State → Prop} (F : Fx E p s m args meth c (yX10_isBehind).cls cX10_isBehind 6 (some .boolean)) (hA : ∀ z : Nat, s.heap.size ≤ z → A z) {o : Int32 × QS} (hRt : RtZ (wM E) E p l e rm_X10_isBehind s m args below meth c A Q cX10_isBehind o) {B5 : QS → Int32 → Int32 → Int32 → Int32 → Option (Int32 × QS)} (hB5 : ∀ (q : QS) (x1 : Int32) (x2 : Int32) (x3 : Int32) (x4 : Int32), B5 q x1 x2 x3 x4 = some o → ∀ ls : Array Slot, lv_has ls 6 [(0, .ref (eA E 0)), (1, .int x1), (2, .int x2), (3, .int x3), (4, .int x4)] → Wq (wM E) E p l e rm_X10_isBehind s m args below meth c A 0 0 Q q (F0 m 5 ls [])) (q : QS) (x1 : Int32) (x2 : Int32) (x4 : Int32) (t0 : Int32) (h : f_X10_isBehind_56 B5 q x1 x2 x4 t0 = some o) (ls : Array Slot) (hl : lv_has ls 6 [(0, .ref (eA E 0)), (1, .int x1), (2, .int x2), (4, .int x4)]) : Wq (wM E) E p l e rm_X10_isBehind s m args below meth c A 0 0 Q q (F0 m 56 ls [.int t0]) := by
  intro H locs hP hD hS
  have hx := F.1
  have hb := F.2.1
  unfold f_X10_isBehind_56 at h
  refine lv_istore_n (lv' := [(3, .int t0), (0, .ref (eA E 0)), (1, .int x1), (2, .int x2), (4, .int x4)]) hx hb dX10_isBehind_56 rfl hl (by decide) rfl (fun ls hl => ?_)
  refine lv_iinc (v := (x4 + (1 : Int32))) (lv' := [(4, .int (x4 + (1 : Int32))), (3, .int t0), (0, .ref (eA E 0)), (1, .int x1), (2, .int x2)]) hx hb dX10_isBehind_57 hl (k := 4) rfl rfl (by decide) rfl (fun ls hl => ?_)
  refine lv_goto (tgt := 5) hx hb dX10_isBehind_60 (by decide) ?_
  exact hB5 q x1 x2 t0 (x4 + (1 : Int32)) h _ (lv_sub hl [2, 3, 4, 1, 0] rfl) _ _ hP hD hS
def f_X10_isBehind_5_b (B5 : QS → Int32 → Int32 → Int32 → Int32 → Option (Int32 × QS)) (q : QS) (x1 : Int32) (x2 : Int32) (x3 : Int32) (x4 : Int32) : Option (Int32 × QS) :=
  if (qF q 6) ≤ x4 then
    if x3 ≤ 0 then
      some ((0 : Int32), q)
    else
      some ((1 : Int32), q)
  else
    if x3 = 0 then
      (rd (qI q 28) 4 x4).bind fun y5 =>
      (rd (qI q 26) 8 y5).bind fun y7 =>
      (f_X10_compare q y7 x1 x2).bind fun r9 =>
      (rd (qI r9.2 29) 4 x4).bind fun y11 =>
      if y11 = 0 then
        f_X10_isBehind_56 B5 r9.2 x1 x2 x4 r9.1
      else
        f_X10_isBehind_56 B5 r9.2 x1 x2 x4 (-r9.1)
    else
      if x3 ≤ 0 then
        some ((0 : Int32), q)
      else
        some ((1 : Int32), q)
set_option maxHeartbeats 4000000 in
set_option maxRecDepth 100000 in
theorem g_X10_isBehind_5_b {E : En} {p : Program} {l : Launch} {e : Env} {s : State} {m : MethodId} {args : Array Value} {below : List Frame} {meth : Method} {c : Code} {A : Nat → Prop} {Q : State → Prop} (F : Fx E p s m args meth c (yX10_isBehind).cls cX10_isBehind 6 (some .boolean)) (hA : ∀ z : Nat, s.heap.size ≤ z → A z) {o : Int32 × QS} (hRt : RtZ (wM E) E p l e rm_X10_isBehind s m args below meth c A Q cX10_isBehind o) {B5 : QS → Int32 → Int32 → Int32 → Int32 → Option (Int32 × QS)} (hB5 : ∀ (q : QS) (x1 : Int32) (x2 : Int32) (x3 : Int32) (x4 : Int32), B5 q x1 x2 x3 x4 = some o → ∀ ls : Array Slot, lv_has ls 6 [(0, .ref (eA E 0)), (1, .int x1), (2, .int x2), (3, .int x3), (4, .int x4)] → Wq (wM E) E p l e rm_X10_isBehind s m args below meth c A 0 0 Q q (F0 m 5 ls [])) (q : QS) (x1 : Int32) (x2 : Int32) (x3 : Int32) (x4 : Int32) (h : f_X10_isBehind_5_b B5 q x1 x2 x3 x4 = some o) (ls : Array Slot) (hl : lv_has ls 6 [(0, .ref (eA E 0)), (1, .int x1), (2, .int x2), (3, .int x3), (4, .int x4)]) : Wq (wM E) E p l e rm_X10_isBehind s m args below meth c A 0 0 Q q (F0 m 5 ls []) := by
  intro H locs hP hD hS
  have hx := F.1
  have hb := F.2.1
  unfold f_X10_isBehind_5_b at h
  refine lv_iload hx hb dX10_isBehind_5 (lv_at hl 4 rfl) ?_
  refine lv_aload_n hx hb dX10_isBehind_7 rfl (lv_at hl 0 rfl) ?_
  refine r_get F hP i_X10 0 (me_0 E q) rfl 33 (by decide) rfl lf_X10_156 rfl dX10_isBehind_8 ?_
  refine lv_icmp_ge (tgt := 63) hx hb dX10_isBehind_11 (by decide) (fun c1 => ?_) (fun c1 => ?_)
  · rw [if_pos c1] at h
    refine lv_iload_n hx hb dX10_isBehind_63 rfl (lv_at hl 3 rfl) ?_
    refine lv_if_le (tgt := 71) hx hb dX10_isBehind_64 (by decide) (fun c2 => ?_) (fun c2 => ?_)
    · rw [if_pos c2] at h
      refine lv_iconst (v := 0) hx hb dX10_isBehind_71 (by decide) ?_
      cases h
      exact hRt _ _ zz_0 dX10_isBehind_72 _ _ hP hD hS
    · rw [if_neg c2] at h
      refine lv_iconst (v := 1) hx hb dX10_isBehind_67 (by decide) ?_
      refine lv_goto (tgt := 72) hx hb dX10_isBehind_68 (by decide) ?_
      cases h
      exact hRt _ _ zz_1 dX10_isBehind_72 _ _ hP hD hS
  · rw [if_neg c1] at h
    refine lv_iload_n hx hb dX10_isBehind_14 rfl (lv_at hl 3 rfl) ?_
    refine lv_if_ne (tgt := 63) hx hb dX10_isBehind_15 (by decide) (fun c3 => ?_) (fun c3 => ?_)
    · rw [if_neg c3] at h
      refine lv_iload_n hx hb dX10_isBehind_63 rfl (lv_at hl 3 rfl) ?_
      refine lv_if_le (tgt := 71) hx hb dX10_isBehind_64 (by decide) (fun c4 => ?_) (fun c4 => ?_)
      · rw [if_pos c4] at h
        refine lv_iconst (v := 0) hx hb dX10_isBehind_71 (by decide) ?_
        cases h
        exact hRt _ _ zz_0 dX10_isBehind_72 _ _ hP hD hS
      · rw [if_neg c4] at h
        refine lv_iconst (v := 1) hx hb dX10_isBehind_67 (by decide) ?_
        refine lv_goto (tgt := 72) hx hb dX10_isBehind_68 (by decide) ?_
        cases h
        exact hRt _ _ zz_1 dX10_isBehind_72 _ _ hP hD hS
    · rw [if_pos c3] at h
      refine lv_aload_n hx hb dX10_isBehind_18 rfl (lv_at hl 0 rfl) ?_
      refine lv_aload_n hx hb dX10_isBehind_19 rfl (lv_at hl 0 rfl) ?_
      refine r_get F hP i_X10 0 (me_0 E q) rfl 30 (by decide) rfl lf_X10_93 rfl dX10_isBehind_20 ?_
      refine lv_aload_n hx hb dX10_isBehind_23 rfl (lv_at hl 0 rfl) ?_
      refine r_get F hP i_X10 0 (me_0 E q) rfl 34 (by decide) rfl lf_X10_99 rfl dX10_isBehind_24 ?_
      refine lv_iload hx hb dX10_isBehind_27 (lv_at hl 4 rfl) ?_
      obtain ⟨y5, e6, h⟩ := Option.bind_eq_some_iff.mp h
      refine r_iald F hP 28 (me_28 E q) e6 dX10_isBehind_29 ?_
      obtain ⟨y7, e8, h⟩ := Option.bind_eq_some_iff.mp h
      refine r_iald F hP 26 (me_26 E q) e8 dX10_isBehind_30 ?_
      refine lv_iload_n hx hb dX10_isBehind_31 rfl (lv_at hl 1 rfl) ?_
      refine lv_iload_n hx hb dX10_isBehind_32 rfl (lv_at hl 2 rfl) ?_
      obtain ⟨r9, e10, h⟩ := Option.bind_eq_some_iff.mp h
      refine q_callV (As := [.int y7, .int x1, .int x2]) (rest := []) F hA hP hD hS (c_X10_compare (E := E) (l := l) q y7 x1 x2 e10) k_X10_compare in_X10_compare se_X10_compare lm_X10_276 0 (me_0 E q) rfl ⟨rfl, rfl⟩ ⟨by decide, by decide⟩ rfl hl.1 rfl (Nat.le_of_ble_eq_true rfl) dX10_isBehind_33 ⟨by decide, by decide⟩ ?_
      intro H locs hP hD hS
      refine lv_istore (lv' := [(5, .int r9.1), (0, .ref (eA E 0)), (1, .int x1), (2, .int x2), (3, .int x3), (4, .int x4)]) hx hb dX10_isBehind_36 hl (by decide) rfl (fun ls hl => ?_)
      refine lv_aload_n hx hb dX10_isBehind_38 rfl (lv_at hl 1 rfl) ?_
      refine r_get F hP i_X10 0 (me_0 E r9.2) rfl 35 (by decide) rfl lf_X10_102 rfl dX10_isBehind_39 ?_
      refine lv_iload hx hb dX10_isBehind_42 (lv_at hl 5 rfl) ?_
      obtain ⟨y11, e12, h⟩ := Option.bind_eq_some_iff.mp h
      refine r_zald F hP 29 (me_29 E r9.2) e12 dX10_isBehind_44 ?_
      refine lv_if_eq (tgt := 54) hx hb dX10_isBehind_45 (by decide) (fun c13 => ?_) (fun c13 => ?_)
      · rw [if_pos c13] at h
        refine lv_iload hx hb dX10_isBehind_54 (lv_at hl 0 rfl) ?_
        exact g_X10_isBehind_56 F hA hRt hB5 r9.2 x1 x2 x4 r9.1 h _ (lv_sub hl [1, 2, 3, 5] rfl) _ _ hP hD hS
      · rw [if_neg c13] at h
        refine lv_iload hx hb dX10_isBehind_48 (lv_at hl 0 rfl) ?_
        refine lv_ineg hx hb dX10_isBehind_50 ?_
        refine lv_goto (tgt := 56) hx hb dX10_isBehind_51 (by decide) ?_
        exact g_X10_isBehind_56 F hA hRt hB5 r9.2 x1 x2 x4 (-r9.1) h _ (lv_sub hl [1, 2, 3, 5] rfl) _ _ hP hD hS
def f_X10_isBehind_5 : Nat → QS → Int32 → Int32 → Int32 → Int32 → Option (Int32 × QS)
  | 0 => fun _ _ _ _ _ => none
  | n + 1 => f_X10_isBehind_5_b (f_X10_isBehind_5 n)
theorem g_X10_isBehind_5 {E : En} {p : Program} {l : Launch} {e : Env} {s : State} {m : MethodId} {args : Array Value} {below : List Frame} {meth : Method} {c : Code} {A : Nat → Prop} {Q : State → Prop} (F : Fx E p s m args meth c (yX10_isBehind).cls cX10_isBehind 6 (some .boolean)) (hA : ∀ z : Nat, s.heap.size ≤ z → A z) {o : Int32 × QS} (hRt : RtZ (wM E) E p l e rm_X10_isBehind s m args below meth c A Q cX10_isBehind o) (n : Nat) : ∀ (q : QS) (x1 : Int32) (x2 : Int32) (x3 : Int32) (x4 : Int32), f_X10_isBehind_5 n q x1 x2 x3 x4 = some o → ∀ ls : Array Slot, lv_has ls 6 [(0, .ref (eA E 0)), (1, .int x1), (2, .int x2), (3, .int x3), (4, .int x4)] → Wq (wM E) E p l e rm_X10_isBehind s m args below meth c A 0 0 Q q (F0 m 5 ls []) := by
  induction n with
  | zero => intro q x1 x2 x3 x4 h; cases h
  | succ n ih => intro q x1 x2 x3 x4 h; exact g_X10_isBehind_5_b F hA hRt ih q x1 x2 x3 x4 h
def f_X10_isBehind_0 (q : QS) (x1 : Int32) (x2 : Int32) : Option (Int32 × QS) :=
  f_X10_isBehind_5 FU q x1 x2 (0 : Int32) (0 : Int32)
set_option maxHeartbeats 4000000 in
set_option maxRecDepth 100000 in
theorem g_X10_isBehind_0 {E : En} {p : Program} {l : Launch} {e : Env} {s : State} {m : MethodId} {args : Array Value} {below : List Frame} {meth : Method} {c : Code} {A : Nat → Prop} {Q : State → Prop} (F : Fx E p s m args meth c (yX10_isBehind).cls cX10_isBehind 6 (some .boolean)) (hA : ∀ z : Nat, s.heap.size ≤ z → A z) {o : Int32 × QS} (hRt : RtZ (wM E) E p l e rm_X10_isBehind s m args below meth c A Q cX10_isBehind o) (q : QS) (x1 : Int32) (x2 : Int32) (h : f_X10_isBehind_0 q x1 x2 = some o) (ls : Array Slot) (hl : lv_has ls 6 [(0, .ref (eA E 0)), (1, .int x1), (2, .int x2)]) : Wq (wM E) E p l e rm_X10_isBehind s m args below meth c A 0 0 Q q (F0 m 0 ls []) := by
  intro H locs hP hD hS
  have hx := F.1
  have hb := F.2.1
  unfold f_X10_isBehind_0 at h
  refine lv_iconst (v := 0) hx hb dX10_isBehind_0 (by decide) ?_
  refine lv_istore_n (lv' := [(3, .int (0 : Int32)), (0, .ref (eA E 0)), (1, .int x1), (2, .int x2)]) hx hb dX10_isBehind_1 rfl hl (by decide) rfl (fun ls hl => ?_)
  refine lv_iconst (v := 0) hx hb dX10_isBehind_2 (by decide) ?_
  refine lv_istore (lv' := [(4, .int (0 : Int32)), (3, .int (0 : Int32)), (0, .ref (eA E 0)), (1, .int x1), (2, .int x2)]) hx hb dX10_isBehind_3 hl (by decide) rfl (fun ls hl => ?_)
  exact g_X10_isBehind_5 F hA hRt FU q x1 x2 (0 : Int32) (0 : Int32) h _ (lv_sub hl [2, 3, 4, 1, 0] rfl) _ _ hP hD hS
def f_X10_isBehind (q : QS) (x1 : Int32) (x2 : Int32) : Option (Int32 × QS) := f_X10_isBehind_0 q x1 x2
set_option maxRecDepth 100000 in
theorem c_X10_isBehind {E : En} {l : Launch} (q : QS) (x1 : Int32) (x2 : Int32) {o : Int32 × QS} (h : f_X10_isBehind q x1 x2 = some o) : Ct (wM E) E l yX10_isBehind (wy yX10_isBehind cX10_isBehind 6 (some .boolean)) rm_X10_isBehind q o.2 [.ref (eA E 0), .int x1, .int x2] (some (.int o.1)) :=
  ct_Z (o := o) (by decide +kernel) (fun p e s m below meth c A Q F hA hRt H locs hP hD hS => en_W [.ref (eA E 0), .int x1, .int x2] (Nat.le_of_ble_eq_true rfl) (fun ls hl => g_X10_isBehind_0 F hA hRt q x1 x2 h ls (lv_sub hl [0, 1, 2] rfl) H locs hP hD hS))
def rm_X10_sort : Room := { frames := 6, cells := 0, slots := 0, locals := 152 }
def f_X10_sort_167 (B56 : QS → Int32 → Int32 → Int32 → Int32 → Int32 → Int32 → Option (QS)) (q : QS) (x1 : Int32) (x2 : Int32) (x3 : Int32) (x5 : Int32) (x6 : Int32) (t0 : Int32) : Option (QS) :=
  B56 q x1 x2 x3 t0 x5 (x6 + (1 : Int32))
set_option maxHeartbeats 4000000 in
set_option maxRecDepth 100000 in
theorem g_X10_sort_167 {E : En} {p : Program} {l : Launch} {e : Env} {s : State} {m : MethodId} {args : Array Value} {below : List Frame} {meth : Method} {c : Code} {A : Nat → Prop} {Q : State → Prop} (F : Fx E p s m args meth c (yX10_sort).cls cX10_sort 8 none) (hA : ∀ z : Nat, s.heap.size ≤ z → A z) {o : QS} (hRt : RtV (wM E) E p l e rm_X10_sort s m args below meth c A Q cX10_sort o) {B56 : QS → Int32 → Int32 → Int32 → Int32 → Int32 → Int32 → Option (QS)} (hB56 : ∀ (q : QS) (x1 : Int32) (x2 : Int32) (x3 : Int32) (x4 : Int32) (x5 : Int32) (x6 : Int32), B56 q x1 x2 x3 x4 x5 x6 = some o → ∀ ls : Array Slot, lv_has ls 8 [(0, .ref (eA E 0)), (1, .int x1), (2, .int x2), (3, .int x3), (4, .int x4), (5, .int x5), (6, .int x6)] → Wq (wM E) E p l e rm_X10_sort s m args below meth c A 0 0 Q q (F0 m 56 ls [])) (q : QS) (x1 : Int32) (x2 : Int32) (x3 : Int32) (x5 : Int32) (x6 : Int32) (t0 : Int32) (h : f_X10_sort_167 B56 q x1 x2 x3 x5 x6 t0 = some o) (ls : Array Slot) (hl : lv_has ls 8 [(0, .ref (eA E 0)), (1, .int x1), (2, .int x2), (3, .int x3), (5, .int x5), (6, .int x6)]) : Wq (wM E) E p l e rm_X10_sort s m args below meth c A 0 0 Q q (F0 m 167 ls [.int t0]) := by
  intro H locs hP hD hS
  have hx := F.1
  have hb := F.2.1
  unfold f_X10_sort_167 at h
  refine lv_istore (lv' := [(4, .int t0), (0, .ref (eA E 0)), (1, .int x1), (2, .int x2), (3, .int x3), (5, .int x5), (6, .int x6)]) hx hb dX10_sort_167 hl (by decide) rfl (fun ls hl => ?_)
  refine lv_iinc (v := (x6 + (1 : Int32))) (lv' := [(6, .int (x6 + (1 : Int32))), (4, .int t0), (0, .ref (eA E 0)), (1, .int x1), (2, .int x2), (3, .int x3), (5, .int x5)]) hx hb dX10_sort_169 hl (k := 6) rfl rfl (by decide) rfl (fun ls hl => ?_)
  refine lv_goto (tgt := 56) hx hb dX10_sort_172 (by decide) ?_
  exact hB56 q x1 x2 x3 t0 x5 (x6 + (1 : Int32)) h _ (lv_sub hl [2, 3, 4, 5, 1, 6, 0] rfl) _ _ hP hD hS
def f_X10_sort_152 (B56 : QS → Int32 → Int32 → Int32 → Int32 → Int32 → Int32 → Option (QS)) (q : QS) (x1 : Int32) (x2 : Int32) (x4 : Int32) (x5 : Int32) (x6 : Int32) (x7 : Int32) (t0 : Int32) : Option (QS) :=
  if x7 = 0 then
    f_X10_sort_167 B56 q x1 x2 t0 x5 x6 x4
  else
    f_X10_sort_167 B56 q x1 x2 t0 x5 x6 (x4 + (1 : Int32))
set_option maxHeartbeats 4000000 in
set_option maxRecDepth 100000 in
theorem g_X10_sort_152 {E : En} {p : Program} {l : Launch} {e : Env} {s : State} {m : MethodId} {args : Array Value} {below : List Frame} {meth : Method} {c : Code} {A : Nat → Prop} {Q : State → Prop} (F : Fx E p s m args meth c (yX10_sort).cls cX10_sort 8 none) (hA : ∀ z : Nat, s.heap.size ≤ z → A z) {o : QS} (hRt : RtV (wM E) E p l e rm_X10_sort s m args below meth c A Q cX10_sort o) {B56 : QS → Int32 → Int32 → Int32 → Int32 → Int32 → Int32 → Option (QS)} (hB56 : ∀ (q : QS) (x1 : Int32) (x2 : Int32) (x3 : Int32) (x4 : Int32) (x5 : Int32) (x6 : Int32), B56 q x1 x2 x3 x4 x5 x6 = some o → ∀ ls : Array Slot, lv_has ls 8 [(0, .ref (eA E 0)), (1, .int x1), (2, .int x2), (3, .int x3), (4, .int x4), (5, .int x5), (6, .int x6)] → Wq (wM E) E p l e rm_X10_sort s m args below meth c A 0 0 Q q (F0 m 56 ls [])) (q : QS) (x1 : Int32) (x2 : Int32) (x4 : Int32) (x5 : Int32) (x6 : Int32) (x7 : Int32) (t0 : Int32) (h : f_X10_sort_152 B56 q x1 x2 x4 x5 x6 x7 t0 = some o) (ls : Array Slot) (hl : lv_has ls 8 [(0, .ref (eA E 0)), (1, .int x1), (2, .int x2), (4, .int x4), (5, .int x5), (6, .int x6), (7, .int x7)]) : Wq (wM E) E p l e rm_X10_sort s m args below meth c A 0 0 Q q (F0 m 152 ls [.int t0]) := by
  intro H locs hP hD hS
  have hx := F.1
  have hb := F.2.1
  unfold f_X10_sort_152 at h
  refine lv_istore_n (lv' := [(3, .int t0), (0, .ref (eA E 0)), (1, .int x1), (2, .int x2), (4, .int x4), (5, .int x5), (6, .int x6), (7, .int x7)]) hx hb dX10_sort_152 rfl hl (by decide) rfl (fun ls hl => ?_)
  refine lv_iload hx hb dX10_sort_153 (lv_at hl 7 rfl) ?_
  refine lv_if_eq (tgt := 165) hx hb dX10_sort_155 (by decide) (fun c12 => ?_) (fun c12 => ?_)
  · rw [if_pos c12] at h
    refine lv_iload hx hb dX10_sort_165 (lv_at hl 4 rfl) ?_
    exact g_X10_sort_167 F hA hRt hB56 q x1 x2 t0 x5 x6 x4 h _ (lv_sub hl [1, 2, 3, 0, 5, 6] rfl) _ _ hP hD hS
  · rw [if_neg c12] at h
    refine lv_iload hx hb dX10_sort_158 (lv_at hl 4 rfl) ?_
    refine lv_iconst (v := 1) hx hb dX10_sort_160 (by decide) ?_
    refine lv_iadd hx hb dX10_sort_161 ?_
    refine lv_goto (tgt := 167) hx hb dX10_sort_162 (by decide) ?_
    exact g_X10_sort_167 F hA hRt hB56 q x1 x2 t0 x5 x6 (x4 + (1 : Int32)) h _ (lv_sub hl [1, 2, 3, 0, 5, 6] rfl) _ _ hP hD hS
def f_X10_sort_139 (B56 : QS → Int32 → Int32 → Int32 → Int32 → Int32 → Int32 → Option (QS)) (q : QS) (x1 : Int32) (x2 : Int32) (x3 : Int32) (x4 : Int32) (x5 : Int32) (x6 : Int32) (x7 : Int32) (t1 : Int32) (t2 : Int32) : Option (QS) :=
  (wI q 33 2000 t1 (vp_nar .short t2)).bind fun q9 =>
  if x7 = 0 then
    f_X10_sort_152 B56 q9 x1 x2 x4 x5 x6 x7 (x3 + (1 : Int32))
  else
    f_X10_sort_152 B56 q9 x1 x2 x4 x5 x6 x7 x3
set_option maxHeartbeats 4000000 in
set_option maxRecDepth 100000 in
theorem g_X10_sort_139 {E : En} {p : Program} {l : Launch} {e : Env} {s : State} {m : MethodId} {args : Array Value} {below : List Frame} {meth : Method} {c : Code} {A : Nat → Prop} {Q : State → Prop} (F : Fx E p s m args meth c (yX10_sort).cls cX10_sort 8 none) (hA : ∀ z : Nat, s.heap.size ≤ z → A z) {o : QS} (hRt : RtV (wM E) E p l e rm_X10_sort s m args below meth c A Q cX10_sort o) {B56 : QS → Int32 → Int32 → Int32 → Int32 → Int32 → Int32 → Option (QS)} (hB56 : ∀ (q : QS) (x1 : Int32) (x2 : Int32) (x3 : Int32) (x4 : Int32) (x5 : Int32) (x6 : Int32), B56 q x1 x2 x3 x4 x5 x6 = some o → ∀ ls : Array Slot, lv_has ls 8 [(0, .ref (eA E 0)), (1, .int x1), (2, .int x2), (3, .int x3), (4, .int x4), (5, .int x5), (6, .int x6)] → Wq (wM E) E p l e rm_X10_sort s m args below meth c A 0 0 Q q (F0 m 56 ls [])) (q : QS) (x1 : Int32) (x2 : Int32) (x3 : Int32) (x4 : Int32) (x5 : Int32) (x6 : Int32) (x7 : Int32) (t1 : Int32) (t2 : Int32) (h : f_X10_sort_139 B56 q x1 x2 x3 x4 x5 x6 x7 t1 t2 = some o) (ls : Array Slot) (hl : lv_has ls 8 [(0, .ref (eA E 0)), (1, .int x1), (2, .int x2), (3, .int x3), (4, .int x4), (5, .int x5), (6, .int x6), (7, .int x7)]) : Wq (wM E) E p l e rm_X10_sort s m args below meth c A 0 0 Q q (F0 m 139 ls [.int t2, .int t1, .ref (eA E 33)]) := by
  intro H locs hP hD hS
  have hx := F.1
  have hb := F.2.1
  unfold f_X10_sort_139 at h
  obtain ⟨q9, e10, h⟩ := Option.bind_eq_some_iff.mp h
  refine r_sast F hP hD hS 33 (me_33 E q) (ms_33 E q) e10 dX10_sort_139 ?_
  intro H locs hP hD hS
  refine lv_iload hx hb dX10_sort_140 (lv_at hl 7 rfl) ?_
  refine lv_if_eq (tgt := 149) hx hb dX10_sort_142 (by decide) (fun c11 => ?_) (fun c11 => ?_)
  · rw [if_pos c11] at h
    refine lv_iload_n hx hb dX10_sort_149 rfl (lv_at hl 3 rfl) ?_
    refine lv_iconst (v := 1) hx hb dX10_sort_150 (by decide) ?_
    refine lv_iadd hx hb dX10_sort_151 ?_
    exact g_X10_sort_152 F hA hRt hB56 q9 x1 x2 x4 x5 x6 x7 (x3 + (1 : Int32)) h _ (lv_sub hl [0, 1, 2, 4, 5, 6, 7] rfl) _ _ hP hD hS
  · rw [if_neg c11] at h
    refine lv_iload_n hx hb dX10_sort_145 rfl (lv_at hl 3 rfl) ?_
    refine lv_goto (tgt := 152) hx hb dX10_sort_146 (by decide) ?_
    exact g_X10_sort_152 F hA hRt hB56 q9 x1 x2 x4 x5 x6 x7 x3 h _ (lv_sub hl [0, 1, 2, 4, 5, 6, 7] rfl) _ _ hP hD hS
def f_X10_sort_110 (B56 : QS → Int32 → Int32 → Int32 → Int32 → Int32 → Int32 → Option (QS)) (q : QS) (x1 : Int32) (x2 : Int32) (x3 : Int32) (x4 : Int32) (x5 : Int32) (x6 : Int32) (t0 : Int32) : Option (QS) :=
  if t0 = 0 then
    (rd (qI q 32) 2000 x3).bind fun y7 =>
    f_X10_sort_139 B56 q x1 x2 x3 x4 x5 x6 t0 x6 y7
  else
    (rd (qI q 32) 2000 x4).bind fun y13 =>
    f_X10_sort_139 B56 q x1 x2 x3 x4 x5 x6 t0 x6 y13
set_option maxHeartbeats 4000000 in
set_option maxRecDepth 100000 in
theorem g_X10_sort_110 {E : En} {p : Program} {l : Launch} {e : Env} {s : State} {m : MethodId} {args : Array Value} {below : List Frame} {meth : Method} {c : Code} {A : Nat → Prop} {Q : State → Prop} (F : Fx E p s m args meth c (yX10_sort).cls cX10_sort 8 none) (hA : ∀ z : Nat, s.heap.size ≤ z → A z) {o : QS} (hRt : RtV (wM E) E p l e rm_X10_sort s m args below meth c A Q cX10_sort o) {B56 : QS → Int32 → Int32 → Int32 → Int32 → Int32 → Int32 → Option (QS)} (hB56 : ∀ (q : QS) (x1 : Int32) (x2 : Int32) (x3 : Int32) (x4 : Int32) (x5 : Int32) (x6 : Int32), B56 q x1 x2 x3 x4 x5 x6 = some o → ∀ ls : Array Slot, lv_has ls 8 [(0, .ref (eA E 0)), (1, .int x1), (2, .int x2), (3, .int x3), (4, .int x4), (5, .int x5), (6, .int x6)] → Wq (wM E) E p l e rm_X10_sort s m args below meth c A 0 0 Q q (F0 m 56 ls [])) (q : QS) (x1 : Int32) (x2 : Int32) (x3 : Int32) (x4 : Int32) (x5 : Int32) (x6 : Int32) (t0 : Int32) (h : f_X10_sort_110 B56 q x1 x2 x3 x4 x5 x6 t0 = some o) (ls : Array Slot) (hl : lv_has ls 8 [(0, .ref (eA E 0)), (1, .int x1), (2, .int x2), (3, .int x3), (4, .int x4), (5, .int x5), (6, .int x6)]) : Wq (wM E) E p l e rm_X10_sort s m args below meth c A 0 0 Q q (F0 m 110 ls [.int t0]) := by
  intro H locs hP hD hS
  have hx := F.1
  have hb := F.2.1
  unfold f_X10_sort_110 at h
  refine lv_istore (lv' := [(7, .int t0), (0, .ref (eA E 0)), (1, .int x1), (2, .int x2), (3, .int x3), (4, .int x4), (5, .int x5), (6, .int x6)]) hx hb dX10_sort_110 hl (by decide) rfl (fun ls hl => ?_)
  refine lv_aload_n hx hb dX10_sort_112 rfl (lv_at hl 1 rfl) ?_
  refine r_get F hP i_X10 0 (me_0 E q) rfl 43 (by decide) rfl lf_X10_117 rfl dX10_sort_113 ?_
  refine lv_iload hx hb dX10_sort_116 (lv_at hl 7 rfl) ?_
  refine lv_iload hx hb dX10_sort_118 (lv_at hl 0 rfl) ?_
  refine lv_if_eq (tgt := 133) hx hb dX10_sort_120 (by decide) (fun c6 => ?_) (fun c6 => ?_)
  · rw [if_pos c6] at h
    refine lv_aload_n hx hb dX10_sort_133 rfl (lv_at hl 1 rfl) ?_
    refine r_get F hP i_X10 0 (me_0 E q) rfl 42 (by decide) rfl lf_X10_114 rfl dX10_sort_134 ?_
    refine lv_iload_n hx hb dX10_sort_137 rfl (lv_at hl 4 rfl) ?_
    obtain ⟨y7, e8, h⟩ := Option.bind_eq_some_iff.mp h
    refine r_sald F hP 32 (me_32 E q) e8 dX10_sort_138 ?_
    exact g_X10_sort_139 F hA hRt hB56 q x1 x2 x3 x4 x5 x6 t0 x6 y7 h _ (lv_sub hl [1, 2, 3, 4, 5, 6, 7, 0] rfl) _ _ hP hD hS
  · rw [if_neg c6] at h
    refine lv_aload_n hx hb dX10_sort_123 rfl (lv_at hl 1 rfl) ?_
    refine r_get F hP i_X10 0 (me_0 E q) rfl 42 (by decide) rfl lf_X10_114 rfl dX10_sort_124 ?_
    refine lv_iload hx hb dX10_sort_127 (lv_at hl 5 rfl) ?_
    obtain ⟨y13, e14, h⟩ := Option.bind_eq_some_iff.mp h
    refine r_sald F hP 32 (me_32 E q) e14 dX10_sort_129 ?_
    refine lv_goto (tgt := 139) hx hb dX10_sort_130 (by decide) ?_
    exact g_X10_sort_139 F hA hRt hB56 q x1 x2 x3 x4 x5 x6 t0 x6 y13 h _ (lv_sub hl [1, 2, 3, 4, 5, 6, 7, 0] rfl) _ _ hP hD hS
def f_X10_sort_105 (B56 : QS → Int32 → Int32 → Int32 → Int32 → Int32 → Int32 → Option (QS)) (q : QS) (x1 : Int32) (x2 : Int32) (x3 : Int32) (x4 : Int32) (x5 : Int32) (x6 : Int32) : Option (QS) :=
  f_X10_sort_110 B56 q x1 x2 x3 x4 x5 x6 (1 : Int32)
set_option maxHeartbeats 4000000 in
set_option maxRecDepth 100000 in
theorem g_X10_sort_105 {E : En} {p : Program} {l : Launch} {e : Env} {s : State} {m : MethodId} {args : Array Value} {below : List Frame} {meth : Method} {c : Code} {A : Nat → Prop} {Q : State → Prop} (F : Fx E p s m args meth c (yX10_sort).cls cX10_sort 8 none) (hA : ∀ z : Nat, s.heap.size ≤ z → A z) {o : QS} (hRt : RtV (wM E) E p l e rm_X10_sort s m args below meth c A Q cX10_sort o) {B56 : QS → Int32 → Int32 → Int32 → Int32 → Int32 → Int32 → Option (QS)} (hB56 : ∀ (q : QS) (x1 : Int32) (x2 : Int32) (x3 : Int32) (x4 : Int32) (x5 : Int32) (x6 : Int32), B56 q x1 x2 x3 x4 x5 x6 = some o → ∀ ls : Array Slot, lv_has ls 8 [(0, .ref (eA E 0)), (1, .int x1), (2, .int x2), (3, .int x3), (4, .int x4), (5, .int x5), (6, .int x6)] → Wq (wM E) E p l e rm_X10_sort s m args below meth c A 0 0 Q q (F0 m 56 ls [])) (q : QS) (x1 : Int32) (x2 : Int32) (x3 : Int32) (x4 : Int32) (x5 : Int32) (x6 : Int32) (h : f_X10_sort_105 B56 q x1 x2 x3 x4 x5 x6 = some o) (ls : Array Slot) (hl : lv_has ls 8 [(0, .ref (eA E 0)), (1, .int x1), (2, .int x2), (3, .int x3), (4, .int x4), (5, .int x5), (6, .int x6)]) : Wq (wM E) E p l e rm_X10_sort s m args below meth c A 0 0 Q q (F0 m 105 ls []) := by
  intro H locs hP hD hS
  have hx := F.1
  have hb := F.2.1
  unfold f_X10_sort_105 at h
  refine lv_iconst (v := 1) hx hb dX10_sort_105 (by decide) ?_
  refine lv_goto (tgt := 110) hx hb dX10_sort_106 (by decide) ?_
  exact g_X10_sort_110 F hA hRt hB56 q x1 x2 x3 x4 x5 x6 (1 : Int32) h _ (lv_sub hl [0, 1, 2, 3, 4, 5, 6] rfl) _ _ hP hD hS
def f_X10_sort_109 (B56 : QS → Int32 → Int32 → Int32 → Int32 → Int32 → Int32 → Option (QS)) (q : QS) (x1 : Int32) (x2 : Int32) (x3 : Int32) (x4 : Int32) (x5 : Int32) (x6 : Int32) : Option (QS) :=
  f_X10_sort_110 B56 q x1 x2 x3 x4 x5 x6 (0 : Int32)
set_option maxHeartbeats 4000000 in
set_option maxRecDepth 100000 in
theorem g_X10_sort_109 {E : En} {p : Program} {l : Launch} {e : Env} {s : State} {m : MethodId} {args : Array Value} {below : List Frame} {meth : Method} {c : Code} {A : Nat → Prop} {Q : State → Prop} (F : Fx E p s m args meth c (yX10_sort).cls cX10_sort 8 none) (hA : ∀ z : Nat, s.heap.size ≤ z → A z) {o : QS} (hRt : RtV (wM E) E p l e rm_X10_sort s m args below meth c A Q cX10_sort o) {B56 : QS → Int32 → Int32 → Int32 → Int32 → Int32 → Int32 → Option (QS)} (hB56 : ∀ (q : QS) (x1 : Int32) (x2 : Int32) (x3 : Int32) (x4 : Int32) (x5 : Int32) (x6 : Int32), B56 q x1 x2 x3 x4 x5 x6 = some o → ∀ ls : Array Slot, lv_has ls 8 [(0, .ref (eA E 0)), (1, .int x1), (2, .int x2), (3, .int x3), (4, .int x4), (5, .int x5), (6, .int x6)] → Wq (wM E) E p l e rm_X10_sort s m args below meth c A 0 0 Q q (F0 m 56 ls [])) (q : QS) (x1 : Int32) (x2 : Int32) (x3 : Int32) (x4 : Int32) (x5 : Int32) (x6 : Int32) (h : f_X10_sort_109 B56 q x1 x2 x3 x4 x5 x6 = some o) (ls : Array Slot) (hl : lv_has ls 8 [(0, .ref (eA E 0)), (1, .int x1), (2, .int x2), (3, .int x3), (4, .int x4), (5, .int x5), (6, .int x6)]) : Wq (wM E) E p l e rm_X10_sort s m args below meth c A 0 0 Q q (F0 m 109 ls []) := by
  intro H locs hP hD hS
  have hx := F.1
  have hb := F.2.1
  unfold f_X10_sort_109 at h
  refine lv_iconst (v := 0) hx hb dX10_sort_109 (by decide) ?_
  exact g_X10_sort_110 F hA hRt hB56 q x1 x2 x3 x4 x5 x6 (0 : Int32) h _ (lv_sub hl [0, 1, 2, 3, 4, 5, 6] rfl) _ _ hP hD hS
def f_X10_sort_56_b (K175 : QS → Int32 → Int32 → Option (QS)) (B56 : QS → Int32 → Int32 → Int32 → Int32 → Int32 → Int32 → Option (QS)) (q : QS) (x1 : Int32) (x2 : Int32) (x3 : Int32) (x4 : Int32) (x5 : Int32) (x6 : Int32) : Option (QS) :=
  if x5 ≤ x6 then
    K175 q x1 x2
  else
    if (x2 + x1) ≤ x3 then
      f_X10_sort_105 B56 q x1 x2 x3 x4 x5 x6
    else
      if (qF q 10) ≤ x3 then
        f_X10_sort_105 B56 q x1 x2 x3 x4 x5 x6
      else
        if x5 ≤ x4 then
          f_X10_sort_109 B56 q x1 x2 x3 x4 x5 x6
        else
          (rd (qI q 32) 2000 x3).bind fun y17 =>
          (rd (qI q 32) 2000 x4).bind fun y19 =>
          (f_X10_isBehind q y17 y19).bind fun r21 =>
          if r21.1 = 0 then
            f_X10_sort_109 B56 r21.2 x1 x2 x3 x4 x5 x6
          else
            f_X10_sort_105 B56 r21.2 x1 x2 x3 x4 x5 x6
set_option maxHeartbeats 4000000 in
set_option maxRecDepth 100000 in
theorem g_X10_sort_56_b {E : En} {p : Program} {l : Launch} {e : Env} {s : State} {m : MethodId} {args : Array Value} {below : List Frame} {meth : Method} {c : Code} {A : Nat → Prop} {Q : State → Prop} (F : Fx E p s m args meth c (yX10_sort).cls cX10_sort 8 none) (hA : ∀ z : Nat, s.heap.size ≤ z → A z) {o : QS} (hRt : RtV (wM E) E p l e rm_X10_sort s m args below meth c A Q cX10_sort o) {K175 : QS → Int32 → Int32 → Option (QS)} {B56 : QS → Int32 → Int32 → Int32 → Int32 → Int32 → Int32 → Option (QS)} (hK175 : ∀ (q : QS) (x1 : Int32) (x2 : Int32), K175 q x1 x2 = some o → ∀ ls : Array Slot, lv_has ls 8 [(0, .ref (eA E 0)), (1, .int x1), (2, .int x2)] → Wq (wM E) E p l e rm_X10_sort s m args below meth c A 0 0 Q q (F0 m 175 ls [])) (hB56 : ∀ (q : QS) (x1 : Int32) (x2 : Int32) (x3 : Int32) (x4 : Int32) (x5 : Int32) (x6 : Int32), B56 q x1 x2 x3 x4 x5 x6 = some o → ∀ ls : Array Slot, lv_has ls 8 [(0, .ref (eA E 0)), (1, .int x1), (2, .int x2), (3, .int x3), (4, .int x4), (5, .int x5), (6, .int x6)] → Wq (wM E) E p l e rm_X10_sort s m args below meth c A 0 0 Q q (F0 m 56 ls [])) (q : QS) (x1 : Int32) (x2 : Int32) (x3 : Int32) (x4 : Int32) (x5 : Int32) (x6 : Int32) (h : f_X10_sort_56_b K175 B56 q x1 x2 x3 x4 x5 x6 = some o) (ls : Array Slot) (hl : lv_has ls 8 [(0, .ref (eA E 0)), (1, .int x1), (2, .int x2), (3, .int x3), (4, .int x4), (5, .int x5), (6, .int x6)]) : Wq (wM E) E p l e rm_X10_sort s m args below meth c A 0 0 Q q (F0 m 56 ls []) := by
  intro H locs hP hD hS
  have hx := F.1
  have hb := F.2.1
  unfold f_X10_sort_56_b at h
  refine lv_iload hx hb dX10_sort_56 (lv_at hl 6 rfl) ?_
  refine lv_iload hx hb dX10_sort_58 (lv_at hl 5 rfl) ?_
  refine lv_icmp_ge (tgt := 175) hx hb dX10_sort_60 (by decide) (fun c4 => ?_) (fun c4 => ?_)
  · rw [if_pos c4] at h
    exact hK175 q x1 x2 h _ (lv_sub hl [0, 1, 2] rfl) _ _ hP hD hS
  · rw [if_neg c4] at h
    refine lv_iload_n hx hb dX10_sort_63 rfl (lv_at hl 3 rfl) ?_
    refine lv_iload_n hx hb dX10_sort_64 rfl (lv_at hl 2 rfl) ?_
    refine lv_iload_n hx hb dX10_sort_65 rfl (lv_at hl 1 rfl) ?_
    refine lv_iadd hx hb dX10_sort_66 ?_
    refine lv_icmp_ge (tgt := 105) hx hb dX10_sort_67 (by decide) (fun c5 => ?_) (fun c5 => ?_)
    · rw [if_pos c5] at h
      exact g_X10_sort_105 F hA hRt hB56 q x1 x2 x3 x4 x5 x6 h _ (lv_sub hl [0, 1, 2, 3, 4, 5, 6] rfl) _ _ hP hD hS
    · rw [if_neg c5] at h
      refine lv_iload_n hx hb dX10_sort_70 rfl (lv_at hl 3 rfl) ?_
      refine lv_aload_n hx hb dX10_sort_71 rfl (lv_at hl 0 rfl) ?_
      refine r_get F hP i_X10 0 (me_0 E q) rfl 41 (by decide) rfl lf_X10_280 rfl dX10_sort_72 ?_
      refine lv_icmp_ge (tgt := 105) hx hb dX10_sort_75 (by decide) (fun c15 => ?_) (fun c15 => ?_)
      · rw [if_pos c15] at h
        exact g_X10_sort_105 F hA hRt hB56 q x1 x2 x3 x4 x5 x6 h _ (lv_sub hl [0, 1, 2, 3, 4, 5, 6] rfl) _ _ hP hD hS
      · rw [if_neg c15] at h
        refine lv_iload hx hb dX10_sort_78 (lv_at hl 4 rfl) ?_
        refine lv_iload hx hb dX10_sort_80 (lv_at hl 5 rfl) ?_
        refine lv_icmp_ge (tgt := 109) hx hb dX10_sort_82 (by decide) (fun c16 => ?_) (fun c16 => ?_)
        · rw [if_pos c16] at h
          exact g_X10_sort_109 F hA hRt hB56 q x1 x2 x3 x4 x5 x6 h _ (lv_sub hl [0, 1, 2, 3, 4, 5, 6] rfl) _ _ hP hD hS
        · rw [if_neg c16] at h
          refine lv_aload_n hx hb dX10_sort_85 rfl (lv_at hl 0 rfl) ?_
          refine lv_aload_n hx hb dX10_sort_86 rfl (lv_at hl 0 rfl) ?_
          refine r_get F hP i_X10 0 (me_0 E q) rfl 42 (by decide) rfl lf_X10_114 rfl dX10_sort_87 ?_
          refine lv_iload_n hx hb dX10_sort_90 rfl (lv_at hl 3 rfl) ?_
          obtain ⟨y17, e18, h⟩ := Option.bind_eq_some_iff.mp h
          refine r_sald F hP 32 (me_32 E q) e18 dX10_sort_91 ?_
          refine lv_aload_n hx hb dX10_sort_92 rfl (lv_at hl 0 rfl) ?_
          refine r_get F hP i_X10 0 (me_0 E q) rfl 42 (by decide) rfl lf_X10_114 rfl dX10_sort_93 ?_
          refine lv_iload hx hb dX10_sort_96 (lv_at hl 4 rfl) ?_
          obtain ⟨y19, e20, h⟩ := Option.bind_eq_some_iff.mp h
          refine r_sald F hP 32 (me_32 E q) e20 dX10_sort_98 ?_
          obtain ⟨r21, e22, h⟩ := Option.bind_eq_some_iff.mp h
          refine q_callV (As := [.int y17, .int y19]) (rest := []) F hA hP hD hS (c_X10_isBehind (E := E) (l := l) q y17 y19 e22) k_X10_isBehind in_X10_isBehind se_X10_isBehind lm_X10_286 0 (me_0 E q) rfl ⟨rfl, rfl⟩ ⟨by decide, by decide⟩ rfl hl.1 rfl (Nat.le_of_ble_eq_true rfl) dX10_sort_99 ⟨by decide, by decide⟩ ?_
          intro H locs hP hD hS
          refine lv_if_eq (tgt := 109) hx hb dX10_sort_102 (by decide) (fun c23 => ?_) (fun c23 => ?_)
          · rw [if_pos c23] at h
            exact g_X10_sort_109 F hA hRt hB56 r21.2 x1 x2 x3 x4 x5 x6 h _ (lv_sub hl [0, 1, 2, 3, 4, 5, 6] rfl) _ _ hP hD hS
          · rw [if_neg c23] at h
            exact g_X10_sort_105 F hA hRt hB56 r21.2 x1 x2 x3 x4 x5 x6 h _ (lv_sub hl [0, 1, 2, 3, 4, 5, 6] rfl) _ _ hP hD hS
def f_X10_sort_56 (K175 : QS → Int32 → Int32 → Option (QS)) : Nat → QS → Int32 → Int32 → Int32 → Int32 → Int32 → Int32 → Option (QS)
  | 0 => fun _ _ _ _ _ _ _ => none
  | n + 1 => f_X10_sort_56_b K175 (f_X10_sort_56 K175 n)
theorem g_X10_sort_56 {E : En} {p : Program} {l : Launch} {e : Env} {s : State} {m : MethodId} {args : Array Value} {below : List Frame} {meth : Method} {c : Code} {A : Nat → Prop} {Q : State → Prop} (F : Fx E p s m args meth c (yX10_sort).cls cX10_sort 8 none) (hA : ∀ z : Nat, s.heap.size ≤ z → A z) {o : QS} (hRt : RtV (wM E) E p l e rm_X10_sort s m args below meth c A Q cX10_sort o) {K175 : QS → Int32 → Int32 → Option (QS)} (hK175 : ∀ (q : QS) (x1 : Int32) (x2 : Int32), K175 q x1 x2 = some o → ∀ ls : Array Slot, lv_has ls 8 [(0, .ref (eA E 0)), (1, .int x1), (2, .int x2)] → Wq (wM E) E p l e rm_X10_sort s m args below meth c A 0 0 Q q (F0 m 175 ls [])) (n : Nat) : ∀ (q : QS) (x1 : Int32) (x2 : Int32) (x3 : Int32) (x4 : Int32) (x5 : Int32) (x6 : Int32), f_X10_sort_56 K175 n q x1 x2 x3 x4 x5 x6 = some o → ∀ ls : Array Slot, lv_has ls 8 [(0, .ref (eA E 0)), (1, .int x1), (2, .int x2), (3, .int x3), (4, .int x4), (5, .int x5), (6, .int x6)] → Wq (wM E) E p l e rm_X10_sort s m args below meth c A 0 0 Q q (F0 m 56 ls []) := by
  induction n with
  | zero => intro q x1 x2 x3 x4 x5 x6 h; cases h
  | succ n ih => intro q x1 x2 x3 x4 x5 x6 h; exact g_X10_sort_56_b F hA hRt hK175 ih q x1 x2 x3 x4 x5 x6 h
def f_X10_sort_175 (B12 : QS → Int32 → Int32 → Option (QS)) (q : QS) (x1 : Int32) (x2 : Int32) : Option (QS) :=
  B12 q x1 (x2 + ((2 : Int32) * x1))
set_option maxHeartbeats 4000000 in
set_option maxRecDepth 100000 in
theorem g_X10_sort_175 {E : En} {p : Program} {l : Launch} {e : Env} {s : State} {m : MethodId} {args : Array Value} {below : List Frame} {meth : Method} {c : Code} {A : Nat → Prop} {Q : State → Prop} (F : Fx E p s m args meth c (yX10_sort).cls cX10_sort 8 none) (hA : ∀ z : Nat, s.heap.size ≤ z → A z) {o : QS} (hRt : RtV (wM E) E p l e rm_X10_sort s m args below meth c A Q cX10_sort o) {B12 : QS → Int32 → Int32 → Option (QS)} (hB12 : ∀ (q : QS) (x1 : Int32) (x2 : Int32), B12 q x1 x2 = some o → ∀ ls : Array Slot, lv_has ls 8 [(0, .ref (eA E 0)), (1, .int x1), (2, .int x2)] → Wq (wM E) E p l e rm_X10_sort s m args below meth c A 0 0 Q q (F0 m 12 ls [])) (q : QS) (x1 : Int32) (x2 : Int32) (h : f_X10_sort_175 B12 q x1 x2 = some o) (ls : Array Slot) (hl : lv_has ls 8 [(0, .ref (eA E 0)), (1, .int x1), (2, .int x2)]) : Wq (wM E) E p l e rm_X10_sort s m args below meth c A 0 0 Q q (F0 m 175 ls []) := by
  intro H locs hP hD hS
  have hx := F.1
  have hb := F.2.1
  unfold f_X10_sort_175 at h
  refine lv_iload_n hx hb dX10_sort_175 rfl (lv_at hl 2 rfl) ?_
  refine lv_iconst (v := 2) hx hb dX10_sort_176 (by decide) ?_
  refine lv_iload_n hx hb dX10_sort_177 rfl (lv_at hl 1 rfl) ?_
  refine lv_imul hx hb dX10_sort_178 ?_
  refine lv_iadd hx hb dX10_sort_179 ?_
  refine lv_istore_n (lv' := [(2, .int (x2 + ((2 : Int32) * x1))), (0, .ref (eA E 0)), (1, .int x1)]) hx hb dX10_sort_180 rfl hl (by decide) rfl (fun ls hl => ?_)
  refine lv_goto (tgt := 12) hx hb dX10_sort_181 (by decide) ?_
  exact hB12 q x1 (x2 + ((2 : Int32) * x1)) h _ (lv_sub hl [1, 2, 0] rfl) _ _ hP hD hS
def f_X10_sort_51 (B12 : QS → Int32 → Int32 → Option (QS)) (q : QS) (x1 : Int32) (x2 : Int32) (x3 : Int32) (x4 : Int32) (t0 : Int32) : Option (QS) :=
  f_X10_sort_56 (f_X10_sort_175 B12) FU q x1 x2 x3 x4 t0 x2
set_option maxHeartbeats 4000000 in
set_option maxRecDepth 100000 in
theorem g_X10_sort_51 {E : En} {p : Program} {l : Launch} {e : Env} {s : State} {m : MethodId} {args : Array Value} {below : List Frame} {meth : Method} {c : Code} {A : Nat → Prop} {Q : State → Prop} (F : Fx E p s m args meth c (yX10_sort).cls cX10_sort 8 none) (hA : ∀ z : Nat, s.heap.size ≤ z → A z) {o : QS} (hRt : RtV (wM E) E p l e rm_X10_sort s m args below meth c A Q cX10_sort o) {B12 : QS → Int32 → Int32 → Option (QS)} (hB12 : ∀ (q : QS) (x1 : Int32) (x2 : Int32), B12 q x1 x2 = some o → ∀ ls : Array Slot, lv_has ls 8 [(0, .ref (eA E 0)), (1, .int x1), (2, .int x2)] → Wq (wM E) E p l e rm_X10_sort s m args below meth c A 0 0 Q q (F0 m 12 ls [])) (q : QS) (x1 : Int32) (x2 : Int32) (x3 : Int32) (x4 : Int32) (t0 : Int32) (h : f_X10_sort_51 B12 q x1 x2 x3 x4 t0 = some o) (ls : Array Slot) (hl : lv_has ls 8 [(0, .ref (eA E 0)), (1, .int x1), (2, .int x2), (3, .int x3), (4, .int x4)]) : Wq (wM E) E p l e rm_X10_sort s m args below meth c A 0 0 Q q (F0 m 51 ls [.int t0]) := by
  intro H locs hP hD hS
  have hx := F.1
  have hb := F.2.1
  unfold f_X10_sort_51 at h
  refine lv_istore (lv' := [(5, .int t0), (0, .ref (eA E 0)), (1, .int x1), (2, .int x2), (3, .int x3), (4, .int x4)]) hx hb dX10_sort_51 hl (by decide) rfl (fun ls hl => ?_)
  refine lv_iload_n hx hb dX10_sort_53 rfl (lv_at hl 3 rfl) ?_
  refine lv_istore (lv' := [(6, .int x2), (5, .int t0), (0, .ref (eA E 0)), (1, .int x1), (2, .int x2), (3, .int x3), (4, .int x4)]) hx hb dX10_sort_54 hl (by decide) rfl (fun ls hl => ?_)
  exact g_X10_sort_56 F hA hRt (g_X10_sort_175 F hA hRt hB12) FU q x1 x2 x3 x4 t0 x2 h _ (lv_sub hl [2, 3, 4, 5, 6, 1, 0] rfl) _ _ hP hD hS
def f_X10_sort_12_b (K184 : QS → Int32 → Option (QS)) (B12 : QS → Int32 → Int32 → Option (QS)) (q : QS) (x1 : Int32) (x2 : Int32) : Option (QS) :=
  if (qF q 10) ≤ x2 then
    K184 q x1
  else
    if (qF q 10) ≤ (x2 + ((2 : Int32) * x1)) then
      f_X10_sort_51 B12 q x1 x2 x2 (x2 + x1) (qF q 10)
    else
      f_X10_sort_51 B12 q x1 x2 x2 (x2 + x1) (x2 + ((2 : Int32) * x1))
set_option maxHeartbeats 4000000 in
set_option maxRecDepth 100000 in
theorem g_X10_sort_12_b {E : En} {p : Program} {l : Launch} {e : Env} {s : State} {m : MethodId} {args : Array Value} {below : List Frame} {meth : Method} {c : Code} {A : Nat → Prop} {Q : State → Prop} (F : Fx E p s m args meth c (yX10_sort).cls cX10_sort 8 none) (hA : ∀ z : Nat, s.heap.size ≤ z → A z) {o : QS} (hRt : RtV (wM E) E p l e rm_X10_sort s m args below meth c A Q cX10_sort o) {K184 : QS → Int32 → Option (QS)} {B12 : QS → Int32 → Int32 → Option (QS)} (hK184 : ∀ (q : QS) (x1 : Int32), K184 q x1 = some o → ∀ ls : Array Slot, lv_has ls 8 [(0, .ref (eA E 0)), (1, .int x1)] → Wq (wM E) E p l e rm_X10_sort s m args below meth c A 0 0 Q q (F0 m 184 ls [])) (hB12 : ∀ (q : QS) (x1 : Int32) (x2 : Int32), B12 q x1 x2 = some o → ∀ ls : Array Slot, lv_has ls 8 [(0, .ref (eA E 0)), (1, .int x1), (2, .int x2)] → Wq (wM E) E p l e rm_X10_sort s m args below meth c A 0 0 Q q (F0 m 12 ls [])) (q : QS) (x1 : Int32) (x2 : Int32) (h : f_X10_sort_12_b K184 B12 q x1 x2 = some o) (ls : Array Slot) (hl : lv_has ls 8 [(0, .ref (eA E 0)), (1, .int x1), (2, .int x2)]) : Wq (wM E) E p l e rm_X10_sort s m args below meth c A 0 0 Q q (F0 m 12 ls []) := by
  intro H locs hP hD hS
  have hx := F.1
  have hb := F.2.1
  unfold f_X10_sort_12_b at h
  refine lv_iload_n hx hb dX10_sort_12 rfl (lv_at hl 2 rfl) ?_
  refine lv_aload_n hx hb dX10_sort_13 rfl (lv_at hl 0 rfl) ?_
  refine r_get F hP i_X10 0 (me_0 E q) rfl 41 (by decide) rfl lf_X10_280 rfl dX10_sort_14 ?_
  refine lv_icmp_ge (tgt := 184) hx hb dX10_sort_17 (by decide) (fun c2 => ?_) (fun c2 => ?_)
  · rw [if_pos c2] at h
    exact hK184 q x1 h _ (lv_sub hl [0, 1] rfl) _ _ hP hD hS
  · rw [if_neg c2] at h
    refine lv_iload_n hx hb dX10_sort_20 rfl (lv_at hl 2 rfl) ?_
    refine lv_istore_n (lv' := [(3, .int x2), (0, .ref (eA E 0)), (1, .int x1), (2, .int x2)]) hx hb dX10_sort_21 rfl hl (by decide) rfl (fun ls hl => ?_)
    refine lv_iload_n hx hb dX10_sort_22 rfl (lv_at hl 3 rfl) ?_
    refine lv_iload_n hx hb dX10_sort_23 rfl (lv_at hl 2 rfl) ?_
    refine lv_iadd hx hb dX10_sort_24 ?_
    refine lv_istore (lv' := [(4, .int (x2 + x1)), (3, .int x2), (0, .ref (eA E 0)), (1, .int x1), (2, .int x2)]) hx hb dX10_sort_25 hl (by decide) rfl (fun ls hl => ?_)
    refine lv_iload_n hx hb dX10_sort_27 rfl (lv_at hl 4 rfl) ?_
    refine lv_iconst (v := 2) hx hb dX10_sort_28 (by decide) ?_
    refine lv_iload_n hx hb dX10_sort_29 rfl (lv_at hl 3 rfl) ?_
    refine lv_imul hx hb dX10_sort_30 ?_
    refine lv_iadd hx hb dX10_sort_31 ?_
    refine lv_aload_n hx hb dX10_sort_32 rfl (lv_at hl 2 rfl) ?_
    refine r_get F hP i_X10 0 (me_0 E q) rfl 41 (by decide) rfl lf_X10_280 rfl dX10_sort_33 ?_
    refine lv_icmp_ge (tgt := 47) hx hb dX10_sort_36 (by decide) (fun c3 => ?_) (fun c3 => ?_)
    · rw [if_pos c3] at h
      refine lv_aload_n hx hb dX10_sort_47 rfl (lv_at hl 2 rfl) ?_
      refine r_get F hP i_X10 0 (me_0 E q) rfl 41 (by decide) rfl lf_X10_280 rfl dX10_sort_48 ?_
      exact g_X10_sort_51 F hA hRt hB12 q x1 x2 x2 (x2 + x1) (qF q 10) h _ (lv_sub hl [2, 3, 4, 1, 0] rfl) _ _ hP hD hS
    · rw [if_neg c3] at h
      refine lv_iload_n hx hb dX10_sort_39 rfl (lv_at hl 4 rfl) ?_
      refine lv_iconst (v := 2) hx hb dX10_sort_40 (by decide) ?_
      refine lv_iload_n hx hb dX10_sort_41 rfl (lv_at hl 3 rfl) ?_
      refine lv_imul hx hb dX10_sort_42 ?_
      refine lv_iadd hx hb dX10_sort_43 ?_
      refine lv_goto (tgt := 51) hx hb dX10_sort_44 (by decide) ?_
      exact g_X10_sort_51 F hA hRt hB12 q x1 x2 x2 (x2 + x1) (x2 + ((2 : Int32) * x1)) h _ (lv_sub hl [2, 3, 4, 1, 0] rfl) _ _ hP hD hS
def f_X10_sort_12 (K184 : QS → Int32 → Option (QS)) : Nat → QS → Int32 → Int32 → Option (QS)
  | 0 => fun _ _ _ => none
  | n + 1 => f_X10_sort_12_b K184 (f_X10_sort_12 K184 n)
theorem g_X10_sort_12 {E : En} {p : Program} {l : Launch} {e : Env} {s : State} {m : MethodId} {args : Array Value} {below : List Frame} {meth : Method} {c : Code} {A : Nat → Prop} {Q : State → Prop} (F : Fx E p s m args meth c (yX10_sort).cls cX10_sort 8 none) (hA : ∀ z : Nat, s.heap.size ≤ z → A z) {o : QS} (hRt : RtV (wM E) E p l e rm_X10_sort s m args below meth c A Q cX10_sort o) {K184 : QS → Int32 → Option (QS)} (hK184 : ∀ (q : QS) (x1 : Int32), K184 q x1 = some o → ∀ ls : Array Slot, lv_has ls 8 [(0, .ref (eA E 0)), (1, .int x1)] → Wq (wM E) E p l e rm_X10_sort s m args below meth c A 0 0 Q q (F0 m 184 ls [])) (n : Nat) : ∀ (q : QS) (x1 : Int32) (x2 : Int32), f_X10_sort_12 K184 n q x1 x2 = some o → ∀ ls : Array Slot, lv_has ls 8 [(0, .ref (eA E 0)), (1, .int x1), (2, .int x2)] → Wq (wM E) E p l e rm_X10_sort s m args below meth c A 0 0 Q q (F0 m 12 ls []) := by
  induction n with
  | zero => intro q x1 x2 h; cases h
  | succ n ih => intro q x1 x2 h; exact g_X10_sort_12_b F hA hRt hK184 ih q x1 x2 h
def f_X10_sort_186_b (K212 : QS → Int32 → Option (QS)) (B186 : QS → Int32 → Int32 → Option (QS)) (q : QS) (x1 : Int32) (x2 : Int32) : Option (QS) :=
  if (qF q 10) ≤ x2 then
    K212 q x1
  else
    (rd (qI q 33) 2000 x2).bind fun y25 =>
    (wI q 32 2000 x2 (vp_nar .short y25)).bind fun q27 =>
    B186 q27 x1 (x2 + (1 : Int32))
set_option maxHeartbeats 4000000 in
set_option maxRecDepth 100000 in
theorem g_X10_sort_186_b {E : En} {p : Program} {l : Launch} {e : Env} {s : State} {m : MethodId} {args : Array Value} {below : List Frame} {meth : Method} {c : Code} {A : Nat → Prop} {Q : State → Prop} (F : Fx E p s m args meth c (yX10_sort).cls cX10_sort 8 none) (hA : ∀ z : Nat, s.heap.size ≤ z → A z) {o : QS} (hRt : RtV (wM E) E p l e rm_X10_sort s m args below meth c A Q cX10_sort o) {K212 : QS → Int32 → Option (QS)} {B186 : QS → Int32 → Int32 → Option (QS)} (hK212 : ∀ (q : QS) (x1 : Int32), K212 q x1 = some o → ∀ ls : Array Slot, lv_has ls 8 [(0, .ref (eA E 0)), (1, .int x1)] → Wq (wM E) E p l e rm_X10_sort s m args below meth c A 0 0 Q q (F0 m 212 ls [])) (hB186 : ∀ (q : QS) (x1 : Int32) (x2 : Int32), B186 q x1 x2 = some o → ∀ ls : Array Slot, lv_has ls 8 [(0, .ref (eA E 0)), (1, .int x1), (2, .int x2)] → Wq (wM E) E p l e rm_X10_sort s m args below meth c A 0 0 Q q (F0 m 186 ls [])) (q : QS) (x1 : Int32) (x2 : Int32) (h : f_X10_sort_186_b K212 B186 q x1 x2 = some o) (ls : Array Slot) (hl : lv_has ls 8 [(0, .ref (eA E 0)), (1, .int x1), (2, .int x2)]) : Wq (wM E) E p l e rm_X10_sort s m args below meth c A 0 0 Q q (F0 m 186 ls []) := by
  intro H locs hP hD hS
  have hx := F.1
  have hb := F.2.1
  unfold f_X10_sort_186_b at h
  refine lv_iload_n hx hb dX10_sort_186 rfl (lv_at hl 2 rfl) ?_
  refine lv_aload_n hx hb dX10_sort_187 rfl (lv_at hl 0 rfl) ?_
  refine r_get F hP i_X10 0 (me_0 E q) rfl 41 (by decide) rfl lf_X10_280 rfl dX10_sort_188 ?_
  refine lv_icmp_ge (tgt := 212) hx hb dX10_sort_191 (by decide) (fun c24 => ?_) (fun c24 => ?_)
  · rw [if_pos c24] at h
    exact hK212 q x1 h _ (lv_sub hl [0, 1] rfl) _ _ hP hD hS
  · rw [if_neg c24] at h
    refine lv_aload_n hx hb dX10_sort_194 rfl (lv_at hl 0 rfl) ?_
    refine r_get F hP i_X10 0 (me_0 E q) rfl 42 (by decide) rfl lf_X10_114 rfl dX10_sort_195 ?_
    refine lv_iload_n hx hb dX10_sort_198 rfl (lv_at hl 2 rfl) ?_
    refine lv_aload_n hx hb dX10_sort_199 rfl (lv_at hl 0 rfl) ?_
    refine r_get F hP i_X10 0 (me_0 E q) rfl 43 (by decide) rfl lf_X10_117 rfl dX10_sort_200 ?_
    refine lv_iload_n hx hb dX10_sort_203 rfl (lv_at hl 2 rfl) ?_
    obtain ⟨y25, e26, h⟩ := Option.bind_eq_some_iff.mp h
    refine r_sald F hP 33 (me_33 E q) e26 dX10_sort_204 ?_
    obtain ⟨q27, e28, h⟩ := Option.bind_eq_some_iff.mp h
    refine r_sast F hP hD hS 32 (me_32 E q) (ms_32 E q) e28 dX10_sort_205 ?_
    intro H locs hP hD hS
    refine lv_iinc (v := (x2 + (1 : Int32))) (lv' := [(2, .int (x2 + (1 : Int32))), (0, .ref (eA E 0)), (1, .int x1)]) hx hb dX10_sort_206 hl (k := 2) rfl rfl (by decide) rfl (fun ls hl => ?_)
    refine lv_goto (tgt := 186) hx hb dX10_sort_209 (by decide) ?_
    exact hB186 q27 x1 (x2 + (1 : Int32)) h _ (lv_sub hl [1, 2, 0] rfl) _ _ hP hD hS
def f_X10_sort_186 (K212 : QS → Int32 → Option (QS)) : Nat → QS → Int32 → Int32 → Option (QS)
  | 0 => fun _ _ _ => none
  | n + 1 => f_X10_sort_186_b K212 (f_X10_sort_186 K212 n)
theorem g_X10_sort_186 {E : En} {p : Program} {l : Launch} {e : Env} {s : State} {m : MethodId} {args : Array Value} {below : List Frame} {meth : Method} {c : Code} {A : Nat → Prop} {Q : State → Prop} (F : Fx E p s m args meth c (yX10_sort).cls cX10_sort 8 none) (hA : ∀ z : Nat, s.heap.size ≤ z → A z) {o : QS} (hRt : RtV (wM E) E p l e rm_X10_sort s m args below meth c A Q cX10_sort o) {K212 : QS → Int32 → Option (QS)} (hK212 : ∀ (q : QS) (x1 : Int32), K212 q x1 = some o → ∀ ls : Array Slot, lv_has ls 8 [(0, .ref (eA E 0)), (1, .int x1)] → Wq (wM E) E p l e rm_X10_sort s m args below meth c A 0 0 Q q (F0 m 212 ls [])) (n : Nat) : ∀ (q : QS) (x1 : Int32) (x2 : Int32), f_X10_sort_186 K212 n q x1 x2 = some o → ∀ ls : Array Slot, lv_has ls 8 [(0, .ref (eA E 0)), (1, .int x1), (2, .int x2)] → Wq (wM E) E p l e rm_X10_sort s m args below meth c A 0 0 Q q (F0 m 186 ls []) := by
  induction n with
  | zero => intro q x1 x2 h; cases h
  | succ n ih => intro q x1 x2 h; exact g_X10_sort_186_b F hA hRt hK212 ih q x1 x2 h
def f_X10_sort_212 (B2 : QS → Int32 → Option (QS)) (q : QS) (x1 : Int32) : Option (QS) :=
  B2 q ((2 : Int32) * x1)
set_option maxHeartbeats 4000000 in
set_option maxRecDepth 100000 in
theorem g_X10_sort_212 {E : En} {p : Program} {l : Launch} {e : Env} {s : State} {m : MethodId} {args : Array Value} {below : List Frame} {meth : Method} {c : Code} {A : Nat → Prop} {Q : State → Prop} (F : Fx E p s m args meth c (yX10_sort).cls cX10_sort 8 none) (hA : ∀ z : Nat, s.heap.size ≤ z → A z) {o : QS} (hRt : RtV (wM E) E p l e rm_X10_sort s m args below meth c A Q cX10_sort o) {B2 : QS → Int32 → Option (QS)} (hB2 : ∀ (q : QS) (x1 : Int32), B2 q x1 = some o → ∀ ls : Array Slot, lv_has ls 8 [(0, .ref (eA E 0)), (1, .int x1)] → Wq (wM E) E p l e rm_X10_sort s m args below meth c A 0 0 Q q (F0 m 2 ls [])) (q : QS) (x1 : Int32) (h : f_X10_sort_212 B2 q x1 = some o) (ls : Array Slot) (hl : lv_has ls 8 [(0, .ref (eA E 0)), (1, .int x1)]) : Wq (wM E) E p l e rm_X10_sort s m args below meth c A 0 0 Q q (F0 m 212 ls []) := by
  intro H locs hP hD hS
  have hx := F.1
  have hb := F.2.1
  unfold f_X10_sort_212 at h
  refine lv_iconst (v := 2) hx hb dX10_sort_212 (by decide) ?_
  refine lv_iload_n hx hb dX10_sort_213 rfl (lv_at hl 1 rfl) ?_
  refine lv_imul hx hb dX10_sort_214 ?_
  refine lv_istore_n (lv' := [(1, .int ((2 : Int32) * x1)), (0, .ref (eA E 0))]) hx hb dX10_sort_215 rfl hl (by decide) rfl (fun ls hl => ?_)
  refine lv_goto (tgt := 2) hx hb dX10_sort_216 (by decide) ?_
  exact hB2 q ((2 : Int32) * x1) h _ (lv_sub hl [1, 0] rfl) _ _ hP hD hS
def f_X10_sort_184 (B2 : QS → Int32 → Option (QS)) (q : QS) (x1 : Int32) : Option (QS) :=
  f_X10_sort_186 (f_X10_sort_212 B2) FU q x1 (0 : Int32)
set_option maxHeartbeats 4000000 in
set_option maxRecDepth 100000 in
theorem g_X10_sort_184 {E : En} {p : Program} {l : Launch} {e : Env} {s : State} {m : MethodId} {args : Array Value} {below : List Frame} {meth : Method} {c : Code} {A : Nat → Prop} {Q : State → Prop} (F : Fx E p s m args meth c (yX10_sort).cls cX10_sort 8 none) (hA : ∀ z : Nat, s.heap.size ≤ z → A z) {o : QS} (hRt : RtV (wM E) E p l e rm_X10_sort s m args below meth c A Q cX10_sort o) {B2 : QS → Int32 → Option (QS)} (hB2 : ∀ (q : QS) (x1 : Int32), B2 q x1 = some o → ∀ ls : Array Slot, lv_has ls 8 [(0, .ref (eA E 0)), (1, .int x1)] → Wq (wM E) E p l e rm_X10_sort s m args below meth c A 0 0 Q q (F0 m 2 ls [])) (q : QS) (x1 : Int32) (h : f_X10_sort_184 B2 q x1 = some o) (ls : Array Slot) (hl : lv_has ls 8 [(0, .ref (eA E 0)), (1, .int x1)]) : Wq (wM E) E p l e rm_X10_sort s m args below meth c A 0 0 Q q (F0 m 184 ls []) := by
  intro H locs hP hD hS
  have hx := F.1
  have hb := F.2.1
  unfold f_X10_sort_184 at h
  refine lv_iconst (v := 0) hx hb dX10_sort_184 (by decide) ?_
  refine lv_istore_n (lv' := [(2, .int (0 : Int32)), (0, .ref (eA E 0)), (1, .int x1)]) hx hb dX10_sort_185 rfl hl (by decide) rfl (fun ls hl => ?_)
  exact g_X10_sort_186 F hA hRt (g_X10_sort_212 F hA hRt hB2) FU q x1 (0 : Int32) h _ (lv_sub hl [1, 2, 0] rfl) _ _ hP hD hS
def f_X10_sort_2_b (B2 : QS → Int32 → Option (QS)) (q : QS) (x1 : Int32) : Option (QS) :=
  if (qF q 10) ≤ x1 then
    some q
  else
    f_X10_sort_12 (f_X10_sort_184 B2) FU q x1 (0 : Int32)
set_option maxHeartbeats 4000000 in
set_option maxRecDepth 100000 in
theorem g_X10_sort_2_b {E : En} {p : Program} {l : Launch} {e : Env} {s : State} {m : MethodId} {args : Array Value} {below : List Frame} {meth : Method} {c : Code} {A : Nat → Prop} {Q : State → Prop} (F : Fx E p s m args meth c (yX10_sort).cls cX10_sort 8 none) (hA : ∀ z : Nat, s.heap.size ≤ z → A z) {o : QS} (hRt : RtV (wM E) E p l e rm_X10_sort s m args below meth c A Q cX10_sort o) {B2 : QS → Int32 → Option (QS)} (hB2 : ∀ (q : QS) (x1 : Int32), B2 q x1 = some o → ∀ ls : Array Slot, lv_has ls 8 [(0, .ref (eA E 0)), (1, .int x1)] → Wq (wM E) E p l e rm_X10_sort s m args below meth c A 0 0 Q q (F0 m 2 ls [])) (q : QS) (x1 : Int32) (h : f_X10_sort_2_b B2 q x1 = some o) (ls : Array Slot) (hl : lv_has ls 8 [(0, .ref (eA E 0)), (1, .int x1)]) : Wq (wM E) E p l e rm_X10_sort s m args below meth c A 0 0 Q q (F0 m 2 ls []) := by
  intro H locs hP hD hS
  have hx := F.1
  have hb := F.2.1
  unfold f_X10_sort_2_b at h
  refine lv_iload_n hx hb dX10_sort_2 rfl (lv_at hl 1 rfl) ?_
  refine lv_aload_n hx hb dX10_sort_3 rfl (lv_at hl 0 rfl) ?_
  refine r_get F hP i_X10 0 (me_0 E q) rfl 41 (by decide) rfl lf_X10_280 rfl dX10_sort_4 ?_
  refine lv_icmp_ge (tgt := 219) hx hb dX10_sort_7 (by decide) (fun c1 => ?_) (fun c1 => ?_)
  · rw [if_pos c1] at h
    cases h
    exact hRt _ _ dX10_sort_219 _ _ hP hD hS
  · rw [if_neg c1] at h
    refine lv_iconst (v := 0) hx hb dX10_sort_10 (by decide) ?_
    refine lv_istore_n (lv' := [(2, .int (0 : Int32)), (0, .ref (eA E 0)), (1, .int x1)]) hx hb dX10_sort_11 rfl hl (by decide) rfl (fun ls hl => ?_)
    exact g_X10_sort_12 F hA hRt (g_X10_sort_184 F hA hRt hB2) FU q x1 (0 : Int32) h _ (lv_sub hl [1, 2, 0] rfl) _ _ hP hD hS
def f_X10_sort_2 : Nat → QS → Int32 → Option (QS)
  | 0 => fun _ _ => none
  | n + 1 => f_X10_sort_2_b (f_X10_sort_2 n)
theorem g_X10_sort_2 {E : En} {p : Program} {l : Launch} {e : Env} {s : State} {m : MethodId} {args : Array Value} {below : List Frame} {meth : Method} {c : Code} {A : Nat → Prop} {Q : State → Prop} (F : Fx E p s m args meth c (yX10_sort).cls cX10_sort 8 none) (hA : ∀ z : Nat, s.heap.size ≤ z → A z) {o : QS} (hRt : RtV (wM E) E p l e rm_X10_sort s m args below meth c A Q cX10_sort o) (n : Nat) : ∀ (q : QS) (x1 : Int32), f_X10_sort_2 n q x1 = some o → ∀ ls : Array Slot, lv_has ls 8 [(0, .ref (eA E 0)), (1, .int x1)] → Wq (wM E) E p l e rm_X10_sort s m args below meth c A 0 0 Q q (F0 m 2 ls []) := by
  induction n with
  | zero => intro q x1 h; cases h
  | succ n ih => intro q x1 h; exact g_X10_sort_2_b F hA hRt ih q x1 h
def f_X10_sort_0 (q : QS) : Option (QS) :=
  f_X10_sort_2 FU q (1 : Int32)
set_option maxHeartbeats 4000000 in
set_option maxRecDepth 100000 in
theorem g_X10_sort_0 {E : En} {p : Program} {l : Launch} {e : Env} {s : State} {m : MethodId} {args : Array Value} {below : List Frame} {meth : Method} {c : Code} {A : Nat → Prop} {Q : State → Prop} (F : Fx E p s m args meth c (yX10_sort).cls cX10_sort 8 none) (hA : ∀ z : Nat, s.heap.size ≤ z → A z) {o : QS} (hRt : RtV (wM E) E p l e rm_X10_sort s m args below meth c A Q cX10_sort o) (q : QS) (h : f_X10_sort_0 q = some o) (ls : Array Slot) (hl : lv_has ls 8 [(0, .ref (eA E 0))]) : Wq (wM E) E p l e rm_X10_sort s m args below meth c A 0 0 Q q (F0 m 0 ls []) := by
  intro H locs hP hD hS
  have hx := F.1
  have hb := F.2.1
  unfold f_X10_sort_0 at h
  refine lv_iconst (v := 1) hx hb dX10_sort_0 (by decide) ?_
  refine lv_istore_n (lv' := [(1, .int (1 : Int32)), (0, .ref (eA E 0))]) hx hb dX10_sort_1 rfl hl (by decide) rfl (fun ls hl => ?_)
  exact g_X10_sort_2 F hA hRt FU q (1 : Int32) h _ (lv_sub hl [1, 0] rfl) _ _ hP hD hS
def f_X10_sort (q : QS) : Option (QS) := f_X10_sort_0 q
set_option maxRecDepth 100000 in
theorem c_X10_sort {E : En} {l : Launch} (q : QS) {o : QS} (h : f_X10_sort q = some o) : Ct (wM E) E l yX10_sort (wy yX10_sort cX10_sort 8 none) rm_X10_sort q o [.ref (eA E 0)] none :=
  ct_V (o := o) (by decide +kernel) (fun p e s m below meth c A Q F hA hRt H locs hP hD hS => en_W [.ref (eA E 0)] (Nat.le_of_ble_eq_true rfl) (fun ls hl => g_X10_sort_0 F hA hRt q h ls (lv_sub hl [0] rfl) H locs hP hD hS))
def rm_X10_run : Room := { frames := 7, cells := 0, slots := 0, locals := 179 }
def f_X10_run_218_b (K254 : QS → Int32 → Int32 → Option (Int32 × QS)) (B218 : QS → Int32 → Int32 → Int32 → Int32 → Int32 → Option (Int32 × QS)) (q : QS) (x2 : Int32) (x3 : Int32) (x4 : Int32) (x5 : Int32) (x6 : Int32) : Option (Int32 × QS) :=
  if (4 : Int32) ≤ x6 then
    K254 q x2 x3
  else
    (rd (qL q 20) 800 (((4 : Int32) * x4) + x6)).bind fun y37 =>
    (wL q 41 2048 (((4 : Int32) * x5) + x6) y37).bind fun q39 =>
    B218 q39 x2 x3 x4 x5 (x6 + (1 : Int32))
set_option maxHeartbeats 4000000 in
set_option maxRecDepth 100000 in
theorem g_X10_run_218_b {E : En} {p : Program} {l : Launch} {e : Env} {s : State} {m : MethodId} {args : Array Value} {below : List Frame} {meth : Method} {c : Code} {A : Nat → Prop} {Q : State → Prop} (F : Fx E p s m args meth c (yX10_run).cls cX10_run 7 (some .int)) (hA : ∀ z : Nat, s.heap.size ≤ z → A z) {o : Int32 × QS} (hRt : RtI (wM E) E p l e rm_X10_run s m args below meth c A Q cX10_run o) {K254 : QS → Int32 → Int32 → Option (Int32 × QS)} {B218 : QS → Int32 → Int32 → Int32 → Int32 → Int32 → Option (Int32 × QS)} (hK254 : ∀ (q : QS) (x2 : Int32) (x3 : Int32), K254 q x2 x3 = some o → ∀ ls : Array Slot, lv_has ls 7 [(0, .ref (eA E 0)), (2, .int x2), (3, .int x3)] → Wq (wM E) E p l e rm_X10_run s m args below meth c A 0 0 Q q (F0 m 254 ls [])) (hB218 : ∀ (q : QS) (x2 : Int32) (x3 : Int32) (x4 : Int32) (x5 : Int32) (x6 : Int32), B218 q x2 x3 x4 x5 x6 = some o → ∀ ls : Array Slot, lv_has ls 7 [(0, .ref (eA E 0)), (2, .int x2), (3, .int x3), (4, .int x4), (5, .int x5), (6, .int x6)] → Wq (wM E) E p l e rm_X10_run s m args below meth c A 0 0 Q q (F0 m 218 ls [])) (q : QS) (x2 : Int32) (x3 : Int32) (x4 : Int32) (x5 : Int32) (x6 : Int32) (h : f_X10_run_218_b K254 B218 q x2 x3 x4 x5 x6 = some o) (ls : Array Slot) (hl : lv_has ls 7 [(0, .ref (eA E 0)), (2, .int x2), (3, .int x3), (4, .int x4), (5, .int x5), (6, .int x6)]) : Wq (wM E) E p l e rm_X10_run s m args below meth c A 0 0 Q q (F0 m 218 ls []) := by
  intro H locs hP hD hS
  have hx := F.1
  have hb := F.2.1
  unfold f_X10_run_218_b at h
  refine lv_iload hx hb dX10_run_218 (lv_at hl 5 rfl) ?_
  refine lv_iconst (v := 4) hx hb dX10_run_220 (by decide) ?_
  refine lv_icmp_ge (tgt := 254) hx hb dX10_run_221 (by decide) (fun c36 => ?_) (fun c36 => ?_)
  · rw [if_pos c36] at h
    exact hK254 q x2 x3 h _ (lv_sub hl [0, 1, 2] rfl) _ _ hP hD hS
  · rw [if_neg c36] at h
    refine lv_aload_n hx hb dX10_run_224 rfl (lv_at hl 0 rfl) ?_
    refine r_get F hP i_X10 0 (me_0 E q) rfl 53 (by decide) rfl lf_X10_141 rfl dX10_run_225 ?_
    refine lv_iconst (v := 4) hx hb dX10_run_228 (by decide) ?_
    refine lv_iload hx hb dX10_run_229 (lv_at hl 4 rfl) ?_
    refine lv_imul hx hb dX10_run_231 ?_
    refine lv_iload hx hb dX10_run_232 (lv_at hl 5 rfl) ?_
    refine lv_iadd hx hb dX10_run_234 ?_
    refine lv_aload_n hx hb dX10_run_235 rfl (lv_at hl 0 rfl) ?_
    refine r_get F hP i_X10 0 (me_0 E q) rfl 22 (by decide) rfl lf_X10_71 rfl dX10_run_236 ?_
    refine lv_iconst (v := 4) hx hb dX10_run_239 (by decide) ?_
    refine lv_iload hx hb dX10_run_240 (lv_at hl 3 rfl) ?_
    refine lv_imul hx hb dX10_run_242 ?_
    refine lv_iload hx hb dX10_run_243 (lv_at hl 5 rfl) ?_
    refine lv_iadd hx hb dX10_run_245 ?_
    obtain ⟨y37, e38, h⟩ := Option.bind_eq_some_iff.mp h
    refine r_lald F hP 20 (me_20 E q) e38 dX10_run_246 ?_
    obtain ⟨q39, e40, h⟩ := Option.bind_eq_some_iff.mp h
    refine r_last F hP hD hS 41 (me_41 E q) (ms_41 E q) e40 dX10_run_247 ?_
    intro H locs hP hD hS
    refine lv_iinc (v := (x6 + (1 : Int32))) (lv' := [(6, .int (x6 + (1 : Int32))), (0, .ref (eA E 0)), (2, .int x2), (3, .int x3), (4, .int x4), (5, .int x5)]) hx hb dX10_run_248 hl (k := 5) rfl rfl (by decide) rfl (fun ls hl => ?_)
    refine lv_goto (tgt := 218) hx hb dX10_run_251 (by decide) ?_
    exact hB218 q39 x2 x3 x4 x5 (x6 + (1 : Int32)) h _ (lv_sub hl [1, 2, 3, 4, 5, 0] rfl) _ _ hP hD hS
def f_X10_run_218 (K254 : QS → Int32 → Int32 → Option (Int32 × QS)) : Nat → QS → Int32 → Int32 → Int32 → Int32 → Int32 → Option (Int32 × QS)
  | 0 => fun _ _ _ _ _ _ => none
  | n + 1 => f_X10_run_218_b K254 (f_X10_run_218 K254 n)
theorem g_X10_run_218 {E : En} {p : Program} {l : Launch} {e : Env} {s : State} {m : MethodId} {args : Array Value} {below : List Frame} {meth : Method} {c : Code} {A : Nat → Prop} {Q : State → Prop} (F : Fx E p s m args meth c (yX10_run).cls cX10_run 7 (some .int)) (hA : ∀ z : Nat, s.heap.size ≤ z → A z) {o : Int32 × QS} (hRt : RtI (wM E) E p l e rm_X10_run s m args below meth c A Q cX10_run o) {K254 : QS → Int32 → Int32 → Option (Int32 × QS)} (hK254 : ∀ (q : QS) (x2 : Int32) (x3 : Int32), K254 q x2 x3 = some o → ∀ ls : Array Slot, lv_has ls 7 [(0, .ref (eA E 0)), (2, .int x2), (3, .int x3)] → Wq (wM E) E p l e rm_X10_run s m args below meth c A 0 0 Q q (F0 m 254 ls [])) (n : Nat) : ∀ (q : QS) (x2 : Int32) (x3 : Int32) (x4 : Int32) (x5 : Int32) (x6 : Int32), f_X10_run_218 K254 n q x2 x3 x4 x5 x6 = some o → ∀ ls : Array Slot, lv_has ls 7 [(0, .ref (eA E 0)), (2, .int x2), (3, .int x3), (4, .int x4), (5, .int x5), (6, .int x6)] → Wq (wM E) E p l e rm_X10_run s m args below meth c A 0 0 Q q (F0 m 218 ls []) := by
  induction n with
  | zero => intro q x2 x3 x4 x5 x6 h; cases h
  | succ n ih => intro q x2 x3 x4 x5 x6 h; exact g_X10_run_218_b F hA hRt hK254 ih q x2 x3 x4 x5 x6 h
def f_X10_run_254 (B122 : QS → Int32 → Int32 → Option (Int32 × QS)) (q : QS) (x2 : Int32) (x3 : Int32) : Option (Int32 × QS) :=
  B122 q x2 (x3 + (1 : Int32))
set_option maxHeartbeats 4000000 in
set_option maxRecDepth 100000 in
theorem g_X10_run_254 {E : En} {p : Program} {l : Launch} {e : Env} {s : State} {m : MethodId} {args : Array Value} {below : List Frame} {meth : Method} {c : Code} {A : Nat → Prop} {Q : State → Prop} (F : Fx E p s m args meth c (yX10_run).cls cX10_run 7 (some .int)) (hA : ∀ z : Nat, s.heap.size ≤ z → A z) {o : Int32 × QS} (hRt : RtI (wM E) E p l e rm_X10_run s m args below meth c A Q cX10_run o) {B122 : QS → Int32 → Int32 → Option (Int32 × QS)} (hB122 : ∀ (q : QS) (x2 : Int32) (x3 : Int32), B122 q x2 x3 = some o → ∀ ls : Array Slot, lv_has ls 7 [(0, .ref (eA E 0)), (2, .int x2), (3, .int x3)] → Wq (wM E) E p l e rm_X10_run s m args below meth c A 0 0 Q q (F0 m 122 ls [])) (q : QS) (x2 : Int32) (x3 : Int32) (h : f_X10_run_254 B122 q x2 x3 = some o) (ls : Array Slot) (hl : lv_has ls 7 [(0, .ref (eA E 0)), (2, .int x2), (3, .int x3)]) : Wq (wM E) E p l e rm_X10_run s m args below meth c A 0 0 Q q (F0 m 254 ls []) := by
  intro H locs hP hD hS
  have hx := F.1
  have hb := F.2.1
  unfold f_X10_run_254 at h
  refine lv_iinc (v := (x3 + (1 : Int32))) (lv' := [(3, .int (x3 + (1 : Int32))), (0, .ref (eA E 0)), (2, .int x2)]) hx hb dX10_run_254 hl (k := 2) rfl rfl (by decide) rfl (fun ls hl => ?_)
  refine lv_goto (tgt := 122) hx hb dX10_run_257 (by decide) ?_
  exact hB122 q x2 (x3 + (1 : Int32)) h _ (lv_sub hl [1, 2, 0] rfl) _ _ hP hD hS
def f_X10_run_185 (B122 : QS → Int32 → Int32 → Option (Int32 × QS)) (q : QS) (x2 : Int32) (x3 : Int32) (x4 : Int32) (x5 : Int32) (t1 : Int32) (t2 : Int32) : Option (Int32 × QS) :=
  (wI q 38 512 t1 (vp_nar .byte ((t2).toInt8.toInt32))).bind fun q26 =>
  (rd (qL q26 18) 200 x4).bind fun y28 =>
  (wL q26 39 512 x5 y28).bind fun q30 =>
  (rd (qI q30 19) 200 x4).bind fun y32 =>
  (wI q30 40 512 x5 y32).bind fun q34 =>
  f_X10_run_218 (f_X10_run_254 B122) FU q34 x2 x3 x4 x5 (0 : Int32)
set_option maxHeartbeats 4000000 in
set_option maxRecDepth 100000 in
theorem g_X10_run_185 {E : En} {p : Program} {l : Launch} {e : Env} {s : State} {m : MethodId} {args : Array Value} {below : List Frame} {meth : Method} {c : Code} {A : Nat → Prop} {Q : State → Prop} (F : Fx E p s m args meth c (yX10_run).cls cX10_run 7 (some .int)) (hA : ∀ z : Nat, s.heap.size ≤ z → A z) {o : Int32 × QS} (hRt : RtI (wM E) E p l e rm_X10_run s m args below meth c A Q cX10_run o) {B122 : QS → Int32 → Int32 → Option (Int32 × QS)} (hB122 : ∀ (q : QS) (x2 : Int32) (x3 : Int32), B122 q x2 x3 = some o → ∀ ls : Array Slot, lv_has ls 7 [(0, .ref (eA E 0)), (2, .int x2), (3, .int x3)] → Wq (wM E) E p l e rm_X10_run s m args below meth c A 0 0 Q q (F0 m 122 ls [])) (q : QS) (x2 : Int32) (x3 : Int32) (x4 : Int32) (x5 : Int32) (t1 : Int32) (t2 : Int32) (h : f_X10_run_185 B122 q x2 x3 x4 x5 t1 t2 = some o) (ls : Array Slot) (hl : lv_has ls 7 [(0, .ref (eA E 0)), (2, .int x2), (3, .int x3), (4, .int x4), (5, .int x5)]) : Wq (wM E) E p l e rm_X10_run s m args below meth c A 0 0 Q q (F0 m 185 ls [.int t2, .int t1, .ref (eA E 38)]) := by
  intro H locs hP hD hS
  have hx := F.1
  have hb := F.2.1
  unfold f_X10_run_185 at h
  refine lv_i2b (v := ((t2).toInt8.toInt32)) hx hb dX10_run_185 rfl ?_
  obtain ⟨q26, e27, h⟩ := Option.bind_eq_some_iff.mp h
  refine r_bast F hP hD hS 38 (me_38 E q) (ms_38 E q) e27 dX10_run_186 ?_
  intro H locs hP hD hS
  refine lv_aload_n hx hb dX10_run_187 rfl (lv_at hl 0 rfl) ?_
  refine r_get F hP i_X10 0 (me_0 E q26) rfl 51 (by decide) rfl lf_X10_135 rfl dX10_run_188 ?_
  refine lv_iload hx hb dX10_run_191 (lv_at hl 4 rfl) ?_
  refine lv_aload_n hx hb dX10_run_193 rfl (lv_at hl 0 rfl) ?_
  refine r_get F hP i_X10 0 (me_0 E q26) rfl 20 (by decide) rfl lf_X10_65 rfl dX10_run_194 ?_
  refine lv_iload hx hb dX10_run_197 (lv_at hl 3 rfl) ?_
  obtain ⟨y28, e29, h⟩ := Option.bind_eq_some_iff.mp h
  refine r_lald F hP 18 (me_18 E q26) e29 dX10_run_199 ?_
  obtain ⟨q30, e31, h⟩ := Option.bind_eq_some_iff.mp h
  refine r_last F hP hD hS 39 (me_39 E q26) (ms_39 E q26) e31 dX10_run_200 ?_
  intro H locs hP hD hS
  refine lv_aload_n hx hb dX10_run_201 rfl (lv_at hl 0 rfl) ?_
  refine r_get F hP i_X10 0 (me_0 E q30) rfl 52 (by decide) rfl lf_X10_138 rfl dX10_run_202 ?_
  refine lv_iload hx hb dX10_run_205 (lv_at hl 4 rfl) ?_
  refine lv_aload_n hx hb dX10_run_207 rfl (lv_at hl 0 rfl) ?_
  refine r_get F hP i_X10 0 (me_0 E q30) rfl 21 (by decide) rfl lf_X10_68 rfl dX10_run_208 ?_
  refine lv_iload hx hb dX10_run_211 (lv_at hl 3 rfl) ?_
  obtain ⟨y32, e33, h⟩ := Option.bind_eq_some_iff.mp h
  refine r_iald F hP 19 (me_19 E q30) e33 dX10_run_213 ?_
  obtain ⟨q34, e35, h⟩ := Option.bind_eq_some_iff.mp h
  refine r_iast F hP hD hS 40 (me_40 E q30) (ms_40 E q30) e35 dX10_run_214 ?_
  intro H locs hP hD hS
  refine lv_iconst (v := 0) hx hb dX10_run_215 (by decide) ?_
  refine lv_istore (lv' := [(6, .int (0 : Int32)), (0, .ref (eA E 0)), (2, .int x2), (3, .int x3), (4, .int x4), (5, .int x5)]) hx hb dX10_run_216 hl (by decide) rfl (fun ls hl => ?_)
  exact g_X10_run_218 F hA hRt (g_X10_run_254 F hA hRt hB122) FU q34 x2 x3 x4 x5 (0 : Int32) h _ (lv_sub hl [1, 2, 3, 4, 5, 0] rfl) _ _ hP hD hS
def f_X10_run_122_b (K260 : QS → Int32 → Option (Int32 × QS)) (B122 : QS → Int32 → Int32 → Option (Int32 × QS)) (q : QS) (x2 : Int32) (x3 : Int32) : Option (Int32 × QS) :=
  if (qF q 4) ≤ x3 then
    K260 q x2
  else
    (rd (qI q 26) 8 x3).bind fun y15 =>
    (rd (qI q 32) 2000 x2).bind fun y17 =>
    (f_X10_evaluate q y15 y17).bind fun r19 =>
    (rd (qI r19 17) 200 y15).bind fun y21 =>
    if y21 = 0 then
      (rd (qI r19 14) 200 y15).bind fun y24 =>
      f_X10_run_185 B122 r19 x2 x3 y15 (((8 : Int32) * x2) + x3) (((8 : Int32) * x2) + x3) y24
    else
      f_X10_run_185 B122 r19 x2 x3 y15 (((8 : Int32) * x2) + x3) (((8 : Int32) * x2) + x3) (0 : Int32)
set_option maxHeartbeats 4000000 in
set_option maxRecDepth 100000 in
theorem g_X10_run_122_b {E : En} {p : Program} {l : Launch} {e : Env} {s : State} {m : MethodId} {args : Array Value} {below : List Frame} {meth : Method} {c : Code} {A : Nat → Prop} {Q : State → Prop} (F : Fx E p s m args meth c (yX10_run).cls cX10_run 7 (some .int)) (hA : ∀ z : Nat, s.heap.size ≤ z → A z) {o : Int32 × QS} (hRt : RtI (wM E) E p l e rm_X10_run s m args below meth c A Q cX10_run o) {K260 : QS → Int32 → Option (Int32 × QS)} {B122 : QS → Int32 → Int32 → Option (Int32 × QS)} (hK260 : ∀ (q : QS) (x2 : Int32), K260 q x2 = some o → ∀ ls : Array Slot, lv_has ls 7 [(0, .ref (eA E 0)), (2, .int x2)] → Wq (wM E) E p l e rm_X10_run s m args below meth c A 0 0 Q q (F0 m 260 ls [])) (hB122 : ∀ (q : QS) (x2 : Int32) (x3 : Int32), B122 q x2 x3 = some o → ∀ ls : Array Slot, lv_has ls 7 [(0, .ref (eA E 0)), (2, .int x2), (3, .int x3)] → Wq (wM E) E p l e rm_X10_run s m args below meth c A 0 0 Q q (F0 m 122 ls [])) (q : QS) (x2 : Int32) (x3 : Int32) (h : f_X10_run_122_b K260 B122 q x2 x3 = some o) (ls : Array Slot) (hl : lv_has ls 7 [(0, .ref (eA E 0)), (2, .int x2), (3, .int x3)]) : Wq (wM E) E p l e rm_X10_run s m args below meth c A 0 0 Q q (F0 m 122 ls []) := by
  intro H locs hP hD hS
  have hx := F.1
  have hb := F.2.1
  unfold f_X10_run_122_b at h
  refine lv_iload_n hx hb dX10_run_122 rfl (lv_at hl 2 rfl) ?_
  refine lv_aload_n hx hb dX10_run_123 rfl (lv_at hl 0 rfl) ?_
  refine r_get F hP i_X10 0 (me_0 E q) rfl 29 (by decide) rfl lf_X10_150 rfl dX10_run_124 ?_
  refine lv_icmp_ge (tgt := 260) hx hb dX10_run_127 (by decide) (fun c14 => ?_) (fun c14 => ?_)
  · rw [if_pos c14] at h
    exact hK260 q x2 h _ (lv_sub hl [0, 1] rfl) _ _ hP hD hS
  · rw [if_neg c14] at h
    refine lv_aload_n hx hb dX10_run_130 rfl (lv_at hl 0 rfl) ?_
    refine r_get F hP i_X10 0 (me_0 E q) rfl 30 (by decide) rfl lf_X10_93 rfl dX10_run_131 ?_
    refine lv_iload_n hx hb dX10_run_134 rfl (lv_at hl 2 rfl) ?_
    obtain ⟨y15, e16, h⟩ := Option.bind_eq_some_iff.mp h
    refine r_iald F hP 26 (me_26 E q) e16 dX10_run_135 ?_
    refine lv_istore (lv' := [(4, .int y15), (0, .ref (eA E 0)), (2, .int x2), (3, .int x3)]) hx hb dX10_run_136 hl (by decide) rfl (fun ls hl => ?_)
    refine lv_aload_n hx hb dX10_run_138 rfl (lv_at hl 1 rfl) ?_
    refine lv_iload hx hb dX10_run_139 (lv_at hl 0 rfl) ?_
    refine lv_aload_n hx hb dX10_run_141 rfl (lv_at hl 1 rfl) ?_
    refine r_get F hP i_X10 0 (me_0 E q) rfl 42 (by decide) rfl lf_X10_114 rfl dX10_run_142 ?_
    refine lv_iload_n hx hb dX10_run_145 rfl (lv_at hl 2 rfl) ?_
    obtain ⟨y17, e18, h⟩ := Option.bind_eq_some_iff.mp h
    refine r_sald F hP 32 (me_32 E q) e18 dX10_run_146 ?_
    obtain ⟨r19, e20, h⟩ := Option.bind_eq_some_iff.mp h
    refine q_callV (As := [.int y15, .int y17]) (rest := []) F hA hP hD hS (c_X10_evaluate (E := E) (l := l) q y15 y17 e20) k_X10_evaluate in_X10_evaluate se_X10_evaluate lm_X10_256 0 (me_0 E q) rfl ⟨rfl, rfl⟩ ⟨by decide, by decide⟩ rfl hl.1 rfl (Nat.le_of_ble_eq_true rfl) dX10_run_147 ⟨by decide, by decide⟩ ?_
    intro H locs hP hD hS
    refine lv_bipush (v := 8) hx hb dX10_run_150 (by decide) ?_
    refine lv_iload_n hx hb dX10_run_152 rfl (lv_at hl 2 rfl) ?_
    refine lv_imul hx hb dX10_run_153 ?_
    refine lv_iload_n hx hb dX10_run_154 rfl (lv_at hl 3 rfl) ?_
    refine lv_iadd hx hb dX10_run_155 ?_
    refine lv_istore (lv' := [(5, .int (((8 : Int32) * x2) + x3)), (4, .int y15), (0, .ref (eA E 0)), (2, .int x2), (3, .int x3)]) hx hb dX10_run_156 hl (by decide) rfl (fun ls hl => ?_)
    refine lv_aload_n hx hb dX10_run_158 rfl (lv_at hl 2 rfl) ?_
    refine r_get F hP i_X10 0 (me_0 E r19) rfl 50 (by decide) rfl lf_X10_132 rfl dX10_run_159 ?_
    refine lv_iload hx hb dX10_run_162 (lv_at hl 0 rfl) ?_
    refine lv_aload_n hx hb dX10_run_164 rfl (lv_at hl 2 rfl) ?_
    refine r_get F hP i_X10 0 (me_0 E r19) rfl 19 (by decide) rfl lf_X10_62 rfl dX10_run_165 ?_
    refine lv_iload hx hb dX10_run_168 (lv_at hl 1 rfl) ?_
    obtain ⟨y21, e22, h⟩ := Option.bind_eq_some_iff.mp h
    refine r_zald F hP 17 (me_17 E r19) e22 dX10_run_170 ?_
    refine lv_if_eq (tgt := 178) hx hb dX10_run_171 (by decide) (fun c23 => ?_) (fun c23 => ?_)
    · rw [if_pos c23] at h
      refine lv_aload_n hx hb dX10_run_178 rfl (lv_at hl 2 rfl) ?_
      refine r_get F hP i_X10 0 (me_0 E r19) rfl 16 (by decide) rfl lf_X10_52 rfl dX10_run_179 ?_
      refine lv_iload hx hb dX10_run_182 (lv_at hl 1 rfl) ?_
      obtain ⟨y24, e25, h⟩ := Option.bind_eq_some_iff.mp h
      refine r_iald F hP 14 (me_14 E r19) e25 dX10_run_184 ?_
      exact g_X10_run_185 F hA hRt hB122 r19 x2 x3 y15 (((8 : Int32) * x2) + x3) (((8 : Int32) * x2) + x3) y24 h _ (lv_sub hl [2, 3, 4, 1, 0] rfl) _ _ hP hD hS
    · rw [if_neg c23] at h
      refine lv_iconst (v := 0) hx hb dX10_run_174 (by decide) ?_
      refine lv_goto (tgt := 185) hx hb dX10_run_175 (by decide) ?_
      exact g_X10_run_185 F hA hRt hB122 r19 x2 x3 y15 (((8 : Int32) * x2) + x3) (((8 : Int32) * x2) + x3) (0 : Int32) h _ (lv_sub hl [2, 3, 4, 1, 0] rfl) _ _ hP hD hS
def f_X10_run_122 (K260 : QS → Int32 → Option (Int32 × QS)) : Nat → QS → Int32 → Int32 → Option (Int32 × QS)
  | 0 => fun _ _ _ => none
  | n + 1 => f_X10_run_122_b K260 (f_X10_run_122 K260 n)
theorem g_X10_run_122 {E : En} {p : Program} {l : Launch} {e : Env} {s : State} {m : MethodId} {args : Array Value} {below : List Frame} {meth : Method} {c : Code} {A : Nat → Prop} {Q : State → Prop} (F : Fx E p s m args meth c (yX10_run).cls cX10_run 7 (some .int)) (hA : ∀ z : Nat, s.heap.size ≤ z → A z) {o : Int32 × QS} (hRt : RtI (wM E) E p l e rm_X10_run s m args below meth c A Q cX10_run o) {K260 : QS → Int32 → Option (Int32 × QS)} (hK260 : ∀ (q : QS) (x2 : Int32), K260 q x2 = some o → ∀ ls : Array Slot, lv_has ls 7 [(0, .ref (eA E 0)), (2, .int x2)] → Wq (wM E) E p l e rm_X10_run s m args below meth c A 0 0 Q q (F0 m 260 ls [])) (n : Nat) : ∀ (q : QS) (x2 : Int32) (x3 : Int32), f_X10_run_122 K260 n q x2 x3 = some o → ∀ ls : Array Slot, lv_has ls 7 [(0, .ref (eA E 0)), (2, .int x2), (3, .int x3)] → Wq (wM E) E p l e rm_X10_run s m args below meth c A 0 0 Q q (F0 m 122 ls []) := by
  induction n with
  | zero => intro q x2 x3 h; cases h
  | succ n ih => intro q x2 x3 h; exact g_X10_run_122_b F hA hRt hK260 ih q x2 x3 h
def f_X10_run_260 (B112 : QS → Int32 → Option (Int32 × QS)) (q : QS) (x2 : Int32) : Option (Int32 × QS) :=
  B112 q (x2 + (1 : Int32))
set_option maxHeartbeats 4000000 in
set_option maxRecDepth 100000 in
theorem g_X10_run_260 {E : En} {p : Program} {l : Launch} {e : Env} {s : State} {m : MethodId} {args : Array Value} {below : List Frame} {meth : Method} {c : Code} {A : Nat → Prop} {Q : State → Prop} (F : Fx E p s m args meth c (yX10_run).cls cX10_run 7 (some .int)) (hA : ∀ z : Nat, s.heap.size ≤ z → A z) {o : Int32 × QS} (hRt : RtI (wM E) E p l e rm_X10_run s m args below meth c A Q cX10_run o) {B112 : QS → Int32 → Option (Int32 × QS)} (hB112 : ∀ (q : QS) (x2 : Int32), B112 q x2 = some o → ∀ ls : Array Slot, lv_has ls 7 [(0, .ref (eA E 0)), (2, .int x2)] → Wq (wM E) E p l e rm_X10_run s m args below meth c A 0 0 Q q (F0 m 112 ls [])) (q : QS) (x2 : Int32) (h : f_X10_run_260 B112 q x2 = some o) (ls : Array Slot) (hl : lv_has ls 7 [(0, .ref (eA E 0)), (2, .int x2)]) : Wq (wM E) E p l e rm_X10_run s m args below meth c A 0 0 Q q (F0 m 260 ls []) := by
  intro H locs hP hD hS
  have hx := F.1
  have hb := F.2.1
  unfold f_X10_run_260 at h
  refine lv_iinc (v := (x2 + (1 : Int32))) (lv' := [(2, .int (x2 + (1 : Int32))), (0, .ref (eA E 0))]) hx hb dX10_run_260 hl (k := 1) rfl rfl (by decide) rfl (fun ls hl => ?_)
  refine lv_goto (tgt := 112) hx hb dX10_run_263 (by decide) ?_
  exact hB112 q (x2 + (1 : Int32)) h _ (lv_sub hl [1, 0] rfl) _ _ hP hD hS
def f_X10_run_112_b (B112 : QS → Int32 → Option (Int32 × QS)) (q : QS) (x2 : Int32) : Option (Int32 × QS) :=
  if (qF q 11) ≤ x2 then
    some ((qF q 10), q)
  else
    f_X10_run_122 (f_X10_run_260 B112) FU q x2 (0 : Int32)
set_option maxHeartbeats 4000000 in
set_option maxRecDepth 100000 in
theorem g_X10_run_112_b {E : En} {p : Program} {l : Launch} {e : Env} {s : State} {m : MethodId} {args : Array Value} {below : List Frame} {meth : Method} {c : Code} {A : Nat → Prop} {Q : State → Prop} (F : Fx E p s m args meth c (yX10_run).cls cX10_run 7 (some .int)) (hA : ∀ z : Nat, s.heap.size ≤ z → A z) {o : Int32 × QS} (hRt : RtI (wM E) E p l e rm_X10_run s m args below meth c A Q cX10_run o) {B112 : QS → Int32 → Option (Int32 × QS)} (hB112 : ∀ (q : QS) (x2 : Int32), B112 q x2 = some o → ∀ ls : Array Slot, lv_has ls 7 [(0, .ref (eA E 0)), (2, .int x2)] → Wq (wM E) E p l e rm_X10_run s m args below meth c A 0 0 Q q (F0 m 112 ls [])) (q : QS) (x2 : Int32) (h : f_X10_run_112_b B112 q x2 = some o) (ls : Array Slot) (hl : lv_has ls 7 [(0, .ref (eA E 0)), (2, .int x2)]) : Wq (wM E) E p l e rm_X10_run s m args below meth c A 0 0 Q q (F0 m 112 ls []) := by
  intro H locs hP hD hS
  have hx := F.1
  have hb := F.2.1
  unfold f_X10_run_112_b at h
  refine lv_iload_n hx hb dX10_run_112 rfl (lv_at hl 1 rfl) ?_
  refine lv_aload_n hx hb dX10_run_113 rfl (lv_at hl 0 rfl) ?_
  refine r_get F hP i_X10 0 (me_0 E q) rfl 48 (by decide) rfl lf_X10_163 rfl dX10_run_114 ?_
  refine lv_icmp_ge (tgt := 266) hx hb dX10_run_117 (by decide) (fun c13 => ?_) (fun c13 => ?_)
  · rw [if_pos c13] at h
    refine lv_aload_n hx hb dX10_run_266 rfl (lv_at hl 0 rfl) ?_
    refine r_get F hP i_X10 0 (me_0 E q) rfl 41 (by decide) rfl lf_X10_280 rfl dX10_run_267 ?_
    cases h
    exact hRt _ _ dX10_run_270 _ _ hP hD hS
  · rw [if_neg c13] at h
    refine lv_iconst (v := 0) hx hb dX10_run_120 (by decide) ?_
    refine lv_istore_n (lv' := [(3, .int (0 : Int32)), (0, .ref (eA E 0)), (2, .int x2)]) hx hb dX10_run_121 rfl hl (by decide) rfl (fun ls hl => ?_)
    exact g_X10_run_122 F hA hRt (g_X10_run_260 F hA hRt hB112) FU q x2 (0 : Int32) h _ (lv_sub hl [1, 2, 0] rfl) _ _ hP hD hS
def f_X10_run_112 : Nat → QS → Int32 → Option (Int32 × QS)
  | 0 => fun _ _ => none
  | n + 1 => f_X10_run_112_b (f_X10_run_112 n)
theorem g_X10_run_112 {E : En} {p : Program} {l : Launch} {e : Env} {s : State} {m : MethodId} {args : Array Value} {below : List Frame} {meth : Method} {c : Code} {A : Nat → Prop} {Q : State → Prop} (F : Fx E p s m args meth c (yX10_run).cls cX10_run 7 (some .int)) (hA : ∀ z : Nat, s.heap.size ≤ z → A z) {o : Int32 × QS} (hRt : RtI (wM E) E p l e rm_X10_run s m args below meth c A Q cX10_run o) (n : Nat) : ∀ (q : QS) (x2 : Int32), f_X10_run_112 n q x2 = some o → ∀ ls : Array Slot, lv_has ls 7 [(0, .ref (eA E 0)), (2, .int x2)] → Wq (wM E) E p l e rm_X10_run s m args below meth c A 0 0 Q q (F0 m 112 ls []) := by
  induction n with
  | zero => intro q x2 h; cases h
  | succ n ih => intro q x2 h; exact g_X10_run_112_b F hA hRt ih q x2 h
def f_X10_run_99 (q : QS) (t1 : Int32) : Option (Int32 × QS) :=
  f_X10_run_112 FU (uF (uF q 11 t1) 12 (qF (uF q 11 t1) 4)) (0 : Int32)
set_option maxHeartbeats 4000000 in
set_option maxRecDepth 100000 in
theorem g_X10_run_99 {E : En} {p : Program} {l : Launch} {e : Env} {s : State} {m : MethodId} {args : Array Value} {below : List Frame} {meth : Method} {c : Code} {A : Nat → Prop} {Q : State → Prop} (F : Fx E p s m args meth c (yX10_run).cls cX10_run 7 (some .int)) (hA : ∀ z : Nat, s.heap.size ≤ z → A z) {o : Int32 × QS} (hRt : RtI (wM E) E p l e rm_X10_run s m args below meth c A Q cX10_run o) (q : QS) (t1 : Int32) (h : f_X10_run_99 q t1 = some o) (ls : Array Slot) (hl : lv_has ls 7 [(0, .ref (eA E 0))]) : Wq (wM E) E p l e rm_X10_run s m args below meth c A 0 0 Q q (F0 m 99 ls [.int t1, .ref (eA E 0)]) := by
  intro H locs hP hD hS
  have hx := F.1
  have hb := F.2.1
  unfold f_X10_run_99 at h
  refine r_put (ty := .int) (q1 := (uF q 11 t1)) F hP hD hS i_X10 tyX10_ok nmX10 0 (me_0 E q) rfl 48 (by decide) rfl lf_X10_163 rfl (by decide +kernel) rfl rfl (Nat.le_of_ble_eq_true rfl) (mf_0_11 E q t1) dX10_run_99 ?_
  intro H locs hP hD hS
  refine lv_aload_n hx hb dX10_run_102 rfl (lv_at hl 0 rfl) ?_
  refine lv_aload_n hx hb dX10_run_103 rfl (lv_at hl 0 rfl) ?_
  refine r_get F hP i_X10 0 (me_0 E (uF q 11 t1)) rfl 29 (by decide) rfl lf_X10_150 rfl dX10_run_104 ?_
  refine r_put (ty := .int) (q1 := (uF (uF q 11 t1) 12 (qF (uF q 11 t1) 4))) F hP hD hS i_X10 tyX10_ok nmX10 0 (me_0 E (uF q 11 t1)) rfl 49 (by decide) rfl lf_X10_305 rfl (by decide +kernel) rfl rfl (Nat.le_of_ble_eq_true rfl) (mf_0_12 E (uF q 11 t1) (qF (uF q 11 t1) 4)) dX10_run_107 ?_
  intro H locs hP hD hS
  refine lv_iconst (v := 0) hx hb dX10_run_110 (by decide) ?_
  refine lv_istore_n (lv' := [(2, .int (0 : Int32)), (0, .ref (eA E 0))]) hx hb dX10_run_111 rfl hl (by decide) rfl (fun ls hl => ?_)
  exact g_X10_run_112 F hA hRt FU (uF (uF q 11 t1) 12 (qF (uF q 11 t1) 4)) (0 : Int32) h _ (lv_sub hl [1, 0] rfl) _ _ hP hD hS
def f_X10_run_77 (q : QS) (t1 : Int32) : Option (Int32 × QS) :=
  if (64 : Int32) ≤ (qF (uF q 10 t1) 10) then
    f_X10_run_99 (uF q 10 t1) (64 : Int32)
  else
    f_X10_run_99 (uF q 10 t1) (qF (uF q 10 t1) 10)
set_option maxHeartbeats 4000000 in
set_option maxRecDepth 100000 in
theorem g_X10_run_77 {E : En} {p : Program} {l : Launch} {e : Env} {s : State} {m : MethodId} {args : Array Value} {below : List Frame} {meth : Method} {c : Code} {A : Nat → Prop} {Q : State → Prop} (F : Fx E p s m args meth c (yX10_run).cls cX10_run 7 (some .int)) (hA : ∀ z : Nat, s.heap.size ≤ z → A z) {o : Int32 × QS} (hRt : RtI (wM E) E p l e rm_X10_run s m args below meth c A Q cX10_run o) (q : QS) (t1 : Int32) (h : f_X10_run_77 q t1 = some o) (ls : Array Slot) (hl : lv_has ls 7 [(0, .ref (eA E 0))]) : Wq (wM E) E p l e rm_X10_run s m args below meth c A 0 0 Q q (F0 m 77 ls [.int t1, .ref (eA E 0)]) := by
  intro H locs hP hD hS
  have hx := F.1
  have hb := F.2.1
  unfold f_X10_run_77 at h
  refine r_put (ty := .int) (q1 := (uF q 10 t1)) F hP hD hS i_X10 tyX10_ok nmX10 0 (me_0 E q) rfl 41 (by decide) rfl lf_X10_280 rfl (by decide +kernel) rfl rfl (Nat.le_of_ble_eq_true rfl) (mf_0_10 E q t1) dX10_run_77 ?_
  intro H locs hP hD hS
  refine lv_aload_n hx hb dX10_run_80 rfl (lv_at hl 0 rfl) ?_
  refine lv_aload_n hx hb dX10_run_81 rfl (lv_at hl 0 rfl) ?_
  refine r_get F hP i_X10 0 (me_0 E (uF q 10 t1)) rfl 41 (by decide) rfl lf_X10_280 rfl dX10_run_82 ?_
  refine lv_bipush (v := 64) hx hb dX10_run_85 (by decide) ?_
  refine lv_icmp_ge (tgt := 97) hx hb dX10_run_87 (by decide) (fun c12 => ?_) (fun c12 => ?_)
  · rw [if_pos c12] at h
    refine lv_bipush (v := 64) hx hb dX10_run_97 (by decide) ?_
    exact g_X10_run_99 F hA hRt (uF q 10 t1) (64 : Int32) h _ (lv_sub hl [0] rfl) _ _ hP hD hS
  · rw [if_neg c12] at h
    refine lv_aload_n hx hb dX10_run_90 rfl (lv_at hl 0 rfl) ?_
    refine r_get F hP i_X10 0 (me_0 E (uF q 10 t1)) rfl 41 (by decide) rfl lf_X10_280 rfl dX10_run_91 ?_
    refine lv_goto (tgt := 99) hx hb dX10_run_94 (by decide) ?_
    exact g_X10_run_99 F hA hRt (uF q 10 t1) (qF (uF q 10 t1) 10) h _ (lv_sub hl [0] rfl) _ _ hP hD hS
def f_X10_run_73 (q : QS) : Option (Int32 × QS) :=
  f_X10_run_77 q (qF q 10)
set_option maxHeartbeats 4000000 in
set_option maxRecDepth 100000 in
theorem g_X10_run_73 {E : En} {p : Program} {l : Launch} {e : Env} {s : State} {m : MethodId} {args : Array Value} {below : List Frame} {meth : Method} {c : Code} {A : Nat → Prop} {Q : State → Prop} (F : Fx E p s m args meth c (yX10_run).cls cX10_run 7 (some .int)) (hA : ∀ z : Nat, s.heap.size ≤ z → A z) {o : Int32 × QS} (hRt : RtI (wM E) E p l e rm_X10_run s m args below meth c A Q cX10_run o) (q : QS) (h : f_X10_run_73 q = some o) (ls : Array Slot) (hl : lv_has ls 7 [(0, .ref (eA E 0))]) : Wq (wM E) E p l e rm_X10_run s m args below meth c A 0 0 Q q (F0 m 73 ls [.ref (eA E 0)]) := by
  intro H locs hP hD hS
  have hx := F.1
  have hb := F.2.1
  unfold f_X10_run_73 at h
  refine lv_aload_n hx hb dX10_run_73 rfl (lv_at hl 0 rfl) ?_
  refine r_get F hP i_X10 0 (me_0 E q) rfl 41 (by decide) rfl lf_X10_280 rfl dX10_run_74 ?_
  exact g_X10_run_77 F hA hRt q (qF q 10) h _ (lv_sub hl [0] rfl) _ _ hP hD hS
def f_X10_run_47 (q : QS) : Option (Int32 × QS) :=
  if (qF q 7) < 0 then
    f_X10_run_73 q
  else
    if (qF q 10) ≤ (qF q 7) then
      f_X10_run_73 q
    else
      f_X10_run_77 q (qF q 7)
set_option maxHeartbeats 4000000 in
set_option maxRecDepth 100000 in
theorem g_X10_run_47 {E : En} {p : Program} {l : Launch} {e : Env} {s : State} {m : MethodId} {args : Array Value} {below : List Frame} {meth : Method} {c : Code} {A : Nat → Prop} {Q : State → Prop} (F : Fx E p s m args meth c (yX10_run).cls cX10_run 7 (some .int)) (hA : ∀ z : Nat, s.heap.size ≤ z → A z) {o : Int32 × QS} (hRt : RtI (wM E) E p l e rm_X10_run s m args below meth c A Q cX10_run o) (q : QS) (h : f_X10_run_47 q = some o) (ls : Array Slot) (hl : lv_has ls 7 [(0, .ref (eA E 0))]) : Wq (wM E) E p l e rm_X10_run s m args below meth c A 0 0 Q q (F0 m 47 ls []) := by
  intro H locs hP hD hS
  have hx := F.1
  have hb := F.2.1
  unfold f_X10_run_47 at h
  refine lv_aload_n hx hb dX10_run_47 rfl (lv_at hl 0 rfl) ?_
  refine lv_aload_n hx hb dX10_run_48 rfl (lv_at hl 0 rfl) ?_
  refine r_get F hP i_X10 0 (me_0 E q) rfl 36 (by decide) rfl lf_X10_105 rfl dX10_run_49 ?_
  refine lv_if_lt (tgt := 73) hx hb dX10_run_52 (by decide) (fun c11 => ?_) (fun c11 => ?_)
  · rw [if_pos c11] at h
    exact g_X10_run_73 F hA hRt q h _ (lv_sub hl [0] rfl) _ _ hP hD hS
  · rw [if_neg c11] at h
    refine lv_aload_n hx hb dX10_run_55 rfl (lv_at hl 0 rfl) ?_
    refine r_get F hP i_X10 0 (me_0 E q) rfl 36 (by decide) rfl lf_X10_105 rfl dX10_run_56 ?_
    refine lv_aload_n hx hb dX10_run_59 rfl (lv_at hl 0 rfl) ?_
    refine r_get F hP i_X10 0 (me_0 E q) rfl 41 (by decide) rfl lf_X10_280 rfl dX10_run_60 ?_
    refine lv_icmp_ge (tgt := 73) hx hb dX10_run_63 (by decide) (fun c41 => ?_) (fun c41 => ?_)
    · rw [if_pos c41] at h
      exact g_X10_run_73 F hA hRt q h _ (lv_sub hl [0] rfl) _ _ hP hD hS
    · rw [if_neg c41] at h
      refine lv_aload_n hx hb dX10_run_66 rfl (lv_at hl 0 rfl) ?_
      refine r_get F hP i_X10 0 (me_0 E q) rfl 36 (by decide) rfl lf_X10_105 rfl dX10_run_67 ?_
      refine lv_goto (tgt := 77) hx hb dX10_run_70 (by decide) ?_
      exact g_X10_run_77 F hA hRt q (qF q 7) h _ (lv_sub hl [0] rfl) _ _ hP hD hS
def f_X10_run_36 (q : QS) : Option (Int32 × QS) :=
  if (qF q 6) ≤ 0 then
    f_X10_run_47 q
  else
    (f_X10_sort q).bind fun r42 =>
    f_X10_run_47 r42
set_option maxHeartbeats 4000000 in
set_option maxRecDepth 100000 in
theorem g_X10_run_36 {E : En} {p : Program} {l : Launch} {e : Env} {s : State} {m : MethodId} {args : Array Value} {below : List Frame} {meth : Method} {c : Code} {A : Nat → Prop} {Q : State → Prop} (F : Fx E p s m args meth c (yX10_run).cls cX10_run 7 (some .int)) (hA : ∀ z : Nat, s.heap.size ≤ z → A z) {o : Int32 × QS} (hRt : RtI (wM E) E p l e rm_X10_run s m args below meth c A Q cX10_run o) (q : QS) (h : f_X10_run_36 q = some o) (ls : Array Slot) (hl : lv_has ls 7 [(0, .ref (eA E 0))]) : Wq (wM E) E p l e rm_X10_run s m args below meth c A 0 0 Q q (F0 m 36 ls []) := by
  intro H locs hP hD hS
  have hx := F.1
  have hb := F.2.1
  unfold f_X10_run_36 at h
  refine lv_aload_n hx hb dX10_run_36 rfl (lv_at hl 0 rfl) ?_
  refine r_get F hP i_X10 0 (me_0 E q) rfl 33 (by decide) rfl lf_X10_156 rfl dX10_run_37 ?_
  refine lv_if_le (tgt := 47) hx hb dX10_run_40 (by decide) (fun c10 => ?_) (fun c10 => ?_)
  · rw [if_pos c10] at h
    exact g_X10_run_47 F hA hRt q h _ (lv_sub hl [0] rfl) _ _ hP hD hS
  · rw [if_neg c10] at h
    refine lv_aload_n hx hb dX10_run_43 rfl (lv_at hl 0 rfl) ?_
    obtain ⟨r42, e43, h⟩ := Option.bind_eq_some_iff.mp h
    refine q_callV (As := []) (rest := []) F hA hP hD hS (c_X10_sort (E := E) (l := l) q e43) k_X10_sort in_X10_sort se_X10_sort lm_X10_302 0 (me_0 E q) rfl ⟨rfl, rfl⟩ ⟨by decide, by decide⟩ rfl hl.1 rfl (Nat.le_of_ble_eq_true rfl) dX10_run_44 ⟨by decide, by decide⟩ ?_
    intro H locs hP hD hS
    exact g_X10_run_47 F hA hRt r42 h _ (lv_sub hl [0] rfl) _ _ hP hD hS
def f_X10_run_0 (q : QS) : Option (Int32 × QS) :=
  (f_X10_refusal q).bind fun r1 =>
  if 0 ≤ r1.1 then
    (f_X10_gatherAll r1.2).bind fun r4 =>
    if r4.1 = 0 then
      some ((-2 : Int32), r4.2)
    else
      (f_X10_makeRows r4.2).bind fun r7 =>
      if (qF r7 8) = 0 then
        f_X10_run_36 r7
      else
        (f_X10_makeDistinct r7).bind fun r44 =>
        f_X10_run_36 r44
  else
    some (r1.1, r1.2)
set_option maxHeartbeats 4000000 in
set_option maxRecDepth 100000 in
theorem g_X10_run_0 {E : En} {p : Program} {l : Launch} {e : Env} {s : State} {m : MethodId} {args : Array Value} {below : List Frame} {meth : Method} {c : Code} {A : Nat → Prop} {Q : State → Prop} (F : Fx E p s m args meth c (yX10_run).cls cX10_run 7 (some .int)) (hA : ∀ z : Nat, s.heap.size ≤ z → A z) {o : Int32 × QS} (hRt : RtI (wM E) E p l e rm_X10_run s m args below meth c A Q cX10_run o) (q : QS) (h : f_X10_run_0 q = some o) (ls : Array Slot) (hl : lv_has ls 7 [(0, .ref (eA E 0))]) : Wq (wM E) E p l e rm_X10_run s m args below meth c A 0 0 Q q (F0 m 0 ls []) := by
  intro H locs hP hD hS
  have hx := F.1
  have hb := F.2.1
  unfold f_X10_run_0 at h
  refine lv_aload_n hx hb dX10_run_0 rfl (lv_at hl 0 rfl) ?_
  obtain ⟨r1, e2, h⟩ := Option.bind_eq_some_iff.mp h
  refine q_callV (As := []) (rest := []) F hA hP hD hS (c_X10_refusal (E := E) (l := l) q e2) k_X10_refusal in_X10_refusal se_X10_refusal lm_X10_289 0 (me_0 E q) rfl ⟨rfl, rfl⟩ ⟨by decide, by decide⟩ rfl hl.1 rfl (Nat.le_of_ble_eq_true rfl) dX10_run_1 ⟨by decide, by decide⟩ ?_
  intro H locs hP hD hS
  refine lv_istore_n (lv' := [(1, .int r1.1), (0, .ref (eA E 0))]) hx hb dX10_run_4 rfl hl (by decide) rfl (fun ls hl => ?_)
  refine lv_iload_n hx hb dX10_run_5 rfl (lv_at hl 0 rfl) ?_
  refine lv_if_ge (tgt := 11) hx hb dX10_run_6 (by decide) (fun c3 => ?_) (fun c3 => ?_)
  · rw [if_pos c3] at h
    refine lv_aload_n hx hb dX10_run_11 rfl (lv_at hl 1 rfl) ?_
    obtain ⟨r4, e5, h⟩ := Option.bind_eq_some_iff.mp h
    refine q_callV (As := []) (rest := []) F hA hP hD hS (c_X10_gatherAll (E := E) (l := l) r1.2 e5) k_X10_gatherAll in_X10_gatherAll se_X10_gatherAll lm_X10_293 0 (me_0 E r1.2) rfl ⟨rfl, rfl⟩ ⟨by decide, by decide⟩ rfl hl.1 rfl (Nat.le_of_ble_eq_true rfl) dX10_run_12 ⟨by decide, by decide⟩ ?_
    intro H locs hP hD hS
    refine lv_if_ne (tgt := 21) hx hb dX10_run_15 (by decide) (fun c6 => ?_) (fun c6 => ?_)
    · rw [if_neg c6] at h
      refine lv_aload_n hx hb dX10_run_21 rfl (lv_at hl 1 rfl) ?_
      obtain ⟨r7, e8, h⟩ := Option.bind_eq_some_iff.mp h
      refine q_callV (As := []) (rest := []) F hA hP hD hS (c_X10_makeRows (E := E) (l := l) r4.2 e8) k_X10_makeRows in_X10_makeRows se_X10_makeRows lm_X10_296 0 (me_0 E r4.2) rfl ⟨rfl, rfl⟩ ⟨by decide, by decide⟩ rfl hl.1 rfl (Nat.le_of_ble_eq_true rfl) dX10_run_22 ⟨by decide, by decide⟩ ?_
      intro H locs hP hD hS
      refine lv_aload_n hx hb dX10_run_25 rfl (lv_at hl 1 rfl) ?_
      refine r_get F hP i_X10 0 (me_0 E r7) rfl 37 (by decide) rfl lf_X10_159 rfl dX10_run_26 ?_
      refine lv_if_eq (tgt := 36) hx hb dX10_run_29 (by decide) (fun c9 => ?_) (fun c9 => ?_)
      · rw [if_pos c9] at h
        exact g_X10_run_36 F hA hRt r7 h _ (lv_sub hl [1] rfl) _ _ hP hD hS
      · rw [if_neg c9] at h
        refine lv_aload_n hx hb dX10_run_32 rfl (lv_at hl 1 rfl) ?_
        obtain ⟨r44, e45, h⟩ := Option.bind_eq_some_iff.mp h
        refine q_callV (As := []) (rest := []) F hA hP hD hS (c_X10_makeDistinct (E := E) (l := l) r7 e45) k_X10_makeDistinct in_X10_makeDistinct se_X10_makeDistinct lm_X10_299 0 (me_0 E r7) rfl ⟨rfl, rfl⟩ ⟨by decide, by decide⟩ rfl hl.1 rfl (Nat.le_of_ble_eq_true rfl) dX10_run_33 ⟨by decide, by decide⟩ ?_
        intro H locs hP hD hS
        exact g_X10_run_36 F hA hRt r44 h _ (lv_sub hl [1] rfl) _ _ hP hD hS
    · rw [if_pos c6] at h
      refine lv_bipush (v := (-2)) hx hb dX10_run_18 (by decide) ?_
      cases h
      exact hRt _ _ dX10_run_20 _ _ hP hD hS
  · rw [if_neg c3] at h
    refine lv_iload_n hx hb dX10_run_9 rfl (lv_at hl 0 rfl) ?_
    cases h
    exact hRt _ _ dX10_run_10 _ _ hP hD hS
def f_X10_run (q : QS) : Option (Int32 × QS) := f_X10_run_0 q
set_option maxRecDepth 100000 in
theorem c_X10_run {E : En} {l : Launch} (q : QS) {o : Int32 × QS} (h : f_X10_run q = some o) : Ct (wM E) E l yX10_run (wy yX10_run cX10_run 7 (some .int)) rm_X10_run q o.2 [.ref (eA E 0)] (some (.int o.1)) :=
  ct_I (o := o) (by decide +kernel) rfl (fun p e s m below meth c A Q F hA hRt H locs hP hD hS => en_W [.ref (eA E 0)] (Nat.le_of_ble_eq_true rfl) (fun ls hl => g_X10_run_0 F hA hRt q h ls (lv_sub hl [0] rfl) H locs hP hD hS))
def rm_X10_isKept : Room := { frames := 1, cells := 0, slots := 0, locals := 22 }
def f_X10_isKept_0 (q : QS) (x1 : Int32) (x2 : Int32) : Option (Int32) :=
  (f_X10_in x1 (0 : Int32) ((qF q 11) - (1 : Int32))).bind fun r1 =>
  if r1 = 0 then
    some (0 : Int32)
  else
    (f_X10_in x2 (0 : Int32) ((qF q 12) - (1 : Int32))).bind fun r4 =>
    if r4 = 0 then
      some (0 : Int32)
    else
      some (1 : Int32)
set_option maxHeartbeats 4000000 in
set_option maxRecDepth 100000 in
theorem g_X10_isKept_0 {E : En} {p : Program} {l : Launch} {e : Env} {s : State} {m : MethodId} {args : Array Value} {below : List Frame} {meth : Method} {c : Code} {A : Nat → Prop} {Q : State → Prop} (F : Fx E p s m args meth c (yX10_isKept).cls cX10_isKept 3 (some .boolean)) (hA : ∀ z : Nat, s.heap.size ≤ z → A z) {q : QS} {o : Int32} (hRt : RtZ (wM E) E p l e rm_X10_isKept s m args below meth c A Q cX10_isKept (o, q)) (x1 : Int32) (x2 : Int32) (h : f_X10_isKept_0 q x1 x2 = some o) (ls : Array Slot) (hl : lv_has ls 3 [(0, .ref (eA E 0)), (1, .int x1), (2, .int x2)]) : Wq (wM E) E p l e rm_X10_isKept s m args below meth c A 0 0 Q q (F0 m 0 ls []) := by
  intro H locs hP hD hS
  have hx := F.1
  have hb := F.2.1
  unfold f_X10_isKept_0 at h
  refine lv_iload_n hx hb dX10_isKept_0 rfl (lv_at hl 1 rfl) ?_
  refine lv_iconst (v := 0) hx hb dX10_isKept_1 (by decide) ?_
  refine lv_aload_n hx hb dX10_isKept_2 rfl (lv_at hl 0 rfl) ?_
  refine r_get F hP i_X10 0 (me_0 E q) rfl 48 (by decide) rfl lf_X10_163 rfl dX10_isKept_3 ?_
  refine lv_iconst (v := 1) hx hb dX10_isKept_6 (by decide) ?_
  refine lv_isub hx hb dX10_isKept_7 ?_
  obtain ⟨r1, e2, h⟩ := Option.bind_eq_some_iff.mp h
  refine q_callS (As := [.int x1, .int (0 : Int32), .int ((qF q 11) - (1 : Int32))]) (rest := []) F hA hP hD hS (c_X10_in (E := E) (l := l) q x1 (0 : Int32) ((qF q 11) - (1 : Int32)) e2) k_X10_in st_X10_in lm_X10_169 ⟨rfl, rfl⟩ ⟨by decide, by decide⟩ rfl hl.1 rfl (Nat.le_of_ble_eq_true rfl) dX10_isKept_8 ⟨by decide, by decide⟩ ?_
  intro H locs hP hD hS
  refine lv_if_eq (tgt := 32) hx hb dX10_isKept_11 (by decide) (fun c3 => ?_) (fun c3 => ?_)
  · rw [if_pos c3] at h
    refine lv_iconst (v := 0) hx hb dX10_isKept_32 (by decide) ?_
    cases h
    exact hRt _ _ zz_0 dX10_isKept_33 _ _ hP hD hS
  · rw [if_neg c3] at h
    refine lv_iload_n hx hb dX10_isKept_14 rfl (lv_at hl 2 rfl) ?_
    refine lv_iconst (v := 0) hx hb dX10_isKept_15 (by decide) ?_
    refine lv_aload_n hx hb dX10_isKept_16 rfl (lv_at hl 0 rfl) ?_
    refine r_get F hP i_X10 0 (me_0 E q) rfl 49 (by decide) rfl lf_X10_305 rfl dX10_isKept_17 ?_
    refine lv_iconst (v := 1) hx hb dX10_isKept_20 (by decide) ?_
    refine lv_isub hx hb dX10_isKept_21 ?_
    obtain ⟨r4, e5, h⟩ := Option.bind_eq_some_iff.mp h
    refine q_callS (As := [.int x2, .int (0 : Int32), .int ((qF q 12) - (1 : Int32))]) (rest := []) F hA hP hD hS (c_X10_in (E := E) (l := l) q x2 (0 : Int32) ((qF q 12) - (1 : Int32)) e5) k_X10_in st_X10_in lm_X10_169 ⟨rfl, rfl⟩ ⟨by decide, by decide⟩ rfl hl.1 rfl (Nat.le_of_ble_eq_true rfl) dX10_isKept_22 ⟨by decide, by decide⟩ ?_
    intro H locs hP hD hS
    refine lv_if_eq (tgt := 32) hx hb dX10_isKept_25 (by decide) (fun c6 => ?_) (fun c6 => ?_)
    · rw [if_pos c6] at h
      refine lv_iconst (v := 0) hx hb dX10_isKept_32 (by decide) ?_
      cases h
      exact hRt _ _ zz_0 dX10_isKept_33 _ _ hP hD hS
    · rw [if_neg c6] at h
      refine lv_iconst (v := 1) hx hb dX10_isKept_28 (by decide) ?_
      refine lv_goto (tgt := 33) hx hb dX10_isKept_29 (by decide) ?_
      cases h
      exact hRt _ _ zz_1 dX10_isKept_33 _ _ hP hD hS
def f_X10_isKept (q : QS) (x1 : Int32) (x2 : Int32) : Option (Int32) := f_X10_isKept_0 q x1 x2
set_option maxRecDepth 100000 in
theorem c_X10_isKept {E : En} {l : Launch} (q : QS) (x1 : Int32) (x2 : Int32) {o : Int32} (h : f_X10_isKept q x1 x2 = some o) : Ct (wM E) E l yX10_isKept (wy yX10_isKept cX10_isKept 3 (some .boolean)) rm_X10_isKept q q [.ref (eA E 0), .int x1, .int x2] (some (.int o)) :=
  ct_Z (o := (o, q)) (by decide +kernel) (fun p e s m below meth c A Q F hA hRt H locs hP hD hS => en_W [.ref (eA E 0), .int x1, .int x2] (Nat.le_of_ble_eq_true rfl) (fun ls hl => g_X10_isKept_0 F hA hRt x1 x2 h ls (lv_sub hl [0, 1, 2] rfl) H locs hP hD hS))
def rm_X10_kind : Room := { frames := 2, cells := 0, slots := 0, locals := 44 }
def f_X10_kind_0 (q : QS) (x1 : Int32) (x2 : Int32) : Option (Int32) :=
  (f_X10_isKept q x1 x2).bind fun r1 =>
  if r1 = 0 then
    some (-1 : Int32)
  else
    (rd (qI q 38) 512 (((8 : Int32) * x1) + x2)).bind fun y4 =>
    some y4
set_option maxHeartbeats 4000000 in
set_option maxRecDepth 100000 in
theorem g_X10_kind_0 {E : En} {p : Program} {l : Launch} {e : Env} {s : State} {m : MethodId} {args : Array Value} {below : List Frame} {meth : Method} {c : Code} {A : Nat → Prop} {Q : State → Prop} (F : Fx E p s m args meth c (yX10_kind).cls cX10_kind 3 (some .int)) (hA : ∀ z : Nat, s.heap.size ≤ z → A z) {q : QS} {o : Int32} (hRt : RtI (wM E) E p l e rm_X10_kind s m args below meth c A Q cX10_kind (o, q)) (x1 : Int32) (x2 : Int32) (h : f_X10_kind_0 q x1 x2 = some o) (ls : Array Slot) (hl : lv_has ls 3 [(0, .ref (eA E 0)), (1, .int x1), (2, .int x2)]) : Wq (wM E) E p l e rm_X10_kind s m args below meth c A 0 0 Q q (F0 m 0 ls []) := by
  intro H locs hP hD hS
  have hx := F.1
  have hb := F.2.1
  unfold f_X10_kind_0 at h
  refine lv_aload_n hx hb dX10_kind_0 rfl (lv_at hl 0 rfl) ?_
  refine lv_iload_n hx hb dX10_kind_1 rfl (lv_at hl 1 rfl) ?_
  refine lv_iload_n hx hb dX10_kind_2 rfl (lv_at hl 2 rfl) ?_
  obtain ⟨r1, e2, h⟩ := Option.bind_eq_some_iff.mp h
  refine q_callV (As := [.int x1, .int x2]) (rest := []) F hA hP hD hS (c_X10_isKept (E := E) (l := l) q x1 x2 e2) k_X10_isKept in_X10_isKept se_X10_isKept lm_X10_308 0 (me_0 E q) rfl ⟨rfl, rfl⟩ ⟨by decide, by decide⟩ rfl hl.1 rfl (Nat.le_of_ble_eq_true rfl) dX10_kind_3 ⟨by decide, by decide⟩ ?_
  intro H locs hP hD hS
  refine lv_if_eq (tgt := 23) hx hb dX10_kind_6 (by decide) (fun c3 => ?_) (fun c3 => ?_)
  · rw [if_pos c3] at h
    refine lv_iconst (v := (-1)) hx hb dX10_kind_23 (by decide) ?_
    cases h
    exact hRt _ _ dX10_kind_24 _ _ hP hD hS
  · rw [if_neg c3] at h
    refine lv_aload_n hx hb dX10_kind_9 rfl (lv_at hl 0 rfl) ?_
    refine r_get F hP i_X10 0 (me_0 E q) rfl 50 (by decide) rfl lf_X10_132 rfl dX10_kind_10 ?_
    refine lv_bipush (v := 8) hx hb dX10_kind_13 (by decide) ?_
    refine lv_iload_n hx hb dX10_kind_15 rfl (lv_at hl 1 rfl) ?_
    refine lv_imul hx hb dX10_kind_16 ?_
    refine lv_iload_n hx hb dX10_kind_17 rfl (lv_at hl 2 rfl) ?_
    refine lv_iadd hx hb dX10_kind_18 ?_
    obtain ⟨y4, e5, h⟩ := Option.bind_eq_some_iff.mp h
    refine r_bald F hP 38 (me_38 E q) e5 dX10_kind_19 ?_
    refine lv_goto (tgt := 24) hx hb dX10_kind_20 (by decide) ?_
    cases h
    exact hRt _ _ dX10_kind_24 _ _ hP hD hS
def f_X10_kind (q : QS) (x1 : Int32) (x2 : Int32) : Option (Int32) := f_X10_kind_0 q x1 x2
set_option maxRecDepth 100000 in
theorem c_X10_kind {E : En} {l : Launch} (q : QS) (x1 : Int32) (x2 : Int32) {o : Int32} (h : f_X10_kind q x1 x2 = some o) : Ct (wM E) E l yX10_kind (wy yX10_kind cX10_kind 3 (some .int)) rm_X10_kind q q [.ref (eA E 0), .int x1, .int x2] (some (.int o)) :=
  ct_I (o := (o, q)) (by decide +kernel) rfl (fun p e s m below meth c A Q F hA hRt H locs hP hD hS => en_W [.ref (eA E 0), .int x1, .int x2] (Nat.le_of_ble_eq_true rfl) (fun ls hl => g_X10_kind_0 F hA hRt x1 x2 h ls (lv_sub hl [0, 1, 2] rfl) H locs hP hD hS))
def rm_X10_value : Room := { frames := 2, cells := 0, slots := 0, locals := 44 }
def f_X10_value_0 (q : QS) (x1 : Int32) (x2 : Int32) : Option (Int64) :=
  (f_X10_isKept q x1 x2).bind fun r1 =>
  if r1 = 0 then
    some (0 : Int64)
  else
    (rd (qI q 38) 512 (((8 : Int32) * x1) + x2)).bind fun y4 =>
    if y4 = 0 then
      some (0 : Int64)
    else
      (rd (qI q 38) 512 (((8 : Int32) * x1) + x2)).bind fun y7 =>
      if y7 = (2 : Int32) then
        (rd (qI q 40) 512 (((8 : Int32) * x1) + x2)).bind fun y12 =>
        some ((y12).toInt64)
      else
        (rd (qL q 39) 512 (((8 : Int32) * x1) + x2)).bind fun y10 =>
        some y10
set_option maxHeartbeats 4000000 in
set_option maxRecDepth 100000 in
theorem g_X10_value_0 {E : En} {p : Program} {l : Launch} {e : Env} {s : State} {m : MethodId} {args : Array Value} {below : List Frame} {meth : Method} {c : Code} {A : Nat → Prop} {Q : State → Prop} (F : Fx E p s m args meth c (yX10_value).cls cX10_value 3 (some .long)) (hA : ∀ z : Nat, s.heap.size ≤ z → A z) {q : QS} {o : Int64} (hRt : RtL (wM E) E p l e rm_X10_value s m args below meth c A Q cX10_value (o, q)) (x1 : Int32) (x2 : Int32) (h : f_X10_value_0 q x1 x2 = some o) (ls : Array Slot) (hl : lv_has ls 3 [(0, .ref (eA E 0)), (1, .int x1), (2, .int x2)]) : Wq (wM E) E p l e rm_X10_value s m args below meth c A 0 0 Q q (F0 m 0 ls []) := by
  intro H locs hP hD hS
  have hx := F.1
  have hb := F.2.1
  unfold f_X10_value_0 at h
  refine lv_aload_n hx hb dX10_value_0 rfl (lv_at hl 0 rfl) ?_
  refine lv_iload_n hx hb dX10_value_1 rfl (lv_at hl 1 rfl) ?_
  refine lv_iload_n hx hb dX10_value_2 rfl (lv_at hl 2 rfl) ?_
  obtain ⟨r1, e2, h⟩ := Option.bind_eq_some_iff.mp h
  refine q_callV (As := [.int x1, .int x2]) (rest := []) F hA hP hD hS (c_X10_isKept (E := E) (l := l) q x1 x2 e2) k_X10_isKept in_X10_isKept se_X10_isKept lm_X10_308 0 (me_0 E q) rfl ⟨rfl, rfl⟩ ⟨by decide, by decide⟩ rfl hl.1 rfl (Nat.le_of_ble_eq_true rfl) dX10_value_3 ⟨by decide, by decide⟩ ?_
  intro H locs hP hD hS
  refine lv_if_eq (tgt := 23) hx hb dX10_value_6 (by decide) (fun c3 => ?_) (fun c3 => ?_)
  · rw [if_pos c3] at h
    refine lv_lconst (v := 0) hx hb dX10_value_23 (by decide) ?_
    cases h
    exact hRt _ _ dX10_value_24 _ _ hP hD hS
  · rw [if_neg c3] at h
    refine lv_aload_n hx hb dX10_value_9 rfl (lv_at hl 0 rfl) ?_
    refine r_get F hP i_X10 0 (me_0 E q) rfl 50 (by decide) rfl lf_X10_132 rfl dX10_value_10 ?_
    refine lv_bipush (v := 8) hx hb dX10_value_13 (by decide) ?_
    refine lv_iload_n hx hb dX10_value_15 rfl (lv_at hl 1 rfl) ?_
    refine lv_imul hx hb dX10_value_16 ?_
    refine lv_iload_n hx hb dX10_value_17 rfl (lv_at hl 2 rfl) ?_
    refine lv_iadd hx hb dX10_value_18 ?_
    obtain ⟨y4, e5, h⟩ := Option.bind_eq_some_iff.mp h
    refine r_bald F hP 38 (me_38 E q) e5 dX10_value_19 ?_
    refine lv_if_ne (tgt := 25) hx hb dX10_value_20 (by decide) (fun c6 => ?_) (fun c6 => ?_)
    · rw [if_neg c6] at h
      refine lv_aload_n hx hb dX10_value_25 rfl (lv_at hl 0 rfl) ?_
      refine r_get F hP i_X10 0 (me_0 E q) rfl 50 (by decide) rfl lf_X10_132 rfl dX10_value_26 ?_
      refine lv_bipush (v := 8) hx hb dX10_value_29 (by decide) ?_
      refine lv_iload_n hx hb dX10_value_31 rfl (lv_at hl 1 rfl) ?_
      refine lv_imul hx hb dX10_value_32 ?_
      refine lv_iload_n hx hb dX10_value_33 rfl (lv_at hl 2 rfl) ?_
      refine lv_iadd hx hb dX10_value_34 ?_
      obtain ⟨y7, e8, h⟩ := Option.bind_eq_some_iff.mp h
      refine r_bald F hP 38 (me_38 E q) e8 dX10_value_35 ?_
      refine lv_iconst (v := 2) hx hb dX10_value_36 (by decide) ?_
      refine lv_icmp_ne (tgt := 55) hx hb dX10_value_37 (by decide) (fun c9 => ?_) (fun c9 => ?_)
      · rw [if_neg c9] at h
        refine lv_aload_n hx hb dX10_value_55 rfl (lv_at hl 0 rfl) ?_
        refine r_get F hP i_X10 0 (me_0 E q) rfl 51 (by decide) rfl lf_X10_135 rfl dX10_value_56 ?_
        refine lv_bipush (v := 8) hx hb dX10_value_59 (by decide) ?_
        refine lv_iload_n hx hb dX10_value_61 rfl (lv_at hl 1 rfl) ?_
        refine lv_imul hx hb dX10_value_62 ?_
        refine lv_iload_n hx hb dX10_value_63 rfl (lv_at hl 2 rfl) ?_
        refine lv_iadd hx hb dX10_value_64 ?_
        obtain ⟨y10, e11, h⟩ := Option.bind_eq_some_iff.mp h
        refine r_lald F hP 39 (me_39 E q) e11 dX10_value_65 ?_
        cases h
        exact hRt _ _ dX10_value_66 _ _ hP hD hS
      · rw [if_pos c9] at h
        refine lv_aload_n hx hb dX10_value_40 rfl (lv_at hl 0 rfl) ?_
        refine r_get F hP i_X10 0 (me_0 E q) rfl 52 (by decide) rfl lf_X10_138 rfl dX10_value_41 ?_
        refine lv_bipush (v := 8) hx hb dX10_value_44 (by decide) ?_
        refine lv_iload_n hx hb dX10_value_46 rfl (lv_at hl 1 rfl) ?_
        refine lv_imul hx hb dX10_value_47 ?_
        refine lv_iload_n hx hb dX10_value_48 rfl (lv_at hl 2 rfl) ?_
        refine lv_iadd hx hb dX10_value_49 ?_
        obtain ⟨y12, e13, h⟩ := Option.bind_eq_some_iff.mp h
        refine r_iald F hP 40 (me_40 E q) e13 dX10_value_50 ?_
        refine lv_i2l (v := ((y12).toInt64)) hx hb dX10_value_51 rfl ?_
        refine lv_goto (tgt := 66) hx hb dX10_value_52 (by decide) ?_
        cases h
        exact hRt _ _ dX10_value_66 _ _ hP hD hS
    · rw [if_pos c6] at h
      refine lv_lconst (v := 0) hx hb dX10_value_23 (by decide) ?_
      cases h
      exact hRt _ _ dX10_value_24 _ _ hP hD hS
def f_X10_value (q : QS) (x1 : Int32) (x2 : Int32) : Option (Int64) := f_X10_value_0 q x1 x2
set_option maxRecDepth 100000 in
theorem c_X10_value {E : En} {l : Launch} (q : QS) (x1 : Int32) (x2 : Int32) {o : Int64} (h : f_X10_value q x1 x2 = some o) : Ct (wM E) E l yX10_value (wy yX10_value cX10_value 3 (some .long)) rm_X10_value q q [.ref (eA E 0), .int x1, .int x2] (some (.long o)) :=
  ct_L (o := (o, q)) (by decide +kernel) (fun p e s m below meth c A Q F hA hRt H locs hP hD hS => en_W [.ref (eA E 0), .int x1, .int x2] (Nat.le_of_ble_eq_true rfl) (fun ls hl => g_X10_value_0 F hA hRt x1 x2 h ls (lv_sub hl [0, 1, 2] rfl) H locs hP hD hS))
def rm_X10_letter : Room := { frames := 2, cells := 0, slots := 0, locals := 44 }
def f_X10_letter_0 (q : QS) (x1 : Int32) (x2 : Int32) (x3 : Int32) : Option (Int32) :=
  (f_X10_isKept q x1 x2).bind fun r1 =>
  if r1 = 0 then
    some (-1 : Int32)
  else
    (rd (qI q 38) 512 (((8 : Int32) * x1) + x2)).bind fun y4 =>
    if y4 = (2 : Int32) then
      (rd (qI q 40) 512 (((8 : Int32) * x1) + x2)).bind fun y7 =>
      (f_X10_in x3 (0 : Int32) (y7 - (1 : Int32))).bind fun r9 =>
      if r9 = 0 then
        some (-1 : Int32)
      else
        (rd (qL q 41) 2048 (((4 : Int32) * (((8 : Int32) * x1) + x2)) + (x3 / (8 : Int32)))).bind fun y12 =>
        some ((((y12 >>> ((((56 : Int32) - ((8 : Int32) * (x3 - x3 / (8 : Int32) * (8 : Int32))))).toInt64 &&& 63)) &&& (255 : Int64))).toInt32)
    else
      some (-1 : Int32)
set_option maxHeartbeats 4000000 in
set_option maxRecDepth 100000 in
theorem g_X10_letter_0 {E : En} {p : Program} {l : Launch} {e : Env} {s : State} {m : MethodId} {args : Array Value} {below : List Frame} {meth : Method} {c : Code} {A : Nat → Prop} {Q : State → Prop} (F : Fx E p s m args meth c (yX10_letter).cls cX10_letter 4 (some .int)) (hA : ∀ z : Nat, s.heap.size ≤ z → A z) {q : QS} {o : Int32} (hRt : RtI (wM E) E p l e rm_X10_letter s m args below meth c A Q cX10_letter (o, q)) (x1 : Int32) (x2 : Int32) (x3 : Int32) (h : f_X10_letter_0 q x1 x2 x3 = some o) (ls : Array Slot) (hl : lv_has ls 4 [(0, .ref (eA E 0)), (1, .int x1), (2, .int x2), (3, .int x3)]) : Wq (wM E) E p l e rm_X10_letter s m args below meth c A 0 0 Q q (F0 m 0 ls []) := by
  intro H locs hP hD hS
  have hx := F.1
  have hb := F.2.1
  unfold f_X10_letter_0 at h
  refine lv_aload_n hx hb dX10_letter_0 rfl (lv_at hl 0 rfl) ?_
  refine lv_iload_n hx hb dX10_letter_1 rfl (lv_at hl 1 rfl) ?_
  refine lv_iload_n hx hb dX10_letter_2 rfl (lv_at hl 2 rfl) ?_
  obtain ⟨r1, e2, h⟩ := Option.bind_eq_some_iff.mp h
  refine q_callV (As := [.int x1, .int x2]) (rest := []) F hA hP hD hS (c_X10_isKept (E := E) (l := l) q x1 x2 e2) k_X10_isKept in_X10_isKept se_X10_isKept lm_X10_308 0 (me_0 E q) rfl ⟨rfl, rfl⟩ ⟨by decide, by decide⟩ rfl hl.1 rfl (Nat.le_of_ble_eq_true rfl) dX10_letter_3 ⟨by decide, by decide⟩ ?_
  intro H locs hP hD hS
  refine lv_if_eq (tgt := 45) hx hb dX10_letter_6 (by decide) (fun c3 => ?_) (fun c3 => ?_)
  · rw [if_pos c3] at h
    refine lv_iconst (v := (-1)) hx hb dX10_letter_45 (by decide) ?_
    cases h
    exact hRt _ _ dX10_letter_46 _ _ hP hD hS
  · rw [if_neg c3] at h
    refine lv_aload_n hx hb dX10_letter_9 rfl (lv_at hl 0 rfl) ?_
    refine r_get F hP i_X10 0 (me_0 E q) rfl 50 (by decide) rfl lf_X10_132 rfl dX10_letter_10 ?_
    refine lv_bipush (v := 8) hx hb dX10_letter_13 (by decide) ?_
    refine lv_iload_n hx hb dX10_letter_15 rfl (lv_at hl 1 rfl) ?_
    refine lv_imul hx hb dX10_letter_16 ?_
    refine lv_iload_n hx hb dX10_letter_17 rfl (lv_at hl 2 rfl) ?_
    refine lv_iadd hx hb dX10_letter_18 ?_
    obtain ⟨y4, e5, h⟩ := Option.bind_eq_some_iff.mp h
    refine r_bald F hP 38 (me_38 E q) e5 dX10_letter_19 ?_
    refine lv_iconst (v := 2) hx hb dX10_letter_20 (by decide) ?_
    refine lv_icmp_ne (tgt := 45) hx hb dX10_letter_21 (by decide) (fun c6 => ?_) (fun c6 => ?_)
    · rw [if_neg c6] at h
      refine lv_iconst (v := (-1)) hx hb dX10_letter_45 (by decide) ?_
      cases h
      exact hRt _ _ dX10_letter_46 _ _ hP hD hS
    · rw [if_pos c6] at h
      refine lv_iload_n hx hb dX10_letter_24 rfl (lv_at hl 3 rfl) ?_
      refine lv_iconst (v := 0) hx hb dX10_letter_25 (by decide) ?_
      refine lv_aload_n hx hb dX10_letter_26 rfl (lv_at hl 0 rfl) ?_
      refine r_get F hP i_X10 0 (me_0 E q) rfl 52 (by decide) rfl lf_X10_138 rfl dX10_letter_27 ?_
      refine lv_bipush (v := 8) hx hb dX10_letter_30 (by decide) ?_
      refine lv_iload_n hx hb dX10_letter_32 rfl (lv_at hl 1 rfl) ?_
      refine lv_imul hx hb dX10_letter_33 ?_
      refine lv_iload_n hx hb dX10_letter_34 rfl (lv_at hl 2 rfl) ?_
      refine lv_iadd hx hb dX10_letter_35 ?_
      obtain ⟨y7, e8, h⟩ := Option.bind_eq_some_iff.mp h
      refine r_iald F hP 40 (me_40 E q) e8 dX10_letter_36 ?_
      refine lv_iconst (v := 1) hx hb dX10_letter_37 (by decide) ?_
      refine lv_isub hx hb dX10_letter_38 ?_
      obtain ⟨r9, e10, h⟩ := Option.bind_eq_some_iff.mp h
      refine q_callS (As := [.int x3, .int (0 : Int32), .int (y7 - (1 : Int32))]) (rest := []) F hA hP hD hS (c_X10_in (E := E) (l := l) q x3 (0 : Int32) (y7 - (1 : Int32)) e10) k_X10_in st_X10_in lm_X10_169 ⟨rfl, rfl⟩ ⟨by decide, by decide⟩ rfl hl.1 rfl (Nat.le_of_ble_eq_true rfl) dX10_letter_39 ⟨by decide, by decide⟩ ?_
      intro H locs hP hD hS
      refine lv_if_ne (tgt := 47) hx hb dX10_letter_42 (by decide) (fun c11 => ?_) (fun c11 => ?_)
      · rw [if_neg c11] at h
        refine lv_aload_n hx hb dX10_letter_47 rfl (lv_at hl 0 rfl) ?_
        refine r_get F hP i_X10 0 (me_0 E q) rfl 53 (by decide) rfl lf_X10_141 rfl dX10_letter_48 ?_
        refine lv_iconst (v := 4) hx hb dX10_letter_51 (by decide) ?_
        refine lv_bipush (v := 8) hx hb dX10_letter_52 (by decide) ?_
        refine lv_iload_n hx hb dX10_letter_54 rfl (lv_at hl 1 rfl) ?_
        refine lv_imul hx hb dX10_letter_55 ?_
        refine lv_iload_n hx hb dX10_letter_56 rfl (lv_at hl 2 rfl) ?_
        refine lv_iadd hx hb dX10_letter_57 ?_
        refine lv_imul hx hb dX10_letter_58 ?_
        refine lv_iload_n hx hb dX10_letter_59 rfl (lv_at hl 3 rfl) ?_
        refine lv_bipush (v := 8) hx hb dX10_letter_60 (by decide) ?_
        refine lv_idiv hx hb dX10_letter_62 (by decide) ?_
        refine lv_iadd hx hb dX10_letter_63 ?_
        obtain ⟨y12, e13, h⟩ := Option.bind_eq_some_iff.mp h
        refine r_lald F hP 41 (me_41 E q) e13 dX10_letter_64 ?_
        refine lv_bipush (v := 56) hx hb dX10_letter_65 (by decide) ?_
        refine lv_bipush (v := 8) hx hb dX10_letter_67 (by decide) ?_
        refine lv_iload_n hx hb dX10_letter_69 rfl (lv_at hl 3 rfl) ?_
        refine lv_bipush (v := 8) hx hb dX10_letter_70 (by decide) ?_
        refine lv_irem hx hb dX10_letter_72 (by decide) ?_
        refine lv_imul hx hb dX10_letter_73 ?_
        refine lv_isub hx hb dX10_letter_74 ?_
        refine lv_lshr (v := (y12 >>> ((((56 : Int32) - ((8 : Int32) * (x3 - x3 / (8 : Int32) * (8 : Int32))))).toInt64 &&& 63))) hx hb dX10_letter_75 rfl ?_
        refine lv_ldc2 (v := 255) hx hb F.2.2.2.1 (F.2.2.2.2.1 _ lc_X10_198) dX10_letter_76 ?_
        refine lv_land hx hb dX10_letter_79 ?_
        refine lv_l2i (v := ((((y12 >>> ((((56 : Int32) - ((8 : Int32) * (x3 - x3 / (8 : Int32) * (8 : Int32))))).toInt64 &&& 63)) &&& (255 : Int64))).toInt32)) hx hb dX10_letter_80 rfl ?_
        cases h
        exact hRt _ _ dX10_letter_81 _ _ hP hD hS
      · rw [if_pos c11] at h
        refine lv_iconst (v := (-1)) hx hb dX10_letter_45 (by decide) ?_
        cases h
        exact hRt _ _ dX10_letter_46 _ _ hP hD hS
def f_X10_letter (q : QS) (x1 : Int32) (x2 : Int32) (x3 : Int32) : Option (Int32) := f_X10_letter_0 q x1 x2 x3
set_option maxRecDepth 100000 in
theorem c_X10_letter {E : En} {l : Launch} (q : QS) (x1 : Int32) (x2 : Int32) (x3 : Int32) {o : Int32} (h : f_X10_letter q x1 x2 x3 = some o) : Ct (wM E) E l yX10_letter (wy yX10_letter cX10_letter 4 (some .int)) rm_X10_letter q q [.ref (eA E 0), .int x1, .int x2, .int x3] (some (.int o)) :=
  ct_I (o := (o, q)) (by decide +kernel) rfl (fun p e s m below meth c A Q F hA hRt H locs hP hD hS => en_W [.ref (eA E 0), .int x1, .int x2, .int x3] (Nat.le_of_ble_eq_true rfl) (fun ls hl => g_X10_letter_0 F hA hRt x1 x2 x3 h ls (lv_sub hl [0, 1, 2, 3] rfl) H locs hP hD hS))
