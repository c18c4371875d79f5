def RtIc (w : QS → va_W) (E : En) (p : Program) (l : Launch) (e : Env) (R : Room) (s : State) (m : MethodId) (args : Array Value) (below : List Frame) (meth : Method) (c : Code) (A : Nat → Prop) (cells slots : Nat) (Q : State → Prop) (cc : ByteArray) (o : Int32 × QS) : Prop :=
  ∀ (pc : Nat) (ls : Array Slot), decode cc pc = .ok (.ireturn, 1) → Wq w E p l e R s m args below meth c A cells slots Q o.2 (F0 m pc ls [.int o.1])
def f_X6_gather_0 (KA : QS → Int32 → Option (Int32 × QS)) (q : QS) : Option (Int32 × QS) :=
  (f_X7_product q).bind fun r1 =>
  (f_J9_min_7cf53 r1 (2000 : Int32)).bind fun r3 =>
  KA q r3
set_option maxHeartbeats 4000000 in
set_option maxRecDepth 100000 in
theorem g_X6_gather_0 {E : En} {p : Program} {l : Launch} {e : Env} {s : State} {m : MethodId} {args : Array Value} {below : List Frame} {meth : Method} {c : Code} {A : Nat → Prop} {Q : State → Prop} (F : Fx E p s m args meth c (yX6_gather).cls cX6_gather 6 (some .int)) (hA : ∀ z : Nat, s.heap.size ≤ z → A z) {R : Room} {cells slots : Nat} (hR1 : 5 ≤ R.frames) (hR2 : 118 ≤ R.locals) (hC1 : cells ≤ R.cells) (hC2 : slots ≤ R.slots) {o : Int32 × QS} (hRt : RtIc (wX E) E p l e R s m args below meth c A cells slots Q cX6_gather o) {KA : QS → Int32 → Option (Int32 × QS)} (hKA : ∀ (q : QS) (t1 : Int32), KA q t1 = some o → ∀ ls : Array Slot, lv_has ls 6 [(0, .ref (eA E 47))] → Wq (wX E) E p l e R s m args below meth c A cells slots Q q (F0 m 14 ls [.int t1, .ref (eA E 47)])) (q : QS) (h : f_X6_gather_0 KA q = some o) (ls : Array Slot) (hl : lv_has ls 6 [(0, .ref (eA E 47))]) : Wq (wX E) E p l e R s m args below meth c A cells slots Q q (F0 m 0 ls []) := by
  intro H locs hP hD hS
  have hx := F.1
  have hb := F.2.1
  unfold f_X6_gather_0 at h
  refine lv_aload_n hx hb dX6_gather_0 rfl (lv_at hl 0 rfl) ?_
  refine lv_aload_n hx hb dX6_gather_1 rfl (lv_at hl 0 rfl) ?_
  refine r_get F hP i_X6 47 (xe_47 E q) rfl 0 (by decide) rfl lf_X6_28 rfl dX6_gather_2 ?_
  obtain ⟨r1, e2, h⟩ := Option.bind_eq_some_iff.mp h
  refine q_callV (As := []) (rest := [.ref (eA E 47)]) F hA hP hD hS (c_X7_product (E := E) (l := l) q e2) k_X7_product in_X7_product se_X7_product lm_X6_133 25 (xe_25 E q) rfl ⟨rfl, rfl⟩ ⟨Nat.le_trans (by decide) hR1, Nat.le_trans (by decide) hR2⟩ rfl hl.1 rfl (Nat.le_of_ble_eq_true rfl) dX6_gather_5 ⟨hC1, hC2⟩ ?_
  intro H locs hP hD hS
  refine lv_sipush (v := 2000) hx hb dX6_gather_8 (by decide) ?_
  obtain ⟨r3, e4, h⟩ := Option.bind_eq_some_iff.mp h
  refine q_callS (As := [.int r1, .int (2000 : Int32)]) (rest := [.ref (eA E 47)]) F hA hP hD hS (c_J9_min_7cf53 (E := E) (l := l) q r1 (2000 : Int32) e4) k_J9_min_7cf53 st_J9_min_7cf53 lm_X6_124 ⟨rfl, rfl⟩ ⟨Nat.le_trans (by decide) hR1, Nat.le_trans (by decide) hR2⟩ rfl hl.1 rfl (Nat.le_of_ble_eq_true rfl) dX6_gather_11 ⟨hC1, hC2⟩ ?_
  intro H locs hP hD hS
  exact hKA q r3 h _ (lv_sub hl [0] rfl) _ _ hP hD hS
def f_X6_gather_113 (B50 : QS → Int32 → Int32 → Int32 → Int32 → Option (Int32 × QS)) (q : QS) (x1 : Int32) (x2 : Int32) (x3 : Int32) (x4 : Int32) : Option (Int32 × QS) :=
  B50 q x1 x2 x3 (x4 + (1 : Int32))
set_option maxHeartbeats 4000000 in
set_option maxRecDepth 100000 in
theorem g_X6_gather_113 {E : En} {p : Program} {l : Launch} {e : Env} {s : State} {m : MethodId} {args : Array Value} {below : List Frame} {meth : Method} {c : Code} {A : Nat → Prop} {Q : State → Prop} (F : Fx E p s m args meth c (yX6_gather).cls cX6_gather 6 (some .int)) (hA : ∀ z : Nat, s.heap.size ≤ z → A z) {R : Room} {cells slots : Nat} (hR1 : 5 ≤ R.frames) (hR2 : 118 ≤ R.locals) (hC1 : cells ≤ R.cells) (hC2 : slots ≤ R.slots) {o : Int32 × QS} (hRt : RtIc (wX E) E p l e R s m args below meth c A cells slots Q cX6_gather o) {B50 : QS → Int32 → Int32 → Int32 → Int32 → Option (Int32 × QS)} (hB50 : ∀ (q : QS) (x1 : Int32) (x2 : Int32) (x3 : Int32) (x4 : Int32), B50 q x1 x2 x3 x4 = some o → ∀ ls : Array Slot, lv_has ls 6 [(0, .ref (eA E 47)), (1, .int x1), (2, .int x2), (3, .int x3), (4, .int x4)] → Wq (wX E) E p l e R s m args below meth c A cells slots Q q (F0 m 50 ls [])) (q : QS) (x1 : Int32) (x2 : Int32) (x3 : Int32) (x4 : Int32) (h : f_X6_gather_113 B50 q x1 x2 x3 x4 = some o) (ls : Array Slot) (hl : lv_has ls 6 [(0, .ref (eA E 47)), (1, .int x1), (2, .int x2), (3, .int x3), (4, .int x4)]) : Wq (wX E) E p l e R s m args below meth c A cells slots Q q (F0 m 113 ls []) := by
  intro H locs hP hD hS
  have hx := F.1
  have hb := F.2.1
  unfold f_X6_gather_113 at h
  refine lv_iinc (v := (x4 + (1 : Int32))) (lv' := [(4, .int (x4 + (1 : Int32))), (0, .ref (eA E 47)), (1, .int x1), (2, .int x2), (3, .int x3)]) hx hb dX6_gather_113 hl (k := 4) rfl rfl (by decide) rfl (fun ls hl => ?_)
  refine lv_goto (tgt := 50) hx hb dX6_gather_116 (by decide) ?_
  exact hB50 q x1 x2 x3 (x4 + (1 : Int32)) h _ (lv_sub hl [1, 2, 3, 4, 0] rfl) _ _ hP hD hS
def f_X6_gather_50_b (K119 : QS → Int32 → Int32 → Int32 → Option (Int32 × QS)) (B50 : QS → Int32 → Int32 → Int32 → Int32 → Option (Int32 × QS)) (q : QS) (x1 : Int32) (x2 : Int32) (x3 : Int32) (x4 : Int32) : Option (Int32 × QS) :=
  (f_X7_choicesIn q (2 : Int32)).bind fun r7 =>
  if r7 ≤ x4 then
    K119 q x1 x2 x3
  else
    (f_X5_combine x2 x3 x4).bind fun r10 =>
    (f_X6_meetsCondition q r10).bind fun r12 =>
    if r12.1 = 0 then
      f_X6_gather_113 B50 r12.2 x1 x2 x3 x4
    else
      if x1 < (qF r12.2 12) then
        (wI r12.2 50 (qC r12.2) x1 r10).bind fun q16 =>
        f_X6_gather_113 B50 q16 (x1 + (1 : Int32)) x2 x3 x4
      else
        some ((2001 : Int32), r12.2)
set_option maxHeartbeats 4000000 in
set_option maxRecDepth 100000 in
theorem g_X6_gather_50_b {E : En} {p : Program} {l : Launch} {e : Env} {s : State} {m : MethodId} {args : Array Value} {below : List Frame} {meth : Method} {c : Code} {A : Nat → Prop} {Q : State → Prop} (F : Fx E p s m args meth c (yX6_gather).cls cX6_gather 6 (some .int)) (hA : ∀ z : Nat, s.heap.size ≤ z → A z) {R : Room} {cells slots : Nat} (hR1 : 5 ≤ R.frames) (hR2 : 118 ≤ R.locals) (hC1 : cells ≤ R.cells) (hC2 : slots ≤ R.slots) {o : Int32 × QS} (hRt : RtIc (wX E) E p l e R s m args below meth c A cells slots Q cX6_gather o) {K119 : QS → Int32 → Int32 → Int32 → Option (Int32 × QS)} {B50 : QS → Int32 → Int32 → Int32 → Int32 → Option (Int32 × QS)} (hK119 : ∀ (q : QS) (x1 : Int32) (x2 : Int32) (x3 : Int32), K119 q x1 x2 x3 = some o → ∀ ls : Array Slot, lv_has ls 6 [(0, .ref (eA E 47)), (1, .int x1), (2, .int x2), (3, .int x3)] → Wq (wX E) E p l e R s m args below meth c A cells slots Q q (F0 m 119 ls [])) (hB50 : ∀ (q : QS) (x1 : Int32) (x2 : Int32) (x3 : Int32) (x4 : Int32), B50 q x1 x2 x3 x4 = some o → ∀ ls : Array Slot, lv_has ls 6 [(0, .ref (eA E 47)), (1, .int x1), (2, .int x2), (3, .int x3), (4, .int x4)] → Wq (wX E) E p l e R s m args below meth c A cells slots Q q (F0 m 50 ls [])) (q : QS) (x1 : Int32) (x2 : Int32) (x3 : Int32) (x4 : Int32) (h : f_X6_gather_50_b K119 B50 q x1 x2 x3 x4 = some o) (ls : Array Slot) (hl : lv_has ls 6 [(0, .ref (eA E 47)), (1, .int x1), (2, .int x2), (3, .int x3), (4, .int x4)]) : Wq (wX E) E p l e R s m args below meth c A cells slots Q q (F0 m 50 ls []) := by
  intro H locs hP hD hS
  have hx := F.1
  have hb := F.2.1
  unfold f_X6_gather_50_b at h
  refine lv_iload hx hb dX6_gather_50 (lv_at hl 4 rfl) ?_
  refine lv_aload_n hx hb dX6_gather_52 rfl (lv_at hl 0 rfl) ?_
  refine r_get F hP i_X6 47 (xe_47 E q) rfl 0 (by decide) rfl lf_X6_28 rfl dX6_gather_53 ?_
  refine lv_iconst (v := 2) hx hb dX6_gather_56 (by decide) ?_
  obtain ⟨r7, e8, h⟩ := Option.bind_eq_some_iff.mp h
  refine q_callV (As := [.int (2 : Int32)]) (rest := [.int x4]) F hA hP hD hS (c_X7_choicesIn (E := E) (l := l) q (2 : Int32) e8) k_X7_choicesIn in_X7_choicesIn se_X7_choicesIn lm_X6_142 25 (xe_25 E q) rfl ⟨rfl, rfl⟩ ⟨Nat.le_trans (by decide) hR1, Nat.le_trans (by decide) hR2⟩ rfl hl.1 rfl (Nat.le_of_ble_eq_true rfl) dX6_gather_57 ⟨hC1, hC2⟩ ?_
  intro H locs hP hD hS
  refine lv_icmp_ge (tgt := 119) hx hb dX6_gather_60 (by decide) (fun c9 => ?_) (fun c9 => ?_)
  · rw [if_pos c9] at h
    exact hK119 q x1 x2 x3 h _ (lv_sub hl [0, 1, 2, 3] rfl) _ _ hP hD hS
  · rw [if_neg c9] at h
    refine lv_iload_n hx hb dX6_gather_63 rfl (lv_at hl 2 rfl) ?_
    refine lv_iload_n hx hb dX6_gather_64 rfl (lv_at hl 3 rfl) ?_
    refine lv_iload hx hb dX6_gather_65 (lv_at hl 4 rfl) ?_
    obtain ⟨r10, e11, h⟩ := Option.bind_eq_some_iff.mp h
    refine q_callS (As := [.int x2, .int x3, .int x4]) (rest := []) F hA hP hD hS (c_X5_combine (E := E) (l := l) q x2 x3 x4 e11) k_X5_combine st_X5_combine lm_X6_146 ⟨rfl, rfl⟩ ⟨Nat.le_trans (by decide) hR1, Nat.le_trans (by decide) hR2⟩ rfl hl.1 rfl (Nat.le_of_ble_eq_true rfl) dX6_gather_67 ⟨hC1, hC2⟩ ?_
    intro H locs hP hD hS
    refine lv_istore (lv' := [(5, .int r10), (0, .ref (eA E 47)), (1, .int x1), (2, .int x2), (3, .int x3), (4, .int x4)]) hx hb dX6_gather_70 hl (by decide) rfl (fun ls hl => ?_)
    refine lv_aload_n hx hb dX6_gather_72 rfl (lv_at hl 1 rfl) ?_
    refine lv_iload hx hb dX6_gather_73 (lv_at hl 0 rfl) ?_
    obtain ⟨r12, e13, h⟩ := Option.bind_eq_some_iff.mp h
    refine q_callV (As := [.int r10]) (rest := []) F hA hP hD hS (c_X6_meetsCondition (E := E) (l := l) q r10 e13) k_X6_meetsCondition in_X6_meetsCondition se_X6_meetsCondition lm_X6_150 47 (xe_47 E q) rfl ⟨rfl, rfl⟩ ⟨Nat.le_trans (by decide) hR1, Nat.le_trans (by decide) hR2⟩ rfl hl.1 rfl (Nat.le_of_ble_eq_true rfl) dX6_gather_75 ⟨hC1, hC2⟩ ?_
    intro H locs hP hD hS
    refine lv_if_ne (tgt := 84) hx hb dX6_gather_78 (by decide) (fun c14 => ?_) (fun c14 => ?_)
    · rw [if_neg c14] at h
      refine lv_iload_n hx hb dX6_gather_84 rfl (lv_at hl 2 rfl) ?_
      refine lv_aload_n hx hb dX6_gather_85 rfl (lv_at hl 1 rfl) ?_
      refine r_get F hP i_X6 47 (xe_47 E r12.2) rfl 9 (by decide) rfl lf_X6_54 rfl dX6_gather_86 ?_
      refine r_get F hP i_X5 49 (xe_49 E r12.2) rfl 0 (by decide) rfl lf_X6_121 rfl dX6_gather_89 ?_
      refine lv_icmp_lt (tgt := 99) hx hb dX6_gather_92 (by decide) (fun c15 => ?_) (fun c15 => ?_)
      · rw [if_pos c15] at h
        refine lv_aload_n hx hb dX6_gather_99 rfl (lv_at hl 1 rfl) ?_
        refine r_get F hP i_X6 47 (xe_47 E r12.2) rfl 9 (by decide) rfl lf_X6_54 rfl dX6_gather_100 ?_
        refine r_get F hP i_X5 49 (xe_49 E r12.2) rfl 1 (by decide) rfl lf_X6_153 rfl dX6_gather_103 ?_
        refine lv_iload_n hx hb dX6_gather_106 rfl (lv_at hl 2 rfl) ?_
        refine lv_iload hx hb dX6_gather_107 (lv_at hl 0 rfl) ?_
        obtain ⟨q16, e17, h⟩ := Option.bind_eq_some_iff.mp h
        refine r_iast F hP hD hS 50 (xe_50 E r12.2) (xs_50 E r12.2) e17 dX6_gather_109 ?_
        intro H locs hP hD hS
        refine lv_iinc (v := (x1 + (1 : Int32))) (lv' := [(1, .int (x1 + (1 : Int32))), (5, .int r10), (0, .ref (eA E 47)), (2, .int x2), (3, .int x3), (4, .int x4)]) hx hb dX6_gather_110 hl (k := 2) rfl rfl (by decide) rfl (fun ls hl => ?_)
        exact g_X6_gather_113 F hA hR1 hR2 hC1 hC2 hRt hB50 q16 (x1 + (1 : Int32)) x2 x3 x4 h _ (lv_sub hl [2, 0, 3, 4, 5] rfl) _ _ hP hD hS
      · rw [if_neg c15] at h
        refine lv_sipush (v := 2001) hx hb dX6_gather_95 (by decide) ?_
        cases h
        exact hRt _ _ dX6_gather_98 _ _ hP hD hS
    · rw [if_pos c14] at h
      refine lv_goto (tgt := 113) hx hb dX6_gather_81 (by decide) ?_
      exact g_X6_gather_113 F hA hR1 hR2 hC1 hC2 hRt hB50 r12.2 x1 x2 x3 x4 h _ (lv_sub hl [1, 2, 3, 4, 5] rfl) _ _ hP hD hS
def f_X6_gather_50 (K119 : QS → Int32 → Int32 → Int32 → Option (Int32 × QS)) : Nat → QS → Int32 → Int32 → Int32 → Int32 → Option (Int32 × QS)
  | 0 => fun _ _ _ _ _ => none
  | n + 1 => f_X6_gather_50_b K119 (f_X6_gather_50 K119 n)
theorem g_X6_gather_50 {E : En} {p : Program} {l : Launch} {e : Env} {s : State} {m : MethodId} {args : Array Value} {below : List Frame} {meth : Method} {c : Code} {A : Nat → Prop} {Q : State → Prop} (F : Fx E p s m args meth c (yX6_gather).cls cX6_gather 6 (some .int)) (hA : ∀ z : Nat, s.heap.size ≤ z → A z) {R : Room} {cells slots : Nat} (hR1 : 5 ≤ R.frames) (hR2 : 118 ≤ R.locals) (hC1 : cells ≤ R.cells) (hC2 : slots ≤ R.slots) {o : Int32 × QS} (hRt : RtIc (wX E) E p l e R s m args below meth c A cells slots Q cX6_gather o) {K119 : QS → Int32 → Int32 → Int32 → Option (Int32 × QS)} (hK119 : ∀ (q : QS) (x1 : Int32) (x2 : Int32) (x3 : Int32), K119 q x1 x2 x3 = some o → ∀ ls : Array Slot, lv_has ls 6 [(0, .ref (eA E 47)), (1, .int x1), (2, .int x2), (3, .int x3)] → Wq (wX E) E p l e R s m args below meth c A cells slots Q q (F0 m 119 ls [])) (n : Nat) : ∀ (q : QS) (x1 : Int32) (x2 : Int32) (x3 : Int32) (x4 : Int32), f_X6_gather_50 K119 n q x1 x2 x3 x4 = some o → ∀ ls : Array Slot, lv_has ls 6 [(0, .ref (eA E 47)), (1, .int x1), (2, .int x2), (3, .int x3), (4, .int x4)] → Wq (wX E) E p l e R s m args below meth c A cells slots Q q (F0 m 50 ls []) := by
  induction n with
  | zero => intro q x1 x2 x3 x4 h; cases h
  | succ n ih => intro q x1 x2 x3 x4 h; exact g_X6_gather_50_b F hA hR1 hR2 hC1 hC2 hRt hK119 ih q x1 x2 x3 x4 h
def f_X6_gather_119 (B35 : QS → Int32 → Int32 → Int32 → Option (Int32 × QS)) (q : QS) (x1 : Int32) (x2 : Int32) (x3 : Int32) : Option (Int32 × QS) :=
  B35 q x1 x2 (x3 + (1 : Int32))
set_option maxHeartbeats 4000000 in
set_option maxRecDepth 100000 in
theorem g_X6_gather_119 {E : En} {p : Program} {l : Launch} {e : Env} {s : State} {m : MethodId} {args : Array Value} {below : List Frame} {meth : Method} {c : Code} {A : Nat → Prop} {Q : State → Prop} (F : Fx E p s m args meth c (yX6_gather).cls cX6_gather 6 (some .int)) (hA : ∀ z : Nat, s.heap.size ≤ z → A z) {R : Room} {cells slots : Nat} (hR1 : 5 ≤ R.frames) (hR2 : 118 ≤ R.locals) (hC1 : cells ≤ R.cells) (hC2 : slots ≤ R.slots) {o : Int32 × QS} (hRt : RtIc (wX E) E p l e R s m args below meth c A cells slots Q cX6_gather o) {B35 : QS → Int32 → Int32 → Int32 → Option (Int32 × QS)} (hB35 : ∀ (q : QS) (x1 : Int32) (x2 : Int32) (x3 : Int32), B35 q x1 x2 x3 = some o → ∀ ls : Array Slot, lv_has ls 6 [(0, .ref (eA E 47)), (1, .int x1), (2, .int x2), (3, .int x3)] → Wq (wX E) E p l e R s m args below meth c A cells slots Q q (F0 m 35 ls [])) (q : QS) (x1 : Int32) (x2 : Int32) (x3 : Int32) (h : f_X6_gather_119 B35 q x1 x2 x3 = some o) (ls : Array Slot) (hl : lv_has ls 6 [(0, .ref (eA E 47)), (1, .int x1), (2, .int x2), (3, .int x3)]) : Wq (wX E) E p l e R s m args below meth c A cells slots Q q (F0 m 119 ls []) := by
  intro H locs hP hD hS
  have hx := F.1
  have hb := F.2.1
  unfold f_X6_gather_119 at h
  refine lv_iinc (v := (x3 + (1 : Int32))) (lv' := [(3, .int (x3 + (1 : Int32))), (0, .ref (eA E 47)), (1, .int x1), (2, .int x2)]) hx hb dX6_gather_119 hl (k := 3) rfl rfl (by decide) rfl (fun ls hl => ?_)
  refine lv_goto (tgt := 35) hx hb dX6_gather_122 (by decide) ?_
  exact hB35 q x1 x2 (x3 + (1 : Int32)) h _ (lv_sub hl [1, 2, 3, 0] rfl) _ _ hP hD hS
def f_X6_gather_35_b (K125 : QS → Int32 → Int32 → Option (Int32 × QS)) (B35 : QS → Int32 → Int32 → Int32 → Option (Int32 × QS)) (q : QS) (x1 : Int32) (x2 : Int32) (x3 : Int32) : Option (Int32 × QS) :=
  (f_X7_choicesIn q (1 : Int32)).bind fun r4 =>
  if r4 ≤ x3 then
    K125 q x1 x2
  else
    f_X6_gather_50 (f_X6_gather_119 B35) FU q x1 x2 x3 (0 : Int32)
set_option maxHeartbeats 4000000 in
set_option maxRecDepth 100000 in
theorem g_X6_gather_35_b {E : En} {p : Program} {l : Launch} {e : Env} {s : State} {m : MethodId} {args : Array Value} {below : List Frame} {meth : Method} {c : Code} {A : Nat → Prop} {Q : State → Prop} (F : Fx E p s m args meth c (yX6_gather).cls cX6_gather 6 (some .int)) (hA : ∀ z : Nat, s.heap.size ≤ z → A z) {R : Room} {cells slots : Nat} (hR1 : 5 ≤ R.frames) (hR2 : 118 ≤ R.locals) (hC1 : cells ≤ R.cells) (hC2 : slots ≤ R.slots) {o : Int32 × QS} (hRt : RtIc (wX E) E p l e R s m args below meth c A cells slots Q cX6_gather o) {K125 : QS → Int32 → Int32 → Option (Int32 × QS)} {B35 : QS → Int32 → Int32 → Int32 → Option (Int32 × QS)} (hK125 : ∀ (q : QS) (x1 : Int32) (x2 : Int32), K125 q x1 x2 = some o → ∀ ls : Array Slot, lv_has ls 6 [(0, .ref (eA E 47)), (1, .int x1), (2, .int x2)] → Wq (wX E) E p l e R s m args below meth c A cells slots Q q (F0 m 125 ls [])) (hB35 : ∀ (q : QS) (x1 : Int32) (x2 : Int32) (x3 : Int32), B35 q x1 x2 x3 = some o → ∀ ls : Array Slot, lv_has ls 6 [(0, .ref (eA E 47)), (1, .int x1), (2, .int x2), (3, .int x3)] → Wq (wX E) E p l e R s m args below meth c A cells slots Q q (F0 m 35 ls [])) (q : QS) (x1 : Int32) (x2 : Int32) (x3 : Int32) (h : f_X6_gather_35_b K125 B35 q x1 x2 x3 = some o) (ls : Array Slot) (hl : lv_has ls 6 [(0, .ref (eA E 47)), (1, .int x1), (2, .int x2), (3, .int x3)]) : Wq (wX E) E p l e R s m args below meth c A cells slots Q q (F0 m 35 ls []) := by
  intro H locs hP hD hS
  have hx := F.1
  have hb := F.2.1
  unfold f_X6_gather_35_b at h
  refine lv_iload_n hx hb dX6_gather_35 rfl (lv_at hl 3 rfl) ?_
  refine lv_aload_n hx hb dX6_gather_36 rfl (lv_at hl 0 rfl) ?_
  refine r_get F hP i_X6 47 (xe_47 E q) rfl 0 (by decide) rfl lf_X6_28 rfl dX6_gather_37 ?_
  refine lv_iconst (v := 1) hx hb dX6_gather_40 (by decide) ?_
  obtain ⟨r4, e5, h⟩ := Option.bind_eq_some_iff.mp h
  refine q_callV (As := [.int (1 : Int32)]) (rest := [.int x3]) F hA hP hD hS (c_X7_choicesIn (E := E) (l := l) q (1 : Int32) e5) k_X7_choicesIn in_X7_choicesIn se_X7_choicesIn lm_X6_142 25 (xe_25 E q) rfl ⟨rfl, rfl⟩ ⟨Nat.le_trans (by decide) hR1, Nat.le_trans (by decide) hR2⟩ rfl hl.1 rfl (Nat.le_of_ble_eq_true rfl) dX6_gather_41 ⟨hC1, hC2⟩ ?_
  intro H locs hP hD hS
  refine lv_icmp_ge (tgt := 125) hx hb dX6_gather_44 (by decide) (fun c6 => ?_) (fun c6 => ?_)
  · rw [if_pos c6] at h
    exact hK125 q x1 x2 h _ (lv_sub hl [0, 1, 2] rfl) _ _ hP hD hS
  · rw [if_neg c6] at h
    refine lv_iconst (v := 0) hx hb dX6_gather_47 (by decide) ?_
    refine lv_istore (lv' := [(4, .int (0 : Int32)), (0, .ref (eA E 47)), (1, .int x1), (2, .int x2), (3, .int x3)]) hx hb dX6_gather_48 hl (by decide) rfl (fun ls hl => ?_)
    exact g_X6_gather_50 F hA hR1 hR2 hC1 hC2 hRt (g_X6_gather_119 F hA hR1 hR2 hC1 hC2 hRt hB35) FU q x1 x2 x3 (0 : Int32) h _ (lv_sub hl [1, 2, 3, 4, 0] rfl) _ _ hP hD hS
def f_X6_gather_35 (K125 : QS → Int32 → Int32 → Option (Int32 × QS)) : Nat → QS → Int32 → Int32 → Int32 → Option (Int32 × QS)
  | 0 => fun _ _ _ _ => none
  | n + 1 => f_X6_gather_35_b K125 (f_X6_gather_35 K125 n)
theorem g_X6_gather_35 {E : En} {p : Program} {l : Launch} {e : Env} {s : State} {m : MethodId} {args : Array Value} {below : List Frame} {meth : Method} {c : Code} {A : Nat → Prop} {Q : State → Prop} (F : Fx E p s m args meth c (yX6_gather).cls cX6_gather 6 (some .int)) (hA : ∀ z : Nat, s.heap.size ≤ z → A z) {R : Room} {cells slots : Nat} (hR1 : 5 ≤ R.frames) (hR2 : 118 ≤ R.locals) (hC1 : cells ≤ R.cells) (hC2 : slots ≤ R.slots) {o : Int32 × QS} (hRt : RtIc (wX E) E p l e R s m args below meth c A cells slots Q cX6_gather o) {K125 : QS → Int32 → Int32 → Option (Int32 × QS)} (hK125 : ∀ (q : QS) (x1 : Int32) (x2 : Int32), K125 q x1 x2 = some o → ∀ ls : Array Slot, lv_has ls 6 [(0, .ref (eA E 47)), (1, .int x1), (2, .int x2)] → Wq (wX E) E p l e R s m args below meth c A cells slots Q q (F0 m 125 ls [])) (n : Nat) : ∀ (q : QS) (x1 : Int32) (x2 : Int32) (x3 : Int32), f_X6_gather_35 K125 n q x1 x2 x3 = some o → ∀ ls : Array Slot, lv_has ls 6 [(0, .ref (eA E 47)), (1, .int x1), (2, .int x2), (3, .int x3)] → Wq (wX E) E p l e R s m args below meth c A cells slots Q q (F0 m 35 ls []) := by
  induction n with
  | zero => intro q x1 x2 x3 h; cases h
  | succ n ih => intro q x1 x2 x3 h; exact g_X6_gather_35_b F hA hR1 hR2 hC1 hC2 hRt hK125 ih q x1 x2 x3 h
def f_X6_gather_125 (B21 : QS → Int32 → Int32 → Option (Int32 × QS)) (q : QS) (x1 : Int32) (x2 : Int32) : Option (Int32 × QS) :=
  B21 q x1 (x2 + (1 : Int32))
set_option maxHeartbeats 4000000 in
set_option maxRecDepth 100000 in
theorem g_X6_gather_125 {E : En} {p : Program} {l : Launch} {e : Env} {s : State} {m : MethodId} {args : Array Value} {below : List Frame} {meth : Method} {c : Code} {A : Nat → Prop} {Q : State → Prop} (F : Fx E p s m args meth c (yX6_gather).cls cX6_gather 6 (some .int)) (hA : ∀ z : Nat, s.heap.size ≤ z → A z) {R : Room} {cells slots : Nat} (hR1 : 5 ≤ R.frames) (hR2 : 118 ≤ R.locals) (hC1 : cells ≤ R.cells) (hC2 : slots ≤ R.slots) {o : Int32 × QS} (hRt : RtIc (wX E) E p l e R s m args below meth c A cells slots Q cX6_gather o) {B21 : QS → Int32 → Int32 → Option (Int32 × QS)} (hB21 : ∀ (q : QS) (x1 : Int32) (x2 : Int32), B21 q x1 x2 = some o → ∀ ls : Array Slot, lv_has ls 6 [(0, .ref (eA E 47)), (1, .int x1), (2, .int x2)] → Wq (wX E) E p l e R s m args below meth c A cells slots Q q (F0 m 21 ls [])) (q : QS) (x1 : Int32) (x2 : Int32) (h : f_X6_gather_125 B21 q x1 x2 = some o) (ls : Array Slot) (hl : lv_has ls 6 [(0, .ref (eA E 47)), (1, .int x1), (2, .int x2)]) : Wq (wX E) E p l e R s m args below meth c A cells slots Q q (F0 m 125 ls []) := by
  intro H locs hP hD hS
  have hx := F.1
  have hb := F.2.1
  unfold f_X6_gather_125 at h
  refine lv_iinc (v := (x2 + (1 : Int32))) (lv' := [(2, .int (x2 + (1 : Int32))), (0, .ref (eA E 47)), (1, .int x1)]) hx hb dX6_gather_125 hl (k := 2) rfl rfl (by decide) rfl (fun ls hl => ?_)
  refine lv_goto (tgt := 21) hx hb dX6_gather_128 (by decide) ?_
  exact hB21 q x1 (x2 + (1 : Int32)) h _ (lv_sub hl [1, 2, 0] rfl) _ _ hP hD hS
def f_X6_gather_21_b (B21 : QS → Int32 → Int32 → Option (Int32 × QS)) (q : QS) (x1 : Int32) (x2 : Int32) : Option (Int32 × QS) :=
  (f_X7_choicesIn q (0 : Int32)).bind fun r1 =>
  if r1 ≤ x2 then
    some (x1, q)
  else
    f_X6_gather_35 (f_X6_gather_125 B21) FU q x1 x2 (0 : Int32)
set_option maxHeartbeats 4000000 in
set_option maxRecDepth 100000 in
theorem g_X6_gather_21_b {E : En} {p : Program} {l : Launch} {e : Env} {s : State} {m : MethodId} {args : Array Value} {below : List Frame} {meth : Method} {c : Code} {A : Nat → Prop} {Q : State → Prop} (F : Fx E p s m args meth c (yX6_gather).cls cX6_gather 6 (some .int)) (hA : ∀ z : Nat, s.heap.size ≤ z → A z) {R : Room} {cells slots : Nat} (hR1 : 5 ≤ R.frames) (hR2 : 118 ≤ R.locals) (hC1 : cells ≤ R.cells) (hC2 : slots ≤ R.slots) {o : Int32 × QS} (hRt : RtIc (wX E) E p l e R s m args below meth c A cells slots Q cX6_gather o) {B21 : QS → Int32 → Int32 → Option (Int32 × QS)} (hB21 : ∀ (q : QS) (x1 : Int32) (x2 : Int32), B21 q x1 x2 = some o → ∀ ls : Array Slot, lv_has ls 6 [(0, .ref (eA E 47)), (1, .int x1), (2, .int x2)] → Wq (wX E) E p l e R s m args below meth c A cells slots Q q (F0 m 21 ls [])) (q : QS) (x1 : Int32) (x2 : Int32) (h : f_X6_gather_21_b B21 q x1 x2 = some o) (ls : Array Slot) (hl : lv_has ls 6 [(0, .ref (eA E 47)), (1, .int x1), (2, .int x2)]) : Wq (wX E) E p l e R s m args below meth c A cells slots Q q (F0 m 21 ls []) := by
  intro H locs hP hD hS
  have hx := F.1
  have hb := F.2.1
  unfold f_X6_gather_21_b at h
  refine lv_iload_n hx hb dX6_gather_21 rfl (lv_at hl 2 rfl) ?_
  refine lv_aload_n hx hb dX6_gather_22 rfl (lv_at hl 0 rfl) ?_
  refine r_get F hP i_X6 47 (xe_47 E q) rfl 0 (by decide) rfl lf_X6_28 rfl dX6_gather_23 ?_
  refine lv_iconst (v := 0) hx hb dX6_gather_26 (by decide) ?_
  obtain ⟨r1, e2, h⟩ := Option.bind_eq_some_iff.mp h
  refine q_callV (As := [.int (0 : Int32)]) (rest := [.int x2]) F hA hP hD hS (c_X7_choicesIn (E := E) (l := l) q (0 : Int32) e2) k_X7_choicesIn in_X7_choicesIn se_X7_choicesIn lm_X6_142 25 (xe_25 E q) rfl ⟨rfl, rfl⟩ ⟨Nat.le_trans (by decide) hR1, Nat.le_trans (by decide) hR2⟩ rfl hl.1 rfl (Nat.le_of_ble_eq_true rfl) dX6_gather_27 ⟨hC1, hC2⟩ ?_
  intro H locs hP hD hS
  refine lv_icmp_ge (tgt := 131) hx hb dX6_gather_30 (by decide) (fun c3 => ?_) (fun c3 => ?_)
  · rw [if_pos c3] at h
    refine lv_iload_n hx hb dX6_gather_131 rfl (lv_at hl 1 rfl) ?_
    cases h
    exact hRt _ _ dX6_gather_132 _ _ hP hD hS
  · rw [if_neg c3] at h
    refine lv_iconst (v := 0) hx hb dX6_gather_33 (by decide) ?_
    refine lv_istore_n (lv' := [(3, .int (0 : Int32)), (0, .ref (eA E 47)), (1, .int x1), (2, .int x2)]) hx hb dX6_gather_34 rfl hl (by decide) rfl (fun ls hl => ?_)
    exact g_X6_gather_35 F hA hR1 hR2 hC1 hC2 hRt (g_X6_gather_125 F hA hR1 hR2 hC1 hC2 hRt hB21) FU q x1 x2 (0 : Int32) h _ (lv_sub hl [1, 2, 3, 0] rfl) _ _ hP hD hS
def f_X6_gather_21 : Nat → QS → Int32 → Int32 → Option (Int32 × QS)
  | 0 => fun _ _ _ => none
  | n + 1 => f_X6_gather_21_b (f_X6_gather_21 n)
theorem g_X6_gather_21 {E : En} {p : Program} {l : Launch} {e : Env} {s : State} {m : MethodId} {args : Array Value} {below : List Frame} {meth : Method} {c : Code} {A : Nat → Prop} {Q : State → Prop} (F : Fx E p s m args meth c (yX6_gather).cls cX6_gather 6 (some .int)) (hA : ∀ z : Nat, s.heap.size ≤ z → A z) {R : Room} {cells slots : Nat} (hR1 : 5 ≤ R.frames) (hR2 : 118 ≤ R.locals) (hC1 : cells ≤ R.cells) (hC2 : slots ≤ R.slots) {o : Int32 × QS} (hRt : RtIc (wX E) E p l e R s m args below meth c A cells slots Q cX6_gather o) (n : Nat) : ∀ (q : QS) (x1 : Int32) (x2 : Int32), f_X6_gather_21 n q x1 x2 = some o → ∀ ls : Array Slot, lv_has ls 6 [(0, .ref (eA E 47)), (1, .int x1), (2, .int x2)] → Wq (wX E) E p l e R s m args below meth c A cells slots Q q (F0 m 21 ls []) := by
  induction n with
  | zero => intro q x1 x2 h; cases h
  | succ n ih => intro q x1 x2 h; exact g_X6_gather_21_b F hA hR1 hR2 hC1 hC2 hRt ih q x1 x2 h
def f_X6_gather_17 (q : QS) : Option (Int32 × QS) :=
  f_X6_gather_21 FU q (0 : Int32) (0 : Int32)
set_option maxHeartbeats 4000000 in
set_option maxRecDepth 100000 in
theorem g_X6_gather_17 {E : En} {p : Program} {l : Launch} {e : Env} {s : State} {m : MethodId} {args : Array Value} {below : List Frame} {meth : Method} {c : Code} {A : Nat → Prop} {Q : State → Prop} (F : Fx E p s m args meth c (yX6_gather).cls cX6_gather 6 (some .int)) (hA : ∀ z : Nat, s.heap.size ≤ z → A z) {R : Room} {cells slots : Nat} (hR1 : 5 ≤ R.frames) (hR2 : 118 ≤ R.locals) (hC1 : cells ≤ R.cells) (hC2 : slots ≤ R.slots) {o : Int32 × QS} (hRt : RtIc (wX E) E p l e R s m args below meth c A cells slots Q cX6_gather o) (q : QS) (h : f_X6_gather_17 q = some o) (ls : Array Slot) (hl : lv_has ls 6 [(0, .ref (eA E 47))]) : Wq (wX E) E p l e R s m args below meth c A cells slots Q q (F0 m 17 ls []) := by
  intro H locs hP hD hS
  have hx := F.1
  have hb := F.2.1
  unfold f_X6_gather_17 at h
  refine lv_iconst (v := 0) hx hb dX6_gather_17 (by decide) ?_
  refine lv_istore_n (lv' := [(1, .int (0 : Int32)), (0, .ref (eA E 47))]) hx hb dX6_gather_18 rfl hl (by decide) rfl (fun ls hl => ?_)
  refine lv_iconst (v := 0) hx hb dX6_gather_19 (by decide) ?_
  refine lv_istore_n (lv' := [(2, .int (0 : Int32)), (1, .int (0 : Int32)), (0, .ref (eA E 47))]) hx hb dX6_gather_20 rfl hl (by decide) rfl (fun ls hl => ?_)
  exact g_X6_gather_21 F hA hR1 hR2 hC1 hC2 hRt FU q (0 : Int32) (0 : Int32) h _ (lv_sub hl [2, 1, 0] rfl) _ _ hP hD hS
def f_X9_run_0 (KA : QS → Option (Int32 × QS)) (q : QS) : Option (Int32 × QS) :=
  if (qF q 14) = 0 then
    some ((-1 : Int32), q)
  else
    if (qF q 6) = 0 then
      some ((-1 : Int32), q)
    else
      (f_X6_plan q).bind fun r3 =>
      (f_X6_hasLooseColumn r3).bind fun r5 =>
      if r5 = 0 then
        (f_X7_product r3).bind fun r8 =>
        if r8 ≤ (40000 : Int32) then
          KA r3
        else
          some ((-2 : Int32), r3)
      else
        some ((-3 : Int32), r3)
set_option maxHeartbeats 4000000 in
set_option maxRecDepth 100000 in
theorem g_X9_run_0 {E : En} {p : Program} {l : Launch} {e : Env} {s : State} {m : MethodId} {args : Array Value} {below : List Frame} {meth : Method} {c : Code} {A : Nat → Prop} {Q : State → Prop} (F : Fx E p s m args meth c (yX9_run).cls cX9_run 5 (some .int)) (hA : ∀ z : Nat, s.heap.size ≤ z → A z) {R : Room} {cells slots : Nat} (hR1 : 6 ≤ R.frames) (hR2 : 144 ≤ R.locals) (hC1 : cells ≤ R.cells) (hC2 : slots ≤ R.slots) {o : Int32 × QS} (hRt : RtIc (wX E) E p l e R s m args below meth c A cells slots Q cX9_run o) {KA : QS → Option (Int32 × QS)} (hKA : ∀ (q : QS), KA q = some o → ∀ ls : Array Slot, lv_has ls 5 [(0, .ref (eA E 24))] → Wq (wX E) E p l e R s m args below meth c A cells slots Q q (F0 m 61 ls [.ref (eA E 47)])) (q : QS) (h : f_X9_run_0 KA q = some o) (ls : Array Slot) (hl : lv_has ls 5 [(0, .ref (eA E 24))]) : Wq (wX E) E p l e R s m args below meth c A cells slots Q q (F0 m 0 ls []) := by
  intro H locs hP hD hS
  have hx := F.1
  have hb := F.2.1
  unfold f_X9_run_0 at h
  refine lv_aload_n hx hb dX9_run_0 rfl (lv_at hl 0 rfl) ?_
  refine r_get F hP i_X9 24 (xe_24 E q) rfl 1 (by decide) rfl lf_X9_21 rfl dX9_run_1 ?_
  refine r_get F hP i_X7 25 (xe_25 E q) rfl 0 (by decide) rfl lf_X9_58 rfl dX9_run_4 ?_
  refine lv_if_eq (tgt := 20) hx hb dX9_run_7 (by decide) (fun c1 => ?_) (fun c1 => ?_)
  · rw [if_pos c1] at h
    refine lv_iconst (v := (-1)) hx hb dX9_run_20 (by decide) ?_
    cases h
    exact hRt _ _ dX9_run_21 _ _ hP hD hS
  · rw [if_neg c1] at h
    refine lv_aload_n hx hb dX9_run_10 rfl (lv_at hl 0 rfl) ?_
    refine r_get F hP i_X9 24 (xe_24 E q) rfl 3 (by decide) rfl lf_X9_35 rfl dX9_run_11 ?_
    refine r_get F hP i_X4 38 (xe_38 E q) rfl 0 (by decide) rfl lf_X9_169 rfl dX9_run_14 ?_
    refine lv_if_ne (tgt := 22) hx hb dX9_run_17 (by decide) (fun c2 => ?_) (fun c2 => ?_)
    · rw [if_neg c2] at h
      refine lv_aload_n hx hb dX9_run_22 rfl (lv_at hl 0 rfl) ?_
      refine r_get F hP i_X9 24 (xe_24 E q) rfl 5 (by decide) rfl lf_X9_51 rfl dX9_run_23 ?_
      obtain ⟨r3, e4, h⟩ := Option.bind_eq_some_iff.mp h
      refine q_callV (As := []) (rest := []) F hA hP hD hS (c_X6_plan (E := E) (l := l) q e4) k_X6_plan in_X6_plan se_X6_plan lm_X9_172 47 (xe_47 E q) rfl ⟨rfl, rfl⟩ ⟨Nat.le_trans (by decide) hR1, Nat.le_trans (by decide) hR2⟩ rfl hl.1 rfl (Nat.le_of_ble_eq_true rfl) dX9_run_26 ⟨hC1, hC2⟩ ?_
      intro H locs hP hD hS
      refine lv_aload_n hx hb dX9_run_29 rfl (lv_at hl 0 rfl) ?_
      refine r_get F hP i_X9 24 (xe_24 E r3) rfl 5 (by decide) rfl lf_X9_51 rfl dX9_run_30 ?_
      obtain ⟨r5, e6, h⟩ := Option.bind_eq_some_iff.mp h
      refine q_callV (As := []) (rest := []) F hA hP hD hS (c_X6_hasLooseColumn (E := E) (l := l) r3 e6) k_X6_hasLooseColumn in_X6_hasLooseColumn se_X6_hasLooseColumn lm_X9_175 47 (xe_47 E r3) rfl ⟨rfl, rfl⟩ ⟨Nat.le_trans (by decide) hR1, Nat.le_trans (by decide) hR2⟩ rfl hl.1 rfl (Nat.le_of_ble_eq_true rfl) dX9_run_33 ⟨hC1, hC2⟩ ?_
      intro H locs hP hD hS
      refine lv_if_eq (tgt := 42) hx hb dX9_run_36 (by decide) (fun c7 => ?_) (fun c7 => ?_)
      · rw [if_pos c7] at h
        refine lv_aload_n hx hb dX9_run_42 rfl (lv_at hl 0 rfl) ?_
        refine r_get F hP i_X9 24 (xe_24 E r3) rfl 1 (by decide) rfl lf_X9_21 rfl dX9_run_43 ?_
        obtain ⟨r8, e9, h⟩ := Option.bind_eq_some_iff.mp h
        refine q_callV (As := []) (rest := []) F hA hP hD hS (c_X7_product (E := E) (l := l) r3 e9) k_X7_product in_X7_product se_X7_product lm_X9_178 25 (xe_25 E r3) rfl ⟨rfl, rfl⟩ ⟨Nat.le_trans (by decide) hR1, Nat.le_trans (by decide) hR2⟩ rfl hl.1 rfl (Nat.le_of_ble_eq_true rfl) dX9_run_46 ⟨hC1, hC2⟩ ?_
        intro H locs hP hD hS
        refine lv_ldc (v := 40000) hx hb F.2.2.2.1 (F.2.2.2.2.1 _ lc_X9_182) dX9_run_49 ?_
        refine lv_icmp_le (tgt := 57) hx hb dX9_run_51 (by decide) (fun c10 => ?_) (fun c10 => ?_)
        · rw [if_pos c10] at h
          refine lv_aload_n hx hb dX9_run_57 rfl (lv_at hl 0 rfl) ?_
          refine r_get F hP i_X9 24 (xe_24 E r3) rfl 5 (by decide) rfl lf_X9_51 rfl dX9_run_58 ?_
          exact hKA r3 h _ (lv_sub hl [0] rfl) _ _ hP hD hS
        · rw [if_neg c10] at h
          refine lv_bipush (v := (-2)) hx hb dX9_run_54 (by decide) ?_
          cases h
          exact hRt _ _ dX9_run_56 _ _ hP hD hS
      · rw [if_neg c7] at h
        refine lv_bipush (v := (-3)) hx hb dX9_run_39 (by decide) ?_
        cases h
        exact hRt _ _ dX9_run_41 _ _ hP hD hS
    · rw [if_pos c2] at h
      refine lv_iconst (v := (-1)) hx hb dX9_run_20 (by decide) ?_
      cases h
      exact hRt _ _ dX9_run_21 _ _ hP hD hS
def f_X9_run_86_b (K105 : QS → Int32 → Option (Int32 × QS)) (B86 : QS → Int32 → Int32 → Option (Int32 × QS)) (q : QS) (x2 : Int32) (x3 : Int32) : Option (Int32 × QS) :=
  if x2 ≤ x3 then
    K105 q x2
  else
    (f_X6_workOutRow q x3).bind fun r5 =>
    B86 r5 x2 (x3 + (1 : Int32))
set_option maxHeartbeats 4000000 in
set_option maxRecDepth 100000 in
theorem g_X9_run_86_b {E : En} {p : Program} {l : Launch} {e : Env} {s : State} {m : MethodId} {args : Array Value} {below : List Frame} {meth : Method} {c : Code} {A : Nat → Prop} {Q : State → Prop} (F : Fx E p s m args meth c (yX9_run).cls cX9_run 5 (some .int)) (hA : ∀ z : Nat, s.heap.size ≤ z → A z) {R : Room} {cells slots : Nat} (hR1 : 6 ≤ R.frames) (hR2 : 144 ≤ R.locals) (hC1 : cells ≤ R.cells) (hC2 : slots ≤ R.slots) {o : Int32 × QS} (hRt : RtIc (wX E) E p l e R s m args below meth c A cells slots Q cX9_run o) {K105 : QS → Int32 → Option (Int32 × QS)} {B86 : QS → Int32 → Int32 → Option (Int32 × QS)} (hK105 : ∀ (q : QS) (x2 : Int32), K105 q x2 = some o → ∀ ls : Array Slot, lv_has ls 5 [(0, .ref (eA E 24)), (2, .int x2)] → Wq (wX E) E p l e R s m args below meth c A cells slots Q q (F0 m 105 ls [])) (hB86 : ∀ (q : QS) (x2 : Int32) (x3 : Int32), B86 q x2 x3 = some o → ∀ ls : Array Slot, lv_has ls 5 [(0, .ref (eA E 24)), (2, .int x2), (3, .int x3)] → Wq (wX E) E p l e R s m args below meth c A cells slots Q q (F0 m 86 ls [])) (q : QS) (x2 : Int32) (x3 : Int32) (h : f_X9_run_86_b K105 B86 q x2 x3 = some o) (ls : Array Slot) (hl : lv_has ls 5 [(0, .ref (eA E 24)), (2, .int x2), (3, .int x3)]) : Wq (wX E) E p l e R s m args below meth c A cells slots Q q (F0 m 86 ls []) := by
  intro H locs hP hD hS
  have hx := F.1
  have hb := F.2.1
  unfold f_X9_run_86_b at h
  refine lv_iload_n hx hb dX9_run_86 rfl (lv_at hl 2 rfl) ?_
  refine lv_iload_n hx hb dX9_run_87 rfl (lv_at hl 1 rfl) ?_
  refine lv_icmp_ge (tgt := 105) hx hb dX9_run_88 (by decide) (fun c4 => ?_) (fun c4 => ?_)
  · rw [if_pos c4] at h
    exact hK105 q x2 h _ (lv_sub hl [0, 1] rfl) _ _ hP hD hS
  · rw [if_neg c4] at h
    refine lv_aload_n hx hb dX9_run_91 rfl (lv_at hl 0 rfl) ?_
    refine r_get F hP i_X9 24 (xe_24 E q) rfl 5 (by decide) rfl lf_X9_51 rfl dX9_run_92 ?_
    refine lv_iload_n hx hb dX9_run_95 rfl (lv_at hl 2 rfl) ?_
    obtain ⟨r5, e6, h⟩ := Option.bind_eq_some_iff.mp h
    refine q_callV (As := [.int x3]) (rest := []) F hA hP hD hS (c_X6_workOutRow (E := E) (l := l) q x3 e6) k_X6_workOutRow in_X6_workOutRow se_X6_workOutRow lm_X9_189 47 (xe_47 E q) rfl ⟨rfl, rfl⟩ ⟨Nat.le_trans (by decide) hR1, Nat.le_trans (by decide) hR2⟩ rfl hl.1 rfl (Nat.le_of_ble_eq_true rfl) dX9_run_96 ⟨hC1, hC2⟩ ?_
    intro H locs hP hD hS
    refine lv_iinc (v := (x3 + (1 : Int32))) (lv' := [(3, .int (x3 + (1 : Int32))), (0, .ref (eA E 24)), (2, .int x2)]) hx hb dX9_run_99 hl (k := 2) rfl rfl (by decide) rfl (fun ls hl => ?_)
    refine lv_goto (tgt := 86) hx hb dX9_run_102 (by decide) ?_
    exact hB86 r5 x2 (x3 + (1 : Int32)) h _ (lv_sub hl [1, 2, 0] rfl) _ _ hP hD hS
def f_X9_run_86 (K105 : QS → Int32 → Option (Int32 × QS)) : Nat → QS → Int32 → Int32 → Option (Int32 × QS)
  | 0 => fun _ _ _ => none
  | n + 1 => f_X9_run_86_b K105 (f_X9_run_86 K105 n)
theorem g_X9_run_86 {E : En} {p : Program} {l : Launch} {e : Env} {s : State} {m : MethodId} {args : Array Value} {below : List Frame} {meth : Method} {c : Code} {A : Nat → Prop} {Q : State → Prop} (F : Fx E p s m args meth c (yX9_run).cls cX9_run 5 (some .int)) (hA : ∀ z : Nat, s.heap.size ≤ z → A z) {R : Room} {cells slots : Nat} (hR1 : 6 ≤ R.frames) (hR2 : 144 ≤ R.locals) (hC1 : cells ≤ R.cells) (hC2 : slots ≤ R.slots) {o : Int32 × QS} (hRt : RtIc (wX E) E p l e R s m args below meth c A cells slots Q cX9_run o) {K105 : QS → Int32 → Option (Int32 × QS)} (hK105 : ∀ (q : QS) (x2 : Int32), K105 q x2 = some o → ∀ ls : Array Slot, lv_has ls 5 [(0, .ref (eA E 24)), (2, .int x2)] → Wq (wX E) E p l e R s m args below meth c A cells slots Q q (F0 m 105 ls [])) (n : Nat) : ∀ (q : QS) (x2 : Int32) (x3 : Int32), f_X9_run_86 K105 n q x2 x3 = some o → ∀ ls : Array Slot, lv_has ls 5 [(0, .ref (eA E 24)), (2, .int x2), (3, .int x3)] → Wq (wX E) E p l e R s m args below meth c A cells slots Q q (F0 m 86 ls []) := by
  induction n with
  | zero => intro q x2 x3 h; cases h
  | succ n ih => intro q x2 x3 h; exact g_X9_run_86_b F hA hR1 hR2 hC1 hC2 hRt hK105 ih q x2 x3 h
def f_X9_run_105 (q : QS) (x2 : Int32) : Option (Int32 × QS) :=
  (f_X6_rankRows q x2).bind fun r7 =>
  (f_X6_sortRanks r7.2 r7.1).bind fun r9 =>
  (f_X4_cutToLimit r9 r7.1).bind fun r11 =>
  (f_X0_keep r9 r11 (qF r9 6)).bind fun r13 =>
  some (r11, r13)
set_option maxHeartbeats 4000000 in
set_option maxRecDepth 100000 in
theorem g_X9_run_105 {E : En} {p : Program} {l : Launch} {e : Env} {s : State} {m : MethodId} {args : Array Value} {below : List Frame} {meth : Method} {c : Code} {A : Nat → Prop} {Q : State → Prop} (F : Fx E p s m args meth c (yX9_run).cls cX9_run 5 (some .int)) (hA : ∀ z : Nat, s.heap.size ≤ z → A z) {R : Room} {cells slots : Nat} (hR1 : 6 ≤ R.frames) (hR2 : 144 ≤ R.locals) (hC1 : cells ≤ R.cells) (hC2 : slots ≤ R.slots) {o : Int32 × QS} (hRt : RtIc (wX E) E p l e R s m args below meth c A cells slots Q cX9_run o) (q : QS) (x2 : Int32) (h : f_X9_run_105 q x2 = some o) (ls : Array Slot) (hl : lv_has ls 5 [(0, .ref (eA E 24)), (2, .int x2)]) : Wq (wX E) E p l e R s m args below meth c A cells slots Q q (F0 m 105 ls []) := by
  intro H locs hP hD hS
  have hx := F.1
  have hb := F.2.1
  unfold f_X9_run_105 at h
  refine lv_aload_n hx hb dX9_run_105 rfl (lv_at hl 0 rfl) ?_
  refine r_get F hP i_X9 24 (xe_24 E q) rfl 5 (by decide) rfl lf_X9_51 rfl dX9_run_106 ?_
  refine lv_iload_n hx hb dX9_run_109 rfl (lv_at hl 1 rfl) ?_
  obtain ⟨r7, e8, h⟩ := Option.bind_eq_some_iff.mp h
  refine q_callV (As := [.int x2]) (rest := []) F hA hP hD hS (c_X6_rankRows (E := E) (l := l) q x2 e8) k_X6_rankRows in_X6_rankRows se_X6_rankRows lm_X9_192 47 (xe_47 E q) rfl ⟨rfl, rfl⟩ ⟨Nat.le_trans (by decide) hR1, Nat.le_trans (by decide) hR2⟩ rfl hl.1 rfl (Nat.le_of_ble_eq_true rfl) dX9_run_110 ⟨hC1, hC2⟩ ?_
  intro H locs hP hD hS
  refine lv_istore_n (lv' := [(3, .int r7.1), (0, .ref (eA E 24)), (2, .int x2)]) hx hb dX9_run_113 rfl hl (by decide) rfl (fun ls hl => ?_)
  refine lv_aload_n hx hb dX9_run_114 rfl (lv_at hl 1 rfl) ?_
  refine r_get F hP i_X9 24 (xe_24 E r7.2) rfl 5 (by decide) rfl lf_X9_51 rfl dX9_run_115 ?_
  refine lv_iload_n hx hb dX9_run_118 rfl (lv_at hl 0 rfl) ?_
  obtain ⟨r9, e10, h⟩ := Option.bind_eq_some_iff.mp h
  refine q_callV (As := [.int r7.1]) (rest := []) F hA hP hD hS (c_X6_sortRanks (E := E) (l := l) r7.2 r7.1 e10) k_X6_sortRanks in_X6_sortRanks se_X6_sortRanks lm_X9_195 47 (xe_47 E r7.2) rfl ⟨rfl, rfl⟩ ⟨Nat.le_trans (by decide) hR1, Nat.le_trans (by decide) hR2⟩ rfl hl.1 rfl (Nat.le_of_ble_eq_true rfl) dX9_run_119 ⟨hC1, hC2⟩ ?_
  intro H locs hP hD hS
  refine lv_aload_n hx hb dX9_run_122 rfl (lv_at hl 1 rfl) ?_
  refine r_get F hP i_X9 24 (xe_24 E r9) rfl 3 (by decide) rfl lf_X9_35 rfl dX9_run_123 ?_
  refine lv_iload_n hx hb dX9_run_126 rfl (lv_at hl 0 rfl) ?_
  obtain ⟨r11, e12, h⟩ := Option.bind_eq_some_iff.mp h
  refine q_callV (As := [.int r7.1]) (rest := []) F hA hP hD hS (c_X4_cutToLimit (E := E) (l := l) r9 r7.1 e12) k_X4_cutToLimit in_X4_cutToLimit se_X4_cutToLimit lm_X9_198 38 (xe_38 E r9) rfl ⟨rfl, rfl⟩ ⟨Nat.le_trans (by decide) hR1, Nat.le_trans (by decide) hR2⟩ rfl hl.1 rfl (Nat.le_of_ble_eq_true rfl) dX9_run_127 ⟨hC1, hC2⟩ ?_
  intro H locs hP hD hS
  refine lv_istore (lv' := [(4, .int r11), (3, .int r7.1), (0, .ref (eA E 24)), (2, .int x2)]) hx hb dX9_run_130 hl (by decide) rfl (fun ls hl => ?_)
  refine lv_aload_n hx hb dX9_run_132 rfl (lv_at hl 2 rfl) ?_
  refine r_get F hP i_X9 24 (xe_24 E r9) rfl 4 (by decide) rfl lf_X9_42 rfl dX9_run_133 ?_
  refine lv_aload_n hx hb dX9_run_136 rfl (lv_at hl 2 rfl) ?_
  refine r_get F hP i_X9 24 (xe_24 E r9) rfl 5 (by decide) rfl lf_X9_51 rfl dX9_run_137 ?_
  refine r_get F hP i_X6 47 (xe_47 E r9) rfl 9 (by decide) rfl lf_X9_201 rfl dX9_run_140 ?_
  refine lv_iload hx hb dX9_run_143 (lv_at hl 0 rfl) ?_
  refine lv_aload_n hx hb dX9_run_145 rfl (lv_at hl 2 rfl) ?_
  refine r_get F hP i_X9 24 (xe_24 E r9) rfl 3 (by decide) rfl lf_X9_35 rfl dX9_run_146 ?_
  refine r_get F hP i_X4 38 (xe_38 E r9) rfl 0 (by decide) rfl lf_X9_169 rfl dX9_run_149 ?_
  obtain ⟨r13, e14, h⟩ := Option.bind_eq_some_iff.mp h
  refine q_callV (As := [.ref (eA E 49), .int r11, .int (qF r9 6)]) (rest := []) F hA hP hD hS (c_X0_keep (E := E) (l := l) r9 r11 (qF r9 6) e14) k_X0_keep in_X0_keep se_X0_keep lm_X9_205 44 (xe_44 E r9) rfl ⟨rfl, rfl⟩ ⟨Nat.le_trans (by decide) hR1, Nat.le_trans (by decide) hR2⟩ rfl hl.1 rfl (Nat.le_of_ble_eq_true rfl) dX9_run_152 ⟨hC1, hC2⟩ ?_
  intro H locs hP hD hS
  refine lv_iload hx hb dX9_run_155 (lv_at hl 0 rfl) ?_
  cases h
  exact hRt _ _ dX9_run_157 _ _ hP hD hS
def f_X9_run_64 (q : QS) (t0 : Int32) : Option (Int32 × QS) :=
  if t0 ≤ (2000 : Int32) then
    (f_X6_makeRows q t0).bind fun r2 =>
    f_X9_run_86 (f_X9_run_105) FU r2.2 r2.1 (0 : Int32)
  else
    some ((-2 : Int32), q)
set_option maxHeartbeats 4000000 in
set_option maxRecDepth 100000 in
theorem g_X9_run_64 {E : En} {p : Program} {l : Launch} {e : Env} {s : State} {m : MethodId} {args : Array Value} {below : List Frame} {meth : Method} {c : Code} {A : Nat → Prop} {Q : State → Prop} (F : Fx E p s m args meth c (yX9_run).cls cX9_run 5 (some .int)) (hA : ∀ z : Nat, s.heap.size ≤ z → A z) {R : Room} {cells slots : Nat} (hR1 : 6 ≤ R.frames) (hR2 : 144 ≤ R.locals) (hC1 : cells ≤ R.cells) (hC2 : slots ≤ R.slots) {o : Int32 × QS} (hRt : RtIc (wX E) E p l e R s m args below meth c A cells slots Q cX9_run o) (q : QS) (t0 : Int32) (h : f_X9_run_64 q t0 = some o) (ls : Array Slot) (hl : lv_has ls 5 [(0, .ref (eA E 24))]) : Wq (wX E) E p l e R s m args below meth c A cells slots Q q (F0 m 64 ls [.int t0]) := by
  intro H locs hP hD hS
  have hx := F.1
  have hb := F.2.1
  unfold f_X9_run_64 at h
  refine lv_istore_n (lv' := [(1, .int t0), (0, .ref (eA E 24))]) hx hb dX9_run_64 rfl hl (by decide) rfl (fun ls hl => ?_)
  refine lv_iload_n hx hb dX9_run_65 rfl (lv_at hl 0 rfl) ?_
  refine lv_sipush (v := 2000) hx hb dX9_run_66 (by decide) ?_
  refine lv_icmp_le (tgt := 75) hx hb dX9_run_69 (by decide) (fun c1 => ?_) (fun c1 => ?_)
  · rw [if_pos c1] at h
    refine lv_aload_n hx hb dX9_run_75 rfl (lv_at hl 1 rfl) ?_
    refine r_get F hP i_X9 24 (xe_24 E q) rfl 5 (by decide) rfl lf_X9_51 rfl dX9_run_76 ?_
    refine lv_iload_n hx hb dX9_run_79 rfl (lv_at hl 0 rfl) ?_
    obtain ⟨r2, e3, h⟩ := Option.bind_eq_some_iff.mp h
    refine q_callV (As := [.int t0]) (rest := []) F hA hP hD hS (c_X6_makeRows (E := E) (l := l) q t0 e3) k_X6_makeRows in_X6_makeRows se_X6_makeRows lm_X9_186 47 (xe_47 E q) rfl ⟨rfl, rfl⟩ ⟨Nat.le_trans (by decide) hR1, Nat.le_trans (by decide) hR2⟩ rfl hl.1 rfl (Nat.le_of_ble_eq_true rfl) dX9_run_80 ⟨hC1, hC2⟩ ?_
    intro H locs hP hD hS
    refine lv_istore_n (lv' := [(2, .int r2.1), (1, .int t0), (0, .ref (eA E 24))]) hx hb dX9_run_83 rfl hl (by decide) rfl (fun ls hl => ?_)
    refine lv_iconst (v := 0) hx hb dX9_run_84 (by decide) ?_
    refine lv_istore_n (lv' := [(3, .int (0 : Int32)), (2, .int r2.1), (1, .int t0), (0, .ref (eA E 24))]) hx hb dX9_run_85 rfl hl (by decide) rfl (fun ls hl => ?_)
    exact g_X9_run_86 F hA hR1 hR2 hC1 hC2 hRt (g_X9_run_105 F hA hR1 hR2 hC1 hC2 hRt) FU r2.2 r2.1 (0 : Int32) h _ (lv_sub hl [3, 1, 0] rfl) _ _ hP hD hS
  · rw [if_neg c1] at h
    refine lv_bipush (v := (-2)) hx hb dX9_run_72 (by decide) ?_
    cases h
    exact hRt _ _ dX9_run_74 _ _ hP hD hS
