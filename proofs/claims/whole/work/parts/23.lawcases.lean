def bz (x : Int32) : Int32 := if x = 0 then 0 else 1
def lng (a b : Int32) : Int64 := (a.toInt64 <<< ((32 : Int32).toInt64 &&& 63)) ||| (b.toInt64 &&& 4294967295)
theorem lgc (v : Int64) : lg_cmp v v = 0 := by unfold lg_cmp; simp
/-- one call, number k of the law's, on both sides: the answers are the same -/
def St (k : Nat) (a1 a2 a3 a4 : Int32) (q r : QS) (mc ms : Nat) (q' r' : QS) : Prop := match k with
  | 0 => (mc = 0 ∧ ms = 0) ∧ (f_X9_reset q = some q' ∧ f_X10_reset r = some r')
  | 1 => (mc = 0 ∧ ms = 0) ∧ (∃ v : Int32, f_X9_table q a1 a2 = some (v, q') ∧ f_X10_table r a1 a2 = some (v, r'))
  | 2 => (mc = 0 ∧ ms = 0) ∧ (f_X9_clear q = some q' ∧ f_X10_clear r = some r')
  | 3 => (mc = 0 ∧ ms = 0) ∧ (∃ v : Int32, f_X9_cell q a1 (lng a2 a3) = some (v, q') ∧ f_X10_cell r a1 (lng a2 a3) = some (v, r'))
  | 4 => (mc = 0 ∧ ms = 0) ∧ (∃ v : Int32, f_X9_truth q a1 (bz a2) = some (v, q') ∧ f_X10_truth r a1 (bz a2) = some (v, r'))
  | 5 => (mc = 0 ∧ ms = 0) ∧ (∃ v : Int32, f_X9_text q a1 (lng a2 a3) a4 = some (v, q') ∧ f_X10_text r a1 (lng a2 a3) a4 = some (v, r'))
  | 6 => (mc = 0 ∧ ms = 0) ∧ (∃ v : Int32, f_X9_add q a1 = some (v, q') ∧ f_X10_add r a1 = some (v, r'))
  | 7 => (mc = 0 ∧ ms = 0) ∧ (∃ v : Int32, f_X9_column q a1 a2 = some (v, q') ∧ f_X10_column r a1 a2 = some (v, r'))
  | 8 => (mc = 0 ∧ ms = 0) ∧ (∃ v : Int32, f_X9_constant q = some (v, q') ∧ f_X10_constant r = some (v, r'))
  | 9 => (mc = 0 ∧ ms = 0) ∧ (∃ v : Int32, f_X9_node q a1 a2 a3 = some (v, q') ∧ f_X10_node r a1 a2 a3 = some (v, r'))
  | 10 => (mc = 0 ∧ ms = 0) ∧ (∃ v : Int32, f_X9_type q a1 = some v ∧ q' = q ∧ f_X10_type r a1 = some v ∧ r' = r)
  | 11 => (mc = 0 ∧ ms = 0) ∧ (∃ v : Int32, f_X9_where q a1 = some (v, q') ∧ f_X10_where r a1 = some (v, r'))
  | 12 => (mc = 0 ∧ ms = 0) ∧ (∃ v : Int32, f_X9_item q a1 = some (v, q') ∧ f_X10_item r a1 = some (v, r'))
  | 13 => (mc = 0 ∧ ms = 0) ∧ (∃ v : Int32, f_X9_group q a1 = some (v, q') ∧ f_X10_group r a1 = some (v, r'))
  | 14 => (mc = 0 ∧ ms = 0) ∧ (∃ v : Int32, f_X9_order q a1 (bz a2) = some (v, q') ∧ f_X10_order r a1 (bz a2) = some (v, r'))
  | 15 => (mc = 0 ∧ ms = 0) ∧ (∃ v : Int32, f_X9_limit q a1 = some (v, q') ∧ f_X10_limit r a1 = some (v, r'))
  | 16 => (mc = 0 ∧ ms = 0) ∧ (f_X9_distinct q (bz a1) = some q' ∧ f_X10_distinct r (bz a1) = some r')
  | 17 => ∃ v : Int32, f_run mc ms q = some (v, q') ∧ f_X10_run r = some (v, r')
  | 18 => (mc = 0 ∧ ms = 0) ∧ (∃ v : Int32, f_X9_kind q a1 a2 = some v ∧ q' = q ∧ f_X10_kind r a1 a2 = some v ∧ r' = r)
  | 19 => (mc = 0 ∧ ms = 0) ∧ (∃ v : Int64, f_X9_value q a1 a2 = some v ∧ q' = q ∧ f_X10_value r a1 a2 = some v ∧ r' = r)
  | 20 => (mc = 0 ∧ ms = 0) ∧ (∃ v : Int32, f_X9_letter q a1 a2 a3 = some v ∧ q' = q ∧ f_X10_letter r a1 a2 a3 = some v ∧ r' = r)
  | _ => (mc = 0 ∧ ms = 0) ∧ q' = q ∧ r' = r
set_option maxHeartbeats 4000000 in
set_option maxRecDepth 100000 in
theorem lwc_0 {E : En} {aM : Nat → Nat} {p : Program} {l : Launch} {e : Env} {s : State} {m : MethodId} {below : List Frame} {meth : Method} {c : Code} {A : Nat → Prop} {Q : State → Prop} {b L : Nat} {xs : Nat → Int32} (F : Fx E p s m #[Value.ref b] meth c RL code 4 ret) (hA : ∀ z : Nat, s.heap.size ≤ z → A z) (hbA : ¬ A b) (hX : va_X b L xs s s.heap) (hbl : b < s.heap.size) {x3 a1 a2 a3 a4 : Int32} (hi1 : vp_in (x3 + 1) L) (hi2 : vp_in (x3 + 2) L) (hi3 : vp_in (x3 + 3) L) (hi4 : vp_in (x3 + 4) L) (ea1 : xs (x3 + 1).toNatClampNeg = a1) (ea2 : xs (x3 + 2).toNatClampNeg = a2) (ea3 : xs (x3 + 3).toNatClampNeg = a3) (ea4 : xs (x3 + 4).toNatClampNeg = a4) {q r q' r' : QS} {mc ms cells slots : Nat} (hst : St 0 a1 a2 a3 a4 q r mc ms q' r') (hcs : cells + mc ≤ room_1.cells ∧ slots + ms ≤ room_1.slots) {H : Heap} {locs : List Loc} (hP : va_P E.1 vwCl (wX E q ++ wM (reA E aM) r) H) (hD : va_D A (wX E q ++ wM (reA E aM) r)) (hS : va_S A s.heap H locs) {ls : Array Slot} (hl : lv_has ls 4 [(0, .ref b), (1, .ref (eA E 24)), (2, .ref (aM 0)), (3, .int x3)])
    (kk : ∀ ad : Nat → Nat, (∀ k, rrole k = false → ad k = E.2.2 k) → ∀ (H1 : Heap) (locs1 : List Loc), va_P E.1 vwCl (wX (reA E ad) q' ++ wM (reA E aM) r') H1 → va_D A (wX (reA E ad) q' ++ wM (reA E aM) r') → va_S A s.heap H1 locs1 → W p l e room_1 s m #[Value.ref b] below meth c H1 locs1 (cells + mc) (slots + ms) Q (F0 m 808 ls [])) : W p l e room_1 s m #[Value.ref b] below meth c H locs cells slots Q (F0 m 132 ls []) := by
  have hx := F.1
  have hb := F.2.1
  obtain ⟨⟨emc, ems⟩, ⟨h1, h2⟩⟩ := hst
  subst emc; subst ems
  refine lv_aload_n hx hb dL_law_132 rfl (lv_at hl 1 rfl) ?_
  refine q_s1 (E := E) (a := wX E q) (wo := fun _ => wX E q') (ex := fun ad => ad = E.2.2) (As := []) (rest := []) F hA hP hD hS (ct_ex (c_X9_reset (E := E) (l := l) q h1)) k_X9_reset in_X9_reset se_X9_reset lm_L_13 24 (xe_24 E q) rfl ⟨rfl, rfl⟩ ⟨Nat.le_of_ble_eq_true rfl, Nat.le_of_ble_eq_true rfl⟩ rfl hl.1 rfl (Nat.le_of_ble_eq_true rfl) dL_law_133 hcs (fun _ _ H locs hP hD hS => ?_)
  refine lv_aload_n hx hb dL_law_136 rfl (lv_at hl 2 rfl) ?_
  refine q_s2 (E := E) (b := wM (reA E aM) r) (b' := wM (reA E aM) r') (As := []) (rest := []) F hA hP hD hS (c_X10_reset (E := reA E aM) (l := l) r h2) k_X10_reset in_X10_reset se_X10_reset lm_L_16 0 (me_0 (reA E aM) r) rfl ⟨rfl, rfl⟩ ⟨Nat.le_of_ble_eq_true rfl, Nat.le_of_ble_eq_true rfl⟩ rfl hl.1 rfl (Nat.le_of_ble_eq_true rfl) dL_law_137 hcs (fun H locs hP hD hS => ?_)
  refine lv_goto (tgt := 808) hx hb dL_law_140 (by decide) ?_
  exact kk E.2.2 (fun _ _ => rfl) _ _ hP hD hS
set_option maxHeartbeats 4000000 in
set_option maxRecDepth 100000 in
theorem lwc_1 {E : En} {aM : Nat → Nat} {p : Program} {l : Launch} {e : Env} {s : State} {m : MethodId} {below : List Frame} {meth : Method} {c : Code} {A : Nat → Prop} {Q : State → Prop} {b L : Nat} {xs : Nat → Int32} (F : Fx E p s m #[Value.ref b] meth c RL code 4 ret) (hA : ∀ z : Nat, s.heap.size ≤ z → A z) (hbA : ¬ A b) (hX : va_X b L xs s s.heap) (hbl : b < s.heap.size) {x3 a1 a2 a3 a4 : Int32} (hi1 : vp_in (x3 + 1) L) (hi2 : vp_in (x3 + 2) L) (hi3 : vp_in (x3 + 3) L) (hi4 : vp_in (x3 + 4) L) (ea1 : xs (x3 + 1).toNatClampNeg = a1) (ea2 : xs (x3 + 2).toNatClampNeg = a2) (ea3 : xs (x3 + 3).toNatClampNeg = a3) (ea4 : xs (x3 + 4).toNatClampNeg = a4) {q r q' r' : QS} {mc ms cells slots : Nat} (hst : St 1 a1 a2 a3 a4 q r mc ms q' r') (hcs : cells + mc ≤ room_1.cells ∧ slots + ms ≤ room_1.slots) {H : Heap} {locs : List Loc} (hP : va_P E.1 vwCl (wX E q ++ wM (reA E aM) r) H) (hD : va_D A (wX E q ++ wM (reA E aM) r)) (hS : va_S A s.heap H locs) {ls : Array Slot} (hl : lv_has ls 4 [(0, .ref b), (1, .ref (eA E 24)), (2, .ref (aM 0)), (3, .int x3)])
    (kk : ∀ ad : Nat → Nat, (∀ k, rrole k = false → ad k = E.2.2 k) → ∀ (H1 : Heap) (locs1 : List Loc), va_P E.1 vwCl (wX (reA E ad) q' ++ wM (reA E aM) r') H1 → va_D A (wX (reA E ad) q' ++ wM (reA E aM) r') → va_S A s.heap H1 locs1 → W p l e room_1 s m #[Value.ref b] below meth c H1 locs1 (cells + mc) (slots + ms) Q (F0 m 808 ls [])) : W p l e room_1 s m #[Value.ref b] below meth c H locs cells slots Q (F0 m 143 ls []) := by
  have hx := F.1
  have hb := F.2.1
  obtain ⟨⟨emc, ems⟩, ⟨v, h1, h2⟩⟩ := hst
  subst emc; subst ems
  refine lv_aload_n hx hb dL_law_143 rfl (lv_at hl 1 rfl) ?_
  refine lv_aload_n hx hb dL_law_144 rfl (lv_at hl 0 rfl) ?_
  refine lv_iload_n hx hb dL_law_145 rfl (lv_at hl 3 rfl) ?_
  refine lv_iconst (v := 1) hx hb dL_law_146 (by decide) ?_
  refine lv_iadd hx hb dL_law_147 ?_
  refine va_sld hx hb hX hbl hbA hS hi1 dL_law_148 ?_
  rw [ea1]
  refine lv_aload_n hx hb dL_law_149 rfl (lv_at hl 0 rfl) ?_
  refine lv_iload_n hx hb dL_law_150 rfl (lv_at hl 3 rfl) ?_
  refine lv_iconst (v := 2) hx hb dL_law_151 (by decide) ?_
  refine lv_iadd hx hb dL_law_152 ?_
  refine va_sld hx hb hX hbl hbA hS hi2 dL_law_153 ?_
  rw [ea2]
  refine q_s1 (E := E) (a := wX E q) (wo := fun _ => wX E q') (ex := fun ad => ad = E.2.2) (As := [.int a1, .int a2]) (rest := []) F hA hP hD hS (ct_ex (c_X9_table (E := E) (l := l) q a1 a2 h1)) k_X9_table in_X9_table se_X9_table lm_L_17 24 (xe_24 E q) rfl ⟨rfl, rfl⟩ ⟨Nat.le_of_ble_eq_true rfl, Nat.le_of_ble_eq_true rfl⟩ rfl hl.1 rfl (Nat.le_of_ble_eq_true rfl) dL_law_154 hcs (fun _ _ H locs hP hD hS => ?_)
  refine lv_aload_n hx hb dL_law_157 rfl (lv_at hl 2 rfl) ?_
  refine lv_aload_n hx hb dL_law_158 rfl (lv_at hl 0 rfl) ?_
  refine lv_iload_n hx hb dL_law_159 rfl (lv_at hl 3 rfl) ?_
  refine lv_iconst (v := 1) hx hb dL_law_160 (by decide) ?_
  refine lv_iadd hx hb dL_law_161 ?_
  refine va_sld hx hb hX hbl hbA hS hi1 dL_law_162 ?_
  rw [ea1]
  refine lv_aload_n hx hb dL_law_163 rfl (lv_at hl 0 rfl) ?_
  refine lv_iload_n hx hb dL_law_164 rfl (lv_at hl 3 rfl) ?_
  refine lv_iconst (v := 2) hx hb dL_law_165 (by decide) ?_
  refine lv_iadd hx hb dL_law_166 ?_
  refine va_sld hx hb hX hbl hbA hS hi2 dL_law_167 ?_
  rw [ea2]
  refine q_s2 (E := E) (b := wM (reA E aM) r) (b' := wM (reA E aM) r') (As := [.int a1, .int a2]) (rest := [.int v]) F hA hP hD hS (c_X10_table (E := reA E aM) (l := l) r a1 a2 h2) k_X10_table in_X10_table se_X10_table lm_L_21 0 (me_0 (reA E aM) r) rfl ⟨rfl, rfl⟩ ⟨Nat.le_of_ble_eq_true rfl, Nat.le_of_ble_eq_true rfl⟩ rfl hl.1 rfl (Nat.le_of_ble_eq_true rfl) dL_law_168 hcs (fun H locs hP hD hS => ?_)
  refine lv_icmp_eq (tgt := 808) hx hb dL_law_171 (by decide) (fun _ => ?_) (fun c => absurd rfl c)
  exact kk E.2.2 (fun _ _ => rfl) _ _ hP hD hS
set_option maxHeartbeats 4000000 in
set_option maxRecDepth 100000 in
theorem lwc_2 {E : En} {aM : Nat → Nat} {p : Program} {l : Launch} {e : Env} {s : State} {m : MethodId} {below : List Frame} {meth : Method} {c : Code} {A : Nat → Prop} {Q : State → Prop} {b L : Nat} {xs : Nat → Int32} (F : Fx E p s m #[Value.ref b] meth c RL code 4 ret) (hA : ∀ z : Nat, s.heap.size ≤ z → A z) (hbA : ¬ A b) (hX : va_X b L xs s s.heap) (hbl : b < s.heap.size) {x3 a1 a2 a3 a4 : Int32} (hi1 : vp_in (x3 + 1) L) (hi2 : vp_in (x3 + 2) L) (hi3 : vp_in (x3 + 3) L) (hi4 : vp_in (x3 + 4) L) (ea1 : xs (x3 + 1).toNatClampNeg = a1) (ea2 : xs (x3 + 2).toNatClampNeg = a2) (ea3 : xs (x3 + 3).toNatClampNeg = a3) (ea4 : xs (x3 + 4).toNatClampNeg = a4) {q r q' r' : QS} {mc ms cells slots : Nat} (hst : St 2 a1 a2 a3 a4 q r mc ms q' r') (hcs : cells + mc ≤ room_1.cells ∧ slots + ms ≤ room_1.slots) {H : Heap} {locs : List Loc} (hP : va_P E.1 vwCl (wX E q ++ wM (reA E aM) r) H) (hD : va_D A (wX E q ++ wM (reA E aM) r)) (hS : va_S A s.heap H locs) {ls : Array Slot} (hl : lv_has ls 4 [(0, .ref b), (1, .ref (eA E 24)), (2, .ref (aM 0)), (3, .int x3)])
    (kk : ∀ ad : Nat → Nat, (∀ k, rrole k = false → ad k = E.2.2 k) → ∀ (H1 : Heap) (locs1 : List Loc), va_P E.1 vwCl (wX (reA E ad) q' ++ wM (reA E aM) r') H1 → va_D A (wX (reA E ad) q' ++ wM (reA E aM) r') → va_S A s.heap H1 locs1 → W p l e room_1 s m #[Value.ref b] below meth c H1 locs1 (cells + mc) (slots + ms) Q (F0 m 808 ls [])) : W p l e room_1 s m #[Value.ref b] below meth c H locs cells slots Q (F0 m 176 ls []) := by
  have hx := F.1
  have hb := F.2.1
  obtain ⟨⟨emc, ems⟩, ⟨h1, h2⟩⟩ := hst
  subst emc; subst ems
  refine lv_aload_n hx hb dL_law_176 rfl (lv_at hl 1 rfl) ?_
  refine q_s1 (E := E) (a := wX E q) (wo := fun _ => wX E q') (ex := fun ad => ad = E.2.2) (As := []) (rest := []) F hA hP hD hS (ct_ex (c_X9_clear (E := E) (l := l) q h1)) k_X9_clear in_X9_clear se_X9_clear lm_L_22 24 (xe_24 E q) rfl ⟨rfl, rfl⟩ ⟨Nat.le_of_ble_eq_true rfl, Nat.le_of_ble_eq_true rfl⟩ rfl hl.1 rfl (Nat.le_of_ble_eq_true rfl) dL_law_177 hcs (fun _ _ H locs hP hD hS => ?_)
  refine lv_aload_n hx hb dL_law_180 rfl (lv_at hl 2 rfl) ?_
  refine q_s2 (E := E) (b := wM (reA E aM) r) (b' := wM (reA E aM) r') (As := []) (rest := []) F hA hP hD hS (c_X10_clear (E := reA E aM) (l := l) r h2) k_X10_clear in_X10_clear se_X10_clear lm_L_25 0 (me_0 (reA E aM) r) rfl ⟨rfl, rfl⟩ ⟨Nat.le_of_ble_eq_true rfl, Nat.le_of_ble_eq_true rfl⟩ rfl hl.1 rfl (Nat.le_of_ble_eq_true rfl) dL_law_181 hcs (fun H locs hP hD hS => ?_)
  refine lv_goto (tgt := 808) hx hb dL_law_184 (by decide) ?_
  exact kk E.2.2 (fun _ _ => rfl) _ _ hP hD hS
set_option maxHeartbeats 4000000 in
set_option maxRecDepth 100000 in
theorem lwc_3 {E : En} {aM : Nat → Nat} {p : Program} {l : Launch} {e : Env} {s : State} {m : MethodId} {below : List Frame} {meth : Method} {c : Code} {A : Nat → Prop} {Q : State → Prop} {b L : Nat} {xs : Nat → Int32} (F : Fx E p s m #[Value.ref b] meth c RL code 4 ret) (hA : ∀ z : Nat, s.heap.size ≤ z → A z) (hbA : ¬ A b) (hX : va_X b L xs s s.heap) (hbl : b < s.heap.size) {x3 a1 a2 a3 a4 : Int32} (hi1 : vp_in (x3 + 1) L) (hi2 : vp_in (x3 + 2) L) (hi3 : vp_in (x3 + 3) L) (hi4 : vp_in (x3 + 4) L) (ea1 : xs (x3 + 1).toNatClampNeg = a1) (ea2 : xs (x3 + 2).toNatClampNeg = a2) (ea3 : xs (x3 + 3).toNatClampNeg = a3) (ea4 : xs (x3 + 4).toNatClampNeg = a4) {q r q' r' : QS} {mc ms cells slots : Nat} (hst : St 3 a1 a2 a3 a4 q r mc ms q' r') (hcs : cells + mc ≤ room_1.cells ∧ slots + ms ≤ room_1.slots) {H : Heap} {locs : List Loc} (hP : va_P E.1 vwCl (wX E q ++ wM (reA E aM) r) H) (hD : va_D A (wX E q ++ wM (reA E aM) r)) (hS : va_S A s.heap H locs) {ls : Array Slot} (hl : lv_has ls 4 [(0, .ref b), (1, .ref (eA E 24)), (2, .ref (aM 0)), (3, .int x3)])
    (kk : ∀ ad : Nat → Nat, (∀ k, rrole k = false → ad k = E.2.2 k) → ∀ (H1 : Heap) (locs1 : List Loc), va_P E.1 vwCl (wX (reA E ad) q' ++ wM (reA E aM) r') H1 → va_D A (wX (reA E ad) q' ++ wM (reA E aM) r') → va_S A s.heap H1 locs1 → W p l e room_1 s m #[Value.ref b] below meth c H1 locs1 (cells + mc) (slots + ms) Q (F0 m 808 ls [])) : W p l e room_1 s m #[Value.ref b] below meth c H locs cells slots Q (F0 m 187 ls []) := by
  have hx := F.1
  have hb := F.2.1
  obtain ⟨⟨emc, ems⟩, ⟨v, h1, h2⟩⟩ := hst
  subst emc; subst ems
  refine lv_aload_n hx hb dL_law_187 rfl (lv_at hl 1 rfl) ?_
  refine lv_aload_n hx hb dL_law_188 rfl (lv_at hl 0 rfl) ?_
  refine lv_iload_n hx hb dL_law_189 rfl (lv_at hl 3 rfl) ?_
  refine lv_iconst (v := 1) hx hb dL_law_190 (by decide) ?_
  refine lv_iadd hx hb dL_law_191 ?_
  refine va_sld hx hb hX hbl hbA hS hi1 dL_law_192 ?_
  rw [ea1]
  refine lv_aload_n hx hb dL_law_193 rfl (lv_at hl 0 rfl) ?_
  refine lv_iload_n hx hb dL_law_194 rfl (lv_at hl 3 rfl) ?_
  refine lv_iconst (v := 2) hx hb dL_law_195 (by decide) ?_
  refine lv_iadd hx hb dL_law_196 ?_
  refine va_sld hx hb hX hbl hbA hS hi2 dL_law_197 ?_
  rw [ea2]
  refine lv_i2l hx hb dL_law_198 rfl ?_
  refine lv_bipush (v := 32) hx hb dL_law_199 (by decide) ?_
  refine lv_lshl hx hb dL_law_201 rfl ?_
  refine lv_aload_n hx hb dL_law_202 rfl (lv_at hl 0 rfl) ?_
  refine lv_iload_n hx hb dL_law_203 rfl (lv_at hl 3 rfl) ?_
  refine lv_iconst (v := 3) hx hb dL_law_204 (by decide) ?_
  refine lv_iadd hx hb dL_law_205 ?_
  refine va_sld hx hb hX hbl hbA hS hi3 dL_law_206 ?_
  rw [ea3]
  refine lv_i2l hx hb dL_law_207 rfl ?_
  refine lv_ldc2 (v := 4294967295) hx hb F.2.2.2.1 (F.2.2.2.2.1 _ lc_L_26) dL_law_208 ?_
  refine lv_land hx hb dL_law_211 ?_
  refine lv_lor hx hb dL_law_212 ?_
  refine q_s1 (E := E) (a := wX E q) (wo := fun _ => wX E q') (ex := fun ad => ad = E.2.2) (As := [.int a1, .long (lng a2 a3)]) (rest := []) F hA hP hD hS (ct_ex (c_X9_cell (E := E) (l := l) q a1 (lng a2 a3) h1)) k_X9_cell in_X9_cell se_X9_cell lm_L_28 24 (xe_24 E q) rfl ⟨rfl, rfl⟩ ⟨Nat.le_of_ble_eq_true rfl, Nat.le_of_ble_eq_true rfl⟩ rfl hl.1 rfl (Nat.le_of_ble_eq_true rfl) dL_law_213 hcs (fun _ _ H locs hP hD hS => ?_)
  refine lv_aload_n hx hb dL_law_216 rfl (lv_at hl 2 rfl) ?_
  refine lv_aload_n hx hb dL_law_217 rfl (lv_at hl 0 rfl) ?_
  refine lv_iload_n hx hb dL_law_218 rfl (lv_at hl 3 rfl) ?_
  refine lv_iconst (v := 1) hx hb dL_law_219 (by decide) ?_
  refine lv_iadd hx hb dL_law_220 ?_
  refine va_sld hx hb hX hbl hbA hS hi1 dL_law_221 ?_
  rw [ea1]
  refine lv_aload_n hx hb dL_law_222 rfl (lv_at hl 0 rfl) ?_
  refine lv_iload_n hx hb dL_law_223 rfl (lv_at hl 3 rfl) ?_
  refine lv_iconst (v := 2) hx hb dL_law_224 (by decide) ?_
  refine lv_iadd hx hb dL_law_225 ?_
  refine va_sld hx hb hX hbl hbA hS hi2 dL_law_226 ?_
  rw [ea2]
  refine lv_i2l hx hb dL_law_227 rfl ?_
  refine lv_bipush (v := 32) hx hb dL_law_228 (by decide) ?_
  refine lv_lshl hx hb dL_law_230 rfl ?_
  refine lv_aload_n hx hb dL_law_231 rfl (lv_at hl 0 rfl) ?_
  refine lv_iload_n hx hb dL_law_232 rfl (lv_at hl 3 rfl) ?_
  refine lv_iconst (v := 3) hx hb dL_law_233 (by decide) ?_
  refine lv_iadd hx hb dL_law_234 ?_
  refine va_sld hx hb hX hbl hbA hS hi3 dL_law_235 ?_
  rw [ea3]
  refine lv_i2l hx hb dL_law_236 rfl ?_
  refine lv_ldc2 (v := 4294967295) hx hb F.2.2.2.1 (F.2.2.2.2.1 _ lc_L_26) dL_law_237 ?_
  refine lv_land hx hb dL_law_240 ?_
  refine lv_lor hx hb dL_law_241 ?_
  refine q_s2 (E := E) (b := wM (reA E aM) r) (b' := wM (reA E aM) r') (As := [.int a1, .long (lng a2 a3)]) (rest := [.int v]) F hA hP hD hS (c_X10_cell (E := reA E aM) (l := l) r a1 (lng a2 a3) h2) k_X10_cell in_X10_cell se_X10_cell lm_L_32 0 (me_0 (reA E aM) r) rfl ⟨rfl, rfl⟩ ⟨Nat.le_of_ble_eq_true rfl, Nat.le_of_ble_eq_true rfl⟩ rfl hl.1 rfl (Nat.le_of_ble_eq_true rfl) dL_law_242 hcs (fun H locs hP hD hS => ?_)
  refine lv_icmp_eq (tgt := 808) hx hb dL_law_245 (by decide) (fun _ => ?_) (fun c => absurd rfl c)
  exact kk E.2.2 (fun _ _ => rfl) _ _ hP hD hS
set_option maxHeartbeats 4000000 in
set_option maxRecDepth 100000 in
theorem lwc_4 {E : En} {aM : Nat → Nat} {p : Program} {l : Launch} {e : Env} {s : State} {m : MethodId} {below : List Frame} {meth : Method} {c : Code} {A : Nat → Prop} {Q : State → Prop} {b L : Nat} {xs : Nat → Int32} (F : Fx E p s m #[Value.ref b] meth c RL code 4 ret) (hA : ∀ z : Nat, s.heap.size ≤ z → A z) (hbA : ¬ A b) (hX : va_X b L xs s s.heap) (hbl : b < s.heap.size) {x3 a1 a2 a3 a4 : Int32} (hi1 : vp_in (x3 + 1) L) (hi2 : vp_in (x3 + 2) L) (hi3 : vp_in (x3 + 3) L) (hi4 : vp_in (x3 + 4) L) (ea1 : xs (x3 + 1).toNatClampNeg = a1) (ea2 : xs (x3 + 2).toNatClampNeg = a2) (ea3 : xs (x3 + 3).toNatClampNeg = a3) (ea4 : xs (x3 + 4).toNatClampNeg = a4) {q r q' r' : QS} {mc ms cells slots : Nat} (hst : St 4 a1 a2 a3 a4 q r mc ms q' r') (hcs : cells + mc ≤ room_1.cells ∧ slots + ms ≤ room_1.slots) {H : Heap} {locs : List Loc} (hP : va_P E.1 vwCl (wX E q ++ wM (reA E aM) r) H) (hD : va_D A (wX E q ++ wM (reA E aM) r)) (hS : va_S A s.heap H locs) {ls : Array Slot} (hl : lv_has ls 4 [(0, .ref b), (1, .ref (eA E 24)), (2, .ref (aM 0)), (3, .int x3)])
    (kk : ∀ ad : Nat → Nat, (∀ k, rrole k = false → ad k = E.2.2 k) → ∀ (H1 : Heap) (locs1 : List Loc), va_P E.1 vwCl (wX (reA E ad) q' ++ wM (reA E aM) r') H1 → va_D A (wX (reA E ad) q' ++ wM (reA E aM) r') → va_S A s.heap H1 locs1 → W p l e room_1 s m #[Value.ref b] below meth c H1 locs1 (cells + mc) (slots + ms) Q (F0 m 808 ls [])) : W p l e room_1 s m #[Value.ref b] below meth c H locs cells slots Q (F0 m 250 ls []) := by
  have hx := F.1
  have hb := F.2.1
  obtain ⟨⟨emc, ems⟩, ⟨v, h1, h2⟩⟩ := hst
  subst emc; subst ems
  by_cases hz : a2 = 0
  · have hbz : bz a2 = 0 := if_pos hz
    rw [hbz] at h1 h2
    refine lv_aload_n hx hb dL_law_250 rfl (lv_at hl 1 rfl) ?_
    refine lv_aload_n hx hb dL_law_251 rfl (lv_at hl 0 rfl) ?_
    refine lv_iload_n hx hb dL_law_252 rfl (lv_at hl 3 rfl) ?_
    refine lv_iconst (v := 1) hx hb dL_law_253 (by decide) ?_
    refine lv_iadd hx hb dL_law_254 ?_
    refine va_sld hx hb hX hbl hbA hS hi1 dL_law_255 ?_
    rw [ea1]
    refine lv_aload_n hx hb dL_law_256 rfl (lv_at hl 0 rfl) ?_
    refine lv_iload_n hx hb dL_law_257 rfl (lv_at hl 3 rfl) ?_
    refine lv_iconst (v := 2) hx hb dL_law_258 (by decide) ?_
    refine lv_iadd hx hb dL_law_259 ?_
    refine va_sld hx hb hX hbl hbA hS hi2 dL_law_260 ?_
    rw [ea2]
    refine lv_if_eq (tgt := 268) hx hb dL_law_261 (by decide) (fun _ => ?_) (fun c => absurd hz c)
    refine lv_iconst (v := 0) hx hb dL_law_268 (by decide) ?_
    refine q_s1 (E := E) (a := wX E q) (wo := fun _ => wX E q') (ex := fun ad => ad = E.2.2) (As := [.int a1, .int (0 : Int32)]) (rest := []) F hA hP hD hS (ct_ex (c_X9_truth (E := E) (l := l) q a1 (0 : Int32) h1)) k_X9_truth in_X9_truth se_X9_truth lm_L_33 24 (xe_24 E q) rfl ⟨rfl, rfl⟩ ⟨Nat.le_of_ble_eq_true rfl, Nat.le_of_ble_eq_true rfl⟩ rfl hl.1 rfl (Nat.le_of_ble_eq_true rfl) dL_law_269 hcs (fun _ _ H locs hP hD hS => ?_)
    refine lv_aload_n hx hb dL_law_272 rfl (lv_at hl 2 rfl) ?_
    refine lv_aload_n hx hb dL_law_273 rfl (lv_at hl 0 rfl) ?_
    refine lv_iload_n hx hb dL_law_274 rfl (lv_at hl 3 rfl) ?_
    refine lv_iconst (v := 1) hx hb dL_law_275 (by decide) ?_
    refine lv_iadd hx hb dL_law_276 ?_
    refine va_sld hx hb hX hbl hbA hS hi1 dL_law_277 ?_
    rw [ea1]
    refine lv_aload_n hx hb dL_law_278 rfl (lv_at hl 0 rfl) ?_
    refine lv_iload_n hx hb dL_law_279 rfl (lv_at hl 3 rfl) ?_
    refine lv_iconst (v := 2) hx hb dL_law_280 (by decide) ?_
    refine lv_iadd hx hb dL_law_281 ?_
    refine va_sld hx hb hX hbl hbA hS hi2 dL_law_282 ?_
    rw [ea2]
    refine lv_if_eq (tgt := 290) hx hb dL_law_283 (by decide) (fun _ => ?_) (fun c => absurd hz c)
    refine lv_iconst (v := 0) hx hb dL_law_290 (by decide) ?_
    refine q_s2 (E := E) (b := wM (reA E aM) r) (b' := wM (reA E aM) r') (As := [.int a1, .int (0 : Int32)]) (rest := [.int v]) F hA hP hD hS (c_X10_truth (E := reA E aM) (l := l) r a1 (0 : Int32) h2) k_X10_truth in_X10_truth se_X10_truth lm_L_37 0 (me_0 (reA E aM) r) rfl ⟨rfl, rfl⟩ ⟨Nat.le_of_ble_eq_true rfl, Nat.le_of_ble_eq_true rfl⟩ rfl hl.1 rfl (Nat.le_of_ble_eq_true rfl) dL_law_291 hcs (fun H locs hP hD hS => ?_)
    refine lv_icmp_eq (tgt := 808) hx hb dL_law_294 (by decide) (fun _ => ?_) (fun c => absurd rfl c)
    exact kk E.2.2 (fun _ _ => rfl) _ _ hP hD hS
  · have hbz : bz a2 = 1 := if_neg hz
    rw [hbz] at h1 h2
    refine lv_aload_n hx hb dL_law_250 rfl (lv_at hl 1 rfl) ?_
    refine lv_aload_n hx hb dL_law_251 rfl (lv_at hl 0 rfl) ?_
    refine lv_iload_n hx hb dL_law_252 rfl (lv_at hl 3 rfl) ?_
    refine lv_iconst (v := 1) hx hb dL_law_253 (by decide) ?_
    refine lv_iadd hx hb dL_law_254 ?_
    refine va_sld hx hb hX hbl hbA hS hi1 dL_law_255 ?_
    rw [ea1]
    refine lv_aload_n hx hb dL_law_256 rfl (lv_at hl 0 rfl) ?_
    refine lv_iload_n hx hb dL_law_257 rfl (lv_at hl 3 rfl) ?_
    refine lv_iconst (v := 2) hx hb dL_law_258 (by decide) ?_
    refine lv_iadd hx hb dL_law_259 ?_
    refine va_sld hx hb hX hbl hbA hS hi2 dL_law_260 ?_
    rw [ea2]
    refine lv_if_eq (tgt := 268) hx hb dL_law_261 (by decide) (fun c => absurd c hz) (fun _ => ?_)
    refine lv_iconst (v := 1) hx hb dL_law_264 (by decide) ?_
    refine lv_goto (tgt := 269) hx hb dL_law_265 (by decide) ?_
    refine q_s1 (E := E) (a := wX E q) (wo := fun _ => wX E q') (ex := fun ad => ad = E.2.2) (As := [.int a1, .int (1 : Int32)]) (rest := []) F hA hP hD hS (ct_ex (c_X9_truth (E := E) (l := l) q a1 (1 : Int32) h1)) k_X9_truth in_X9_truth se_X9_truth lm_L_33 24 (xe_24 E q) rfl ⟨rfl, rfl⟩ ⟨Nat.le_of_ble_eq_true rfl, Nat.le_of_ble_eq_true rfl⟩ rfl hl.1 rfl (Nat.le_of_ble_eq_true rfl) dL_law_269 hcs (fun _ _ H locs hP hD hS => ?_)
    refine lv_aload_n hx hb dL_law_272 rfl (lv_at hl 2 rfl) ?_
    refine lv_aload_n hx hb dL_law_273 rfl (lv_at hl 0 rfl) ?_
    refine lv_iload_n hx hb dL_law_274 rfl (lv_at hl 3 rfl) ?_
    refine lv_iconst (v := 1) hx hb dL_law_275 (by decide) ?_
    refine lv_iadd hx hb dL_law_276 ?_
    refine va_sld hx hb hX hbl hbA hS hi1 dL_law_277 ?_
    rw [ea1]
    refine lv_aload_n hx hb dL_law_278 rfl (lv_at hl 0 rfl) ?_
    refine lv_iload_n hx hb dL_law_279 rfl (lv_at hl 3 rfl) ?_
    refine lv_iconst (v := 2) hx hb dL_law_280 (by decide) ?_
    refine lv_iadd hx hb dL_law_281 ?_
    refine va_sld hx hb hX hbl hbA hS hi2 dL_law_282 ?_
    rw [ea2]
    refine lv_if_eq (tgt := 290) hx hb dL_law_283 (by decide) (fun c => absurd c hz) (fun _ => ?_)
    refine lv_iconst (v := 1) hx hb dL_law_286 (by decide) ?_
    refine lv_goto (tgt := 291) hx hb dL_law_287 (by decide) ?_
    refine q_s2 (E := E) (b := wM (reA E aM) r) (b' := wM (reA E aM) r') (As := [.int a1, .int (1 : Int32)]) (rest := [.int v]) F hA hP hD hS (c_X10_truth (E := reA E aM) (l := l) r a1 (1 : Int32) h2) k_X10_truth in_X10_truth se_X10_truth lm_L_37 0 (me_0 (reA E aM) r) rfl ⟨rfl, rfl⟩ ⟨Nat.le_of_ble_eq_true rfl, Nat.le_of_ble_eq_true rfl⟩ rfl hl.1 rfl (Nat.le_of_ble_eq_true rfl) dL_law_291 hcs (fun H locs hP hD hS => ?_)
    refine lv_icmp_eq (tgt := 808) hx hb dL_law_294 (by decide) (fun _ => ?_) (fun c => absurd rfl c)
    exact kk E.2.2 (fun _ _ => rfl) _ _ hP hD hS
set_option maxHeartbeats 4000000 in
set_option maxRecDepth 100000 in
theorem lwc_5 {E : En} {aM : Nat → Nat} {p : Program} {l : Launch} {e : Env} {s : State} {m : MethodId} {below : List Frame} {meth : Method} {c : Code} {A : Nat → Prop} {Q : State → Prop} {b L : Nat} {xs : Nat → Int32} (F : Fx E p s m #[Value.ref b] meth c RL code 4 ret) (hA : ∀ z : Nat, s.heap.size ≤ z → A z) (hbA : ¬ A b) (hX : va_X b L xs s s.heap) (hbl : b < s.heap.size) {x3 a1 a2 a3 a4 : Int32} (hi1 : vp_in (x3 + 1) L) (hi2 : vp_in (x3 + 2) L) (hi3 : vp_in (x3 + 3) L) (hi4 : vp_in (x3 + 4) L) (ea1 : xs (x3 + 1).toNatClampNeg = a1) (ea2 : xs (x3 + 2).toNatClampNeg = a2) (ea3 : xs (x3 + 3).toNatClampNeg = a3) (ea4 : xs (x3 + 4).toNatClampNeg = a4) {q r q' r' : QS} {mc ms cells slots : Nat} (hst : St 5 a1 a2 a3 a4 q r mc ms q' r') (hcs : cells + mc ≤ room_1.cells ∧ slots + ms ≤ room_1.slots) {H : Heap} {locs : List Loc} (hP : va_P E.1 vwCl (wX E q ++ wM (reA E aM) r) H) (hD : va_D A (wX E q ++ wM (reA E aM) r)) (hS : va_S A s.heap H locs) {ls : Array Slot} (hl : lv_has ls 4 [(0, .ref b), (1, .ref (eA E 24)), (2, .ref (aM 0)), (3, .int x3)])
    (kk : ∀ ad : Nat → Nat, (∀ k, rrole k = false → ad k = E.2.2 k) → ∀ (H1 : Heap) (locs1 : List Loc), va_P E.1 vwCl (wX (reA E ad) q' ++ wM (reA E aM) r') H1 → va_D A (wX (reA E ad) q' ++ wM (reA E aM) r') → va_S A s.heap H1 locs1 → W p l e room_1 s m #[Value.ref b] below meth c H1 locs1 (cells + mc) (slots + ms) Q (F0 m 808 ls [])) : W p l e room_1 s m #[Value.ref b] below meth c H locs cells slots Q (F0 m 299 ls []) := by
  have hx := F.1
  have hb := F.2.1
  obtain ⟨⟨emc, ems⟩, ⟨v, h1, h2⟩⟩ := hst
  subst emc; subst ems
  refine lv_aload_n hx hb dL_law_299 rfl (lv_at hl 1 rfl) ?_
  refine lv_aload_n hx hb dL_law_300 rfl (lv_at hl 0 rfl) ?_
  refine lv_iload_n hx hb dL_law_301 rfl (lv_at hl 3 rfl) ?_
  refine lv_iconst (v := 1) hx hb dL_law_302 (by decide) ?_
  refine lv_iadd hx hb dL_law_303 ?_
  refine va_sld hx hb hX hbl hbA hS hi1 dL_law_304 ?_
  rw [ea1]
  refine lv_aload_n hx hb dL_law_305 rfl (lv_at hl 0 rfl) ?_
  refine lv_iload_n hx hb dL_law_306 rfl (lv_at hl 3 rfl) ?_
  refine lv_iconst (v := 2) hx hb dL_law_307 (by decide) ?_
  refine lv_iadd hx hb dL_law_308 ?_
  refine va_sld hx hb hX hbl hbA hS hi2 dL_law_309 ?_
  rw [ea2]
  refine lv_i2l hx hb dL_law_310 rfl ?_
  refine lv_bipush (v := 32) hx hb dL_law_311 (by decide) ?_
  refine lv_lshl hx hb dL_law_313 rfl ?_
  refine lv_aload_n hx hb dL_law_314 rfl (lv_at hl 0 rfl) ?_
  refine lv_iload_n hx hb dL_law_315 rfl (lv_at hl 3 rfl) ?_
  refine lv_iconst (v := 3) hx hb dL_law_316 (by decide) ?_
  refine lv_iadd hx hb dL_law_317 ?_
  refine va_sld hx hb hX hbl hbA hS hi3 dL_law_318 ?_
  rw [ea3]
  refine lv_i2l hx hb dL_law_319 rfl ?_
  refine lv_ldc2 (v := 4294967295) hx hb F.2.2.2.1 (F.2.2.2.2.1 _ lc_L_26) dL_law_320 ?_
  refine lv_land hx hb dL_law_323 ?_
  refine lv_lor hx hb dL_law_324 ?_
  refine lv_aload_n hx hb dL_law_325 rfl (lv_at hl 0 rfl) ?_
  refine lv_iload_n hx hb dL_law_326 rfl (lv_at hl 3 rfl) ?_
  refine lv_iconst (v := 4) hx hb dL_law_327 (by decide) ?_
  refine lv_iadd hx hb dL_law_328 ?_
  refine va_sld hx hb hX hbl hbA hS hi4 dL_law_329 ?_
  rw [ea4]
  refine q_s1 (E := E) (a := wX E q) (wo := fun _ => wX E q') (ex := fun ad => ad = E.2.2) (As := [.int a1, .long (lng a2 a3), .int a4]) (rest := []) F hA hP hD hS (ct_ex (c_X9_text (E := E) (l := l) q a1 (lng a2 a3) a4 h1)) k_X9_text in_X9_text se_X9_text lm_L_38 24 (xe_24 E q) rfl ⟨rfl, rfl⟩ ⟨Nat.le_of_ble_eq_true rfl, Nat.le_of_ble_eq_true rfl⟩ rfl hl.1 rfl (Nat.le_of_ble_eq_true rfl) dL_law_330 hcs (fun _ _ H locs hP hD hS => ?_)
  refine lv_aload_n hx hb dL_law_333 rfl (lv_at hl 2 rfl) ?_
  refine lv_aload_n hx hb dL_law_334 rfl (lv_at hl 0 rfl) ?_
  refine lv_iload_n hx hb dL_law_335 rfl (lv_at hl 3 rfl) ?_
  refine lv_iconst (v := 1) hx hb dL_law_336 (by decide) ?_
  refine lv_iadd hx hb dL_law_337 ?_
  refine va_sld hx hb hX hbl hbA hS hi1 dL_law_338 ?_
  rw [ea1]
  refine lv_aload_n hx hb dL_law_339 rfl (lv_at hl 0 rfl) ?_
  refine lv_iload_n hx hb dL_law_340 rfl (lv_at hl 3 rfl) ?_
  refine lv_iconst (v := 2) hx hb dL_law_341 (by decide) ?_
  refine lv_iadd hx hb dL_law_342 ?_
  refine va_sld hx hb hX hbl hbA hS hi2 dL_law_343 ?_
  rw [ea2]
  refine lv_i2l hx hb dL_law_344 rfl ?_
  refine lv_bipush (v := 32) hx hb dL_law_345 (by decide) ?_
  refine lv_lshl hx hb dL_law_347 rfl ?_
  refine lv_aload_n hx hb dL_law_348 rfl (lv_at hl 0 rfl) ?_
  refine lv_iload_n hx hb dL_law_349 rfl (lv_at hl 3 rfl) ?_
  refine lv_iconst (v := 3) hx hb dL_law_350 (by decide) ?_
  refine lv_iadd hx hb dL_law_351 ?_
  refine va_sld hx hb hX hbl hbA hS hi3 dL_law_352 ?_
  rw [ea3]
  refine lv_i2l hx hb dL_law_353 rfl ?_
  refine lv_ldc2 (v := 4294967295) hx hb F.2.2.2.1 (F.2.2.2.2.1 _ lc_L_26) dL_law_354 ?_
  refine lv_land hx hb dL_law_357 ?_
  refine lv_lor hx hb dL_law_358 ?_
  refine lv_aload_n hx hb dL_law_359 rfl (lv_at hl 0 rfl) ?_
  refine lv_iload_n hx hb dL_law_360 rfl (lv_at hl 3 rfl) ?_
  refine lv_iconst (v := 4) hx hb dL_law_361 (by decide) ?_
  refine lv_iadd hx hb dL_law_362 ?_
  refine va_sld hx hb hX hbl hbA hS hi4 dL_law_363 ?_
  rw [ea4]
  refine q_s2 (E := E) (b := wM (reA E aM) r) (b' := wM (reA E aM) r') (As := [.int a1, .long (lng a2 a3), .int a4]) (rest := [.int v]) F hA hP hD hS (c_X10_text (E := reA E aM) (l := l) r a1 (lng a2 a3) a4 h2) k_X10_text in_X10_text se_X10_text lm_L_42 0 (me_0 (reA E aM) r) rfl ⟨rfl, rfl⟩ ⟨Nat.le_of_ble_eq_true rfl, Nat.le_of_ble_eq_true rfl⟩ rfl hl.1 rfl (Nat.le_of_ble_eq_true rfl) dL_law_364 hcs (fun H locs hP hD hS => ?_)
  refine lv_icmp_eq (tgt := 808) hx hb dL_law_367 (by decide) (fun _ => ?_) (fun c => absurd rfl c)
  exact kk E.2.2 (fun _ _ => rfl) _ _ hP hD hS
set_option maxHeartbeats 4000000 in
set_option maxRecDepth 100000 in
theorem lwc_6 {E : En} {aM : Nat → Nat} {p : Program} {l : Launch} {e : Env} {s : State} {m : MethodId} {below : List Frame} {meth : Method} {c : Code} {A : Nat → Prop} {Q : State → Prop} {b L : Nat} {xs : Nat → Int32} (F : Fx E p s m #[Value.ref b] meth c RL code 4 ret) (hA : ∀ z : Nat, s.heap.size ≤ z → A z) (hbA : ¬ A b) (hX : va_X b L xs s s.heap) (hbl : b < s.heap.size) {x3 a1 a2 a3 a4 : Int32} (hi1 : vp_in (x3 + 1) L) (hi2 : vp_in (x3 + 2) L) (hi3 : vp_in (x3 + 3) L) (hi4 : vp_in (x3 + 4) L) (ea1 : xs (x3 + 1).toNatClampNeg = a1) (ea2 : xs (x3 + 2).toNatClampNeg = a2) (ea3 : xs (x3 + 3).toNatClampNeg = a3) (ea4 : xs (x3 + 4).toNatClampNeg = a4) {q r q' r' : QS} {mc ms cells slots : Nat} (hst : St 6 a1 a2 a3 a4 q r mc ms q' r') (hcs : cells + mc ≤ room_1.cells ∧ slots + ms ≤ room_1.slots) {H : Heap} {locs : List Loc} (hP : va_P E.1 vwCl (wX E q ++ wM (reA E aM) r) H) (hD : va_D A (wX E q ++ wM (reA E aM) r)) (hS : va_S A s.heap H locs) {ls : Array Slot} (hl : lv_has ls 4 [(0, .ref b), (1, .ref (eA E 24)), (2, .ref (aM 0)), (3, .int x3)])
    (kk : ∀ ad : Nat → Nat, (∀ k, rrole k = false → ad k = E.2.2 k) → ∀ (H1 : Heap) (locs1 : List Loc), va_P E.1 vwCl (wX (reA E ad) q' ++ wM (reA E aM) r') H1 → va_D A (wX (reA E ad) q' ++ wM (reA E aM) r') → va_S A s.heap H1 locs1 → W p l e room_1 s m #[Value.ref b] below meth c H1 locs1 (cells + mc) (slots + ms) Q (F0 m 808 ls [])) : W p l e room_1 s m #[Value.ref b] below meth c H locs cells slots Q (F0 m 372 ls []) := by
  have hx := F.1
  have hb := F.2.1
  obtain ⟨⟨emc, ems⟩, ⟨v, h1, h2⟩⟩ := hst
  subst emc; subst ems
  refine lv_aload_n hx hb dL_law_372 rfl (lv_at hl 1 rfl) ?_
  refine lv_aload_n hx hb dL_law_373 rfl (lv_at hl 0 rfl) ?_
  refine lv_iload_n hx hb dL_law_374 rfl (lv_at hl 3 rfl) ?_
  refine lv_iconst (v := 1) hx hb dL_law_375 (by decide) ?_
  refine lv_iadd hx hb dL_law_376 ?_
  refine va_sld hx hb hX hbl hbA hS hi1 dL_law_377 ?_
  rw [ea1]
  refine q_s1 (E := E) (a := wX E q) (wo := fun _ => wX E q') (ex := fun ad => ad = E.2.2) (As := [.int a1]) (rest := []) F hA hP hD hS (ct_ex (c_X9_add (E := E) (l := l) q a1 h1)) k_X9_add in_X9_add se_X9_add lm_L_43 24 (xe_24 E q) rfl ⟨rfl, rfl⟩ ⟨Nat.le_of_ble_eq_true rfl, Nat.le_of_ble_eq_true rfl⟩ rfl hl.1 rfl (Nat.le_of_ble_eq_true rfl) dL_law_378 hcs (fun _ _ H locs hP hD hS => ?_)
  refine lv_aload_n hx hb dL_law_381 rfl (lv_at hl 2 rfl) ?_
  refine lv_aload_n hx hb dL_law_382 rfl (lv_at hl 0 rfl) ?_
  refine lv_iload_n hx hb dL_law_383 rfl (lv_at hl 3 rfl) ?_
  refine lv_iconst (v := 1) hx hb dL_law_384 (by decide) ?_
  refine lv_iadd hx hb dL_law_385 ?_
  refine va_sld hx hb hX hbl hbA hS hi1 dL_law_386 ?_
  rw [ea1]
  refine q_s2 (E := E) (b := wM (reA E aM) r) (b' := wM (reA E aM) r') (As := [.int a1]) (rest := [.int v]) F hA hP hD hS (c_X10_add (E := reA E aM) (l := l) r a1 h2) k_X10_add in_X10_add se_X10_add lm_L_47 0 (me_0 (reA E aM) r) rfl ⟨rfl, rfl⟩ ⟨Nat.le_of_ble_eq_true rfl, Nat.le_of_ble_eq_true rfl⟩ rfl hl.1 rfl (Nat.le_of_ble_eq_true rfl) dL_law_387 hcs (fun H locs hP hD hS => ?_)
  refine lv_icmp_eq (tgt := 808) hx hb dL_law_390 (by decide) (fun _ => ?_) (fun c => absurd rfl c)
  exact kk E.2.2 (fun _ _ => rfl) _ _ hP hD hS
set_option maxHeartbeats 4000000 in
set_option maxRecDepth 100000 in
theorem lwc_7 {E : En} {aM : Nat → Nat} {p : Program} {l : Launch} {e : Env} {s : State} {m : MethodId} {below : List Frame} {meth : Method} {c : Code} {A : Nat → Prop} {Q : State → Prop} {b L : Nat} {xs : Nat → Int32} (F : Fx E p s m #[Value.ref b] meth c RL code 4 ret) (hA : ∀ z : Nat, s.heap.size ≤ z → A z) (hbA : ¬ A b) (hX : va_X b L xs s s.heap) (hbl : b < s.heap.size) {x3 a1 a2 a3 a4 : Int32} (hi1 : vp_in (x3 + 1) L) (hi2 : vp_in (x3 + 2) L) (hi3 : vp_in (x3 + 3) L) (hi4 : vp_in (x3 + 4) L) (ea1 : xs (x3 + 1).toNatClampNeg = a1) (ea2 : xs (x3 + 2).toNatClampNeg = a2) (ea3 : xs (x3 + 3).toNatClampNeg = a3) (ea4 : xs (x3 + 4).toNatClampNeg = a4) {q r q' r' : QS} {mc ms cells slots : Nat} (hst : St 7 a1 a2 a3 a4 q r mc ms q' r') (hcs : cells + mc ≤ room_1.cells ∧ slots + ms ≤ room_1.slots) {H : Heap} {locs : List Loc} (hP : va_P E.1 vwCl (wX E q ++ wM (reA E aM) r) H) (hD : va_D A (wX E q ++ wM (reA E aM) r)) (hS : va_S A s.heap H locs) {ls : Array Slot} (hl : lv_has ls 4 [(0, .ref b), (1, .ref (eA E 24)), (2, .ref (aM 0)), (3, .int x3)])
    (kk : ∀ ad : Nat → Nat, (∀ k, rrole k = false → ad k = E.2.2 k) → ∀ (H1 : Heap) (locs1 : List Loc), va_P E.1 vwCl (wX (reA E ad) q' ++ wM (reA E aM) r') H1 → va_D A (wX (reA E ad) q' ++ wM (reA E aM) r') → va_S A s.heap H1 locs1 → W p l e room_1 s m #[Value.ref b] below meth c H1 locs1 (cells + mc) (slots + ms) Q (F0 m 808 ls [])) : W p l e room_1 s m #[Value.ref b] below meth c H locs cells slots Q (F0 m 395 ls []) := by
  have hx := F.1
  have hb := F.2.1
  obtain ⟨⟨emc, ems⟩, ⟨v, h1, h2⟩⟩ := hst
  subst emc; subst ems
  refine lv_aload_n hx hb dL_law_395 rfl (lv_at hl 1 rfl) ?_
  refine lv_aload_n hx hb dL_law_396 rfl (lv_at hl 0 rfl) ?_
  refine lv_iload_n hx hb dL_law_397 rfl (lv_at hl 3 rfl) ?_
  refine lv_iconst (v := 1) hx hb dL_law_398 (by decide) ?_
  refine lv_iadd hx hb dL_law_399 ?_
  refine va_sld hx hb hX hbl hbA hS hi1 dL_law_400 ?_
  rw [ea1]
  refine lv_aload_n hx hb dL_law_401 rfl (lv_at hl 0 rfl) ?_
  refine lv_iload_n hx hb dL_law_402 rfl (lv_at hl 3 rfl) ?_
  refine lv_iconst (v := 2) hx hb dL_law_403 (by decide) ?_
  refine lv_iadd hx hb dL_law_404 ?_
  refine va_sld hx hb hX hbl hbA hS hi2 dL_law_405 ?_
  rw [ea2]
  refine q_s1 (E := E) (a := wX E q) (wo := fun _ => wX E q') (ex := fun ad => ad = E.2.2) (As := [.int a1, .int a2]) (rest := []) F hA hP hD hS (ct_ex (c_X9_column (E := E) (l := l) q a1 a2 h1)) k_X9_column in_X9_column se_X9_column lm_L_48 24 (xe_24 E q) rfl ⟨rfl, rfl⟩ ⟨Nat.le_of_ble_eq_true rfl, Nat.le_of_ble_eq_true rfl⟩ rfl hl.1 rfl (Nat.le_of_ble_eq_true rfl) dL_law_406 hcs (fun _ _ H locs hP hD hS => ?_)
  refine lv_aload_n hx hb dL_law_409 rfl (lv_at hl 2 rfl) ?_
  refine lv_aload_n hx hb dL_law_410 rfl (lv_at hl 0 rfl) ?_
  refine lv_iload_n hx hb dL_law_411 rfl (lv_at hl 3 rfl) ?_
  refine lv_iconst (v := 1) hx hb dL_law_412 (by decide) ?_
  refine lv_iadd hx hb dL_law_413 ?_
  refine va_sld hx hb hX hbl hbA hS hi1 dL_law_414 ?_
  rw [ea1]
  refine lv_aload_n hx hb dL_law_415 rfl (lv_at hl 0 rfl) ?_
  refine lv_iload_n hx hb dL_law_416 rfl (lv_at hl 3 rfl) ?_
  refine lv_iconst (v := 2) hx hb dL_law_417 (by decide) ?_
  refine lv_iadd hx hb dL_law_418 ?_
  refine va_sld hx hb hX hbl hbA hS hi2 dL_law_419 ?_
  rw [ea2]
  refine q_s2 (E := E) (b := wM (reA E aM) r) (b' := wM (reA E aM) r') (As := [.int a1, .int a2]) (rest := [.int v]) F hA hP hD hS (c_X10_column (E := reA E aM) (l := l) r a1 a2 h2) k_X10_column in_X10_column se_X10_column lm_L_51 0 (me_0 (reA E aM) r) rfl ⟨rfl, rfl⟩ ⟨Nat.le_of_ble_eq_true rfl, Nat.le_of_ble_eq_true rfl⟩ rfl hl.1 rfl (Nat.le_of_ble_eq_true rfl) dL_law_420 hcs (fun H locs hP hD hS => ?_)
  refine lv_icmp_eq (tgt := 808) hx hb dL_law_423 (by decide) (fun _ => ?_) (fun c => absurd rfl c)
  exact kk E.2.2 (fun _ _ => rfl) _ _ hP hD hS
set_option maxHeartbeats 4000000 in
set_option maxRecDepth 100000 in
theorem lwc_8 {E : En} {aM : Nat → Nat} {p : Program} {l : Launch} {e : Env} {s : State} {m : MethodId} {below : List Frame} {meth : Method} {c : Code} {A : Nat → Prop} {Q : State → Prop} {b L : Nat} {xs : Nat → Int32} (F : Fx E p s m #[Value.ref b] meth c RL code 4 ret) (hA : ∀ z : Nat, s.heap.size ≤ z → A z) (hbA : ¬ A b) (hX : va_X b L xs s s.heap) (hbl : b < s.heap.size) {x3 a1 a2 a3 a4 : Int32} (hi1 : vp_in (x3 + 1) L) (hi2 : vp_in (x3 + 2) L) (hi3 : vp_in (x3 + 3) L) (hi4 : vp_in (x3 + 4) L) (ea1 : xs (x3 + 1).toNatClampNeg = a1) (ea2 : xs (x3 + 2).toNatClampNeg = a2) (ea3 : xs (x3 + 3).toNatClampNeg = a3) (ea4 : xs (x3 + 4).toNatClampNeg = a4) {q r q' r' : QS} {mc ms cells slots : Nat} (hst : St 8 a1 a2 a3 a4 q r mc ms q' r') (hcs : cells + mc ≤ room_1.cells ∧ slots + ms ≤ room_1.slots) {H : Heap} {locs : List Loc} (hP : va_P E.1 vwCl (wX E q ++ wM (reA E aM) r) H) (hD : va_D A (wX E q ++ wM (reA E aM) r)) (hS : va_S A s.heap H locs) {ls : Array Slot} (hl : lv_has ls 4 [(0, .ref b), (1, .ref (eA E 24)), (2, .ref (aM 0)), (3, .int x3)])
    (kk : ∀ ad : Nat → Nat, (∀ k, rrole k = false → ad k = E.2.2 k) → ∀ (H1 : Heap) (locs1 : List Loc), va_P E.1 vwCl (wX (reA E ad) q' ++ wM (reA E aM) r') H1 → va_D A (wX (reA E ad) q' ++ wM (reA E aM) r') → va_S A s.heap H1 locs1 → W p l e room_1 s m #[Value.ref b] below meth c H1 locs1 (cells + mc) (slots + ms) Q (F0 m 808 ls [])) : W p l e room_1 s m #[Value.ref b] below meth c H locs cells slots Q (F0 m 428 ls []) := by
  have hx := F.1
  have hb := F.2.1
  obtain ⟨⟨emc, ems⟩, ⟨v, h1, h2⟩⟩ := hst
  subst emc; subst ems
  refine lv_aload_n hx hb dL_law_428 rfl (lv_at hl 1 rfl) ?_
  refine q_s1 (E := E) (a := wX E q) (wo := fun _ => wX E q') (ex := fun ad => ad = E.2.2) (As := []) (rest := []) F hA hP hD hS (ct_ex (c_X9_constant (E := E) (l := l) q h1)) k_X9_constant in_X9_constant se_X9_constant lm_L_52 24 (xe_24 E q) rfl ⟨rfl, rfl⟩ ⟨Nat.le_of_ble_eq_true rfl, Nat.le_of_ble_eq_true rfl⟩ rfl hl.1 rfl (Nat.le_of_ble_eq_true rfl) dL_law_429 hcs (fun _ _ H locs hP hD hS => ?_)
  refine lv_aload_n hx hb dL_law_432 rfl (lv_at hl 2 rfl) ?_
  refine q_s2 (E := E) (b := wM (reA E aM) r) (b' := wM (reA E aM) r') (As := []) (rest := [.int v]) F hA hP hD hS (c_X10_constant (E := reA E aM) (l := l) r h2) k_X10_constant in_X10_constant se_X10_constant lm_L_56 0 (me_0 (reA E aM) r) rfl ⟨rfl, rfl⟩ ⟨Nat.le_of_ble_eq_true rfl, Nat.le_of_ble_eq_true rfl⟩ rfl hl.1 rfl (Nat.le_of_ble_eq_true rfl) dL_law_433 hcs (fun H locs hP hD hS => ?_)
  refine lv_icmp_eq (tgt := 808) hx hb dL_law_436 (by decide) (fun _ => ?_) (fun c => absurd rfl c)
  exact kk E.2.2 (fun _ _ => rfl) _ _ hP hD hS
set_option maxHeartbeats 4000000 in
set_option maxRecDepth 100000 in
theorem lwc_9 {E : En} {aM : Nat → Nat} {p : Program} {l : Launch} {e : Env} {s : State} {m : MethodId} {below : List Frame} {meth : Method} {c : Code} {A : Nat → Prop} {Q : State → Prop} {b L : Nat} {xs : Nat → Int32} (F : Fx E p s m #[Value.ref b] meth c RL code 4 ret) (hA : ∀ z : Nat, s.heap.size ≤ z → A z) (hbA : ¬ A b) (hX : va_X b L xs s s.heap) (hbl : b < s.heap.size) {x3 a1 a2 a3 a4 : Int32} (hi1 : vp_in (x3 + 1) L) (hi2 : vp_in (x3 + 2) L) (hi3 : vp_in (x3 + 3) L) (hi4 : vp_in (x3 + 4) L) (ea1 : xs (x3 + 1).toNatClampNeg = a1) (ea2 : xs (x3 + 2).toNatClampNeg = a2) (ea3 : xs (x3 + 3).toNatClampNeg = a3) (ea4 : xs (x3 + 4).toNatClampNeg = a4) {q r q' r' : QS} {mc ms cells slots : Nat} (hst : St 9 a1 a2 a3 a4 q r mc ms q' r') (hcs : cells + mc ≤ room_1.cells ∧ slots + ms ≤ room_1.slots) {H : Heap} {locs : List Loc} (hP : va_P E.1 vwCl (wX E q ++ wM (reA E aM) r) H) (hD : va_D A (wX E q ++ wM (reA E aM) r)) (hS : va_S A s.heap H locs) {ls : Array Slot} (hl : lv_has ls 4 [(0, .ref b), (1, .ref (eA E 24)), (2, .ref (aM 0)), (3, .int x3)])
    (kk : ∀ ad : Nat → Nat, (∀ k, rrole k = false → ad k = E.2.2 k) → ∀ (H1 : Heap) (locs1 : List Loc), va_P E.1 vwCl (wX (reA E ad) q' ++ wM (reA E aM) r') H1 → va_D A (wX (reA E ad) q' ++ wM (reA E aM) r') → va_S A s.heap H1 locs1 → W p l e room_1 s m #[Value.ref b] below meth c H1 locs1 (cells + mc) (slots + ms) Q (F0 m 808 ls [])) : W p l e room_1 s m #[Value.ref b] below meth c H locs cells slots Q (F0 m 441 ls []) := by
  have hx := F.1
  have hb := F.2.1
  obtain ⟨⟨emc, ems⟩, ⟨v, h1, h2⟩⟩ := hst
  subst emc; subst ems
  refine lv_aload_n hx hb dL_law_441 rfl (lv_at hl 1 rfl) ?_
  refine lv_aload_n hx hb dL_law_442 rfl (lv_at hl 0 rfl) ?_
  refine lv_iload_n hx hb dL_law_443 rfl (lv_at hl 3 rfl) ?_
  refine lv_iconst (v := 1) hx hb dL_law_444 (by decide) ?_
  refine lv_iadd hx hb dL_law_445 ?_
  refine va_sld hx hb hX hbl hbA hS hi1 dL_law_446 ?_
  rw [ea1]
  refine lv_aload_n hx hb dL_law_447 rfl (lv_at hl 0 rfl) ?_
  refine lv_iload_n hx hb dL_law_448 rfl (lv_at hl 3 rfl) ?_
  refine lv_iconst (v := 2) hx hb dL_law_449 (by decide) ?_
  refine lv_iadd hx hb dL_law_450 ?_
  refine va_sld hx hb hX hbl hbA hS hi2 dL_law_451 ?_
  rw [ea2]
  refine lv_aload_n hx hb dL_law_452 rfl (lv_at hl 0 rfl) ?_
  refine lv_iload_n hx hb dL_law_453 rfl (lv_at hl 3 rfl) ?_
  refine lv_iconst (v := 3) hx hb dL_law_454 (by decide) ?_
  refine lv_iadd hx hb dL_law_455 ?_
  refine va_sld hx hb hX hbl hbA hS hi3 dL_law_456 ?_
  rw [ea3]
  refine q_s1 (E := E) (a := wX E q) (wo := fun _ => wX E q') (ex := fun ad => ad = E.2.2) (As := [.int a1, .int a2, .int a3]) (rest := []) F hA hP hD hS (ct_ex (c_X9_node (E := E) (l := l) q a1 a2 a3 h1)) k_X9_node in_X9_node se_X9_node lm_L_57 24 (xe_24 E q) rfl ⟨rfl, rfl⟩ ⟨Nat.le_of_ble_eq_true rfl, Nat.le_of_ble_eq_true rfl⟩ rfl hl.1 rfl (Nat.le_of_ble_eq_true rfl) dL_law_457 hcs (fun _ _ H locs hP hD hS => ?_)
  refine lv_aload_n hx hb dL_law_460 rfl (lv_at hl 2 rfl) ?_
  refine lv_aload_n hx hb dL_law_461 rfl (lv_at hl 0 rfl) ?_
  refine lv_iload_n hx hb dL_law_462 rfl (lv_at hl 3 rfl) ?_
  refine lv_iconst (v := 1) hx hb dL_law_463 (by decide) ?_
  refine lv_iadd hx hb dL_law_464 ?_
  refine va_sld hx hb hX hbl hbA hS hi1 dL_law_465 ?_
  rw [ea1]
  refine lv_aload_n hx hb dL_law_466 rfl (lv_at hl 0 rfl) ?_
  refine lv_iload_n hx hb dL_law_467 rfl (lv_at hl 3 rfl) ?_
  refine lv_iconst (v := 2) hx hb dL_law_468 (by decide) ?_
  refine lv_iadd hx hb dL_law_469 ?_
  refine va_sld hx hb hX hbl hbA hS hi2 dL_law_470 ?_
  rw [ea2]
  refine lv_aload_n hx hb dL_law_471 rfl (lv_at hl 0 rfl) ?_
  refine lv_iload_n hx hb dL_law_472 rfl (lv_at hl 3 rfl) ?_
  refine lv_iconst (v := 3) hx hb dL_law_473 (by decide) ?_
  refine lv_iadd hx hb dL_law_474 ?_
  refine va_sld hx hb hX hbl hbA hS hi3 dL_law_475 ?_
  rw [ea3]
  refine q_s2 (E := E) (b := wM (reA E aM) r) (b' := wM (reA E aM) r') (As := [.int a1, .int a2, .int a3]) (rest := [.int v]) F hA hP hD hS (c_X10_node (E := reA E aM) (l := l) r a1 a2 a3 h2) k_X10_node in_X10_node se_X10_node lm_L_61 0 (me_0 (reA E aM) r) rfl ⟨rfl, rfl⟩ ⟨Nat.le_of_ble_eq_true rfl, Nat.le_of_ble_eq_true rfl⟩ rfl hl.1 rfl (Nat.le_of_ble_eq_true rfl) dL_law_476 hcs (fun H locs hP hD hS => ?_)
  refine lv_icmp_eq (tgt := 808) hx hb dL_law_479 (by decide) (fun _ => ?_) (fun c => absurd rfl c)
  exact kk E.2.2 (fun _ _ => rfl) _ _ hP hD hS
set_option maxHeartbeats 4000000 in
set_option maxRecDepth 100000 in
theorem lwc_10 {E : En} {aM : Nat → Nat} {p : Program} {l : Launch} {e : Env} {s : State} {m : MethodId} {below : List Frame} {meth : Method} {c : Code} {A : Nat → Prop} {Q : State → Prop} {b L : Nat} {xs : Nat → Int32} (F : Fx E p s m #[Value.ref b] meth c RL code 4 ret) (hA : ∀ z : Nat, s.heap.size ≤ z → A z) (hbA : ¬ A b) (hX : va_X b L xs s s.heap) (hbl : b < s.heap.size) {x3 a1 a2 a3 a4 : Int32} (hi1 : vp_in (x3 + 1) L) (hi2 : vp_in (x3 + 2) L) (hi3 : vp_in (x3 + 3) L) (hi4 : vp_in (x3 + 4) L) (ea1 : xs (x3 + 1).toNatClampNeg = a1) (ea2 : xs (x3 + 2).toNatClampNeg = a2) (ea3 : xs (x3 + 3).toNatClampNeg = a3) (ea4 : xs (x3 + 4).toNatClampNeg = a4) {q r q' r' : QS} {mc ms cells slots : Nat} (hst : St 10 a1 a2 a3 a4 q r mc ms q' r') (hcs : cells + mc ≤ room_1.cells ∧ slots + ms ≤ room_1.slots) {H : Heap} {locs : List Loc} (hP : va_P E.1 vwCl (wX E q ++ wM (reA E aM) r) H) (hD : va_D A (wX E q ++ wM (reA E aM) r)) (hS : va_S A s.heap H locs) {ls : Array Slot} (hl : lv_has ls 4 [(0, .ref b), (1, .ref (eA E 24)), (2, .ref (aM 0)), (3, .int x3)])
    (kk : ∀ ad : Nat → Nat, (∀ k, rrole k = false → ad k = E.2.2 k) → ∀ (H1 : Heap) (locs1 : List Loc), va_P E.1 vwCl (wX (reA E ad) q' ++ wM (reA E aM) r') H1 → va_D A (wX (reA E ad) q' ++ wM (reA E aM) r') → va_S A s.heap H1 locs1 → W p l e room_1 s m #[Value.ref b] below meth c H1 locs1 (cells + mc) (slots + ms) Q (F0 m 808 ls [])) : W p l e room_1 s m #[Value.ref b] below meth c H locs cells slots Q (F0 m 484 ls []) := by
  have hx := F.1
  have hb := F.2.1
  obtain ⟨⟨emc, ems⟩, ⟨v, h1, eq1, h2, eq2⟩⟩ := hst
  subst emc; subst ems
  have eq1 := eq1.symm; subst eq1
  have eq2 := eq2.symm; subst eq2
  refine lv_aload_n hx hb dL_law_484 rfl (lv_at hl 1 rfl) ?_
  refine lv_aload_n hx hb dL_law_485 rfl (lv_at hl 0 rfl) ?_
  refine lv_iload_n hx hb dL_law_486 rfl (lv_at hl 3 rfl) ?_
  refine lv_iconst (v := 1) hx hb dL_law_487 (by decide) ?_
  refine lv_iadd hx hb dL_law_488 ?_
  refine va_sld hx hb hX hbl hbA hS hi1 dL_law_489 ?_
  rw [ea1]
  refine q_s1 (E := E) (a := wX E q) (wo := fun _ => wX E q) (ex := fun ad => ad = E.2.2) (As := [.int a1]) (rest := []) F hA hP hD hS (ct_ex (c_X9_type (E := E) (l := l) q a1 h1)) k_X9_type in_X9_type se_X9_type lm_L_62 24 (xe_24 E q) rfl ⟨rfl, rfl⟩ ⟨Nat.le_of_ble_eq_true rfl, Nat.le_of_ble_eq_true rfl⟩ rfl hl.1 rfl (Nat.le_of_ble_eq_true rfl) dL_law_490 hcs (fun _ _ H locs hP hD hS => ?_)
  refine lv_aload_n hx hb dL_law_493 rfl (lv_at hl 2 rfl) ?_
  refine lv_aload_n hx hb dL_law_494 rfl (lv_at hl 0 rfl) ?_
  refine lv_iload_n hx hb dL_law_495 rfl (lv_at hl 3 rfl) ?_
  refine lv_iconst (v := 1) hx hb dL_law_496 (by decide) ?_
  refine lv_iadd hx hb dL_law_497 ?_
  refine va_sld hx hb hX hbl hbA hS hi1 dL_law_498 ?_
  rw [ea1]
  refine q_s2 (E := E) (b := wM (reA E aM) r) (b' := wM (reA E aM) r) (As := [.int a1]) (rest := [.int v]) F hA hP hD hS (c_X10_type (E := reA E aM) (l := l) r a1 h2) k_X10_type in_X10_type se_X10_type lm_L_65 0 (me_0 (reA E aM) r) rfl ⟨rfl, rfl⟩ ⟨Nat.le_of_ble_eq_true rfl, Nat.le_of_ble_eq_true rfl⟩ rfl hl.1 rfl (Nat.le_of_ble_eq_true rfl) dL_law_499 hcs (fun H locs hP hD hS => ?_)
  refine lv_icmp_eq (tgt := 808) hx hb dL_law_502 (by decide) (fun _ => ?_) (fun c => absurd rfl c)
  exact kk E.2.2 (fun _ _ => rfl) _ _ hP hD hS
set_option maxHeartbeats 4000000 in
set_option maxRecDepth 100000 in
theorem lwc_11 {E : En} {aM : Nat → Nat} {p : Program} {l : Launch} {e : Env} {s : State} {m : MethodId} {below : List Frame} {meth : Method} {c : Code} {A : Nat → Prop} {Q : State → Prop} {b L : Nat} {xs : Nat → Int32} (F : Fx E p s m #[Value.ref b] meth c RL code 4 ret) (hA : ∀ z : Nat, s.heap.size ≤ z → A z) (hbA : ¬ A b) (hX : va_X b L xs s s.heap) (hbl : b < s.heap.size) {x3 a1 a2 a3 a4 : Int32} (hi1 : vp_in (x3 + 1) L) (hi2 : vp_in (x3 + 2) L) (hi3 : vp_in (x3 + 3) L) (hi4 : vp_in (x3 + 4) L) (ea1 : xs (x3 + 1).toNatClampNeg = a1) (ea2 : xs (x3 + 2).toNatClampNeg = a2) (ea3 : xs (x3 + 3).toNatClampNeg = a3) (ea4 : xs (x3 + 4).toNatClampNeg = a4) {q r q' r' : QS} {mc ms cells slots : Nat} (hst : St 11 a1 a2 a3 a4 q r mc ms q' r') (hcs : cells + mc ≤ room_1.cells ∧ slots + ms ≤ room_1.slots) {H : Heap} {locs : List Loc} (hP : va_P E.1 vwCl (wX E q ++ wM (reA E aM) r) H) (hD : va_D A (wX E q ++ wM (reA E aM) r)) (hS : va_S A s.heap H locs) {ls : Array Slot} (hl : lv_has ls 4 [(0, .ref b), (1, .ref (eA E 24)), (2, .ref (aM 0)), (3, .int x3)])
    (kk : ∀ ad : Nat → Nat, (∀ k, rrole k = false → ad k = E.2.2 k) → ∀ (H1 : Heap) (locs1 : List Loc), va_P E.1 vwCl (wX (reA E ad) q' ++ wM (reA E aM) r') H1 → va_D A (wX (reA E ad) q' ++ wM (reA E aM) r') → va_S A s.heap H1 locs1 → W p l e room_1 s m #[Value.ref b] below meth c H1 locs1 (cells + mc) (slots + ms) Q (F0 m 808 ls [])) : W p l e room_1 s m #[Value.ref b] below meth c H locs cells slots Q (F0 m 507 ls []) := by
  have hx := F.1
  have hb := F.2.1
  obtain ⟨⟨emc, ems⟩, ⟨v, h1, h2⟩⟩ := hst
  subst emc; subst ems
  refine lv_aload_n hx hb dL_law_507 rfl (lv_at hl 1 rfl) ?_
  refine lv_aload_n hx hb dL_law_508 rfl (lv_at hl 0 rfl) ?_
  refine lv_iload_n hx hb dL_law_509 rfl (lv_at hl 3 rfl) ?_
  refine lv_iconst (v := 1) hx hb dL_law_510 (by decide) ?_
  refine lv_iadd hx hb dL_law_511 ?_
  refine va_sld hx hb hX hbl hbA hS hi1 dL_law_512 ?_
  rw [ea1]
  refine q_s1 (E := E) (a := wX E q) (wo := fun _ => wX E q') (ex := fun ad => ad = E.2.2) (As := [.int a1]) (rest := []) F hA hP hD hS (ct_ex (c_X9_where (E := E) (l := l) q a1 h1)) k_X9_where in_X9_where se_X9_where lm_L_66 24 (xe_24 E q) rfl ⟨rfl, rfl⟩ ⟨Nat.le_of_ble_eq_true rfl, Nat.le_of_ble_eq_true rfl⟩ rfl hl.1 rfl (Nat.le_of_ble_eq_true rfl) dL_law_513 hcs (fun _ _ H locs hP hD hS => ?_)
  refine lv_aload_n hx hb dL_law_516 rfl (lv_at hl 2 rfl) ?_
  refine lv_aload_n hx hb dL_law_517 rfl (lv_at hl 0 rfl) ?_
  refine lv_iload_n hx hb dL_law_518 rfl (lv_at hl 3 rfl) ?_
  refine lv_iconst (v := 1) hx hb dL_law_519 (by decide) ?_
  refine lv_iadd hx hb dL_law_520 ?_
  refine va_sld hx hb hX hbl hbA hS hi1 dL_law_521 ?_
  rw [ea1]
  refine q_s2 (E := E) (b := wM (reA E aM) r) (b' := wM (reA E aM) r') (As := [.int a1]) (rest := [.int v]) F hA hP hD hS (c_X10_where (E := reA E aM) (l := l) r a1 h2) k_X10_where in_X10_where se_X10_where lm_L_70 0 (me_0 (reA E aM) r) rfl ⟨rfl, rfl⟩ ⟨Nat.le_of_ble_eq_true rfl, Nat.le_of_ble_eq_true rfl⟩ rfl hl.1 rfl (Nat.le_of_ble_eq_true rfl) dL_law_522 hcs (fun H locs hP hD hS => ?_)
  refine lv_icmp_eq (tgt := 808) hx hb dL_law_525 (by decide) (fun _ => ?_) (fun c => absurd rfl c)
  exact kk E.2.2 (fun _ _ => rfl) _ _ hP hD hS
set_option maxHeartbeats 4000000 in
set_option maxRecDepth 100000 in
theorem lwc_12 {E : En} {aM : Nat → Nat} {p : Program} {l : Launch} {e : Env} {s : State} {m : MethodId} {below : List Frame} {meth : Method} {c : Code} {A : Nat → Prop} {Q : State → Prop} {b L : Nat} {xs : Nat → Int32} (F : Fx E p s m #[Value.ref b] meth c RL code 4 ret) (hA : ∀ z : Nat, s.heap.size ≤ z → A z) (hbA : ¬ A b) (hX : va_X b L xs s s.heap) (hbl : b < s.heap.size) {x3 a1 a2 a3 a4 : Int32} (hi1 : vp_in (x3 + 1) L) (hi2 : vp_in (x3 + 2) L) (hi3 : vp_in (x3 + 3) L) (hi4 : vp_in (x3 + 4) L) (ea1 : xs (x3 + 1).toNatClampNeg = a1) (ea2 : xs (x3 + 2).toNatClampNeg = a2) (ea3 : xs (x3 + 3).toNatClampNeg = a3) (ea4 : xs (x3 + 4).toNatClampNeg = a4) {q r q' r' : QS} {mc ms cells slots : Nat} (hst : St 12 a1 a2 a3 a4 q r mc ms q' r') (hcs : cells + mc ≤ room_1.cells ∧ slots + ms ≤ room_1.slots) {H : Heap} {locs : List Loc} (hP : va_P E.1 vwCl (wX E q ++ wM (reA E aM) r) H) (hD : va_D A (wX E q ++ wM (reA E aM) r)) (hS : va_S A s.heap H locs) {ls : Array Slot} (hl : lv_has ls 4 [(0, .ref b), (1, .ref (eA E 24)), (2, .ref (aM 0)), (3, .int x3)])
    (kk : ∀ ad : Nat → Nat, (∀ k, rrole k = false → ad k = E.2.2 k) → ∀ (H1 : Heap) (locs1 : List Loc), va_P E.1 vwCl (wX (reA E ad) q' ++ wM (reA E aM) r') H1 → va_D A (wX (reA E ad) q' ++ wM (reA E aM) r') → va_S A s.heap H1 locs1 → W p l e room_1 s m #[Value.ref b] below meth c H1 locs1 (cells + mc) (slots + ms) Q (F0 m 808 ls [])) : W p l e room_1 s m #[Value.ref b] below meth c H locs cells slots Q (F0 m 530 ls []) := by
  have hx := F.1
  have hb := F.2.1
  obtain ⟨⟨emc, ems⟩, ⟨v, h1, h2⟩⟩ := hst
  subst emc; subst ems
  refine lv_aload_n hx hb dL_law_530 rfl (lv_at hl 1 rfl) ?_
  refine lv_aload_n hx hb dL_law_531 rfl (lv_at hl 0 rfl) ?_
  refine lv_iload_n hx hb dL_law_532 rfl (lv_at hl 3 rfl) ?_
  refine lv_iconst (v := 1) hx hb dL_law_533 (by decide) ?_
  refine lv_iadd hx hb dL_law_534 ?_
  refine va_sld hx hb hX hbl hbA hS hi1 dL_law_535 ?_
  rw [ea1]
  refine q_s1 (E := E) (a := wX E q) (wo := fun _ => wX E q') (ex := fun ad => ad = E.2.2) (As := [.int a1]) (rest := []) F hA hP hD hS (ct_ex (c_X9_item (E := E) (l := l) q a1 h1)) k_X9_item in_X9_item se_X9_item lm_L_71 24 (xe_24 E q) rfl ⟨rfl, rfl⟩ ⟨Nat.le_of_ble_eq_true rfl, Nat.le_of_ble_eq_true rfl⟩ rfl hl.1 rfl (Nat.le_of_ble_eq_true rfl) dL_law_536 hcs (fun _ _ H locs hP hD hS => ?_)
  refine lv_aload_n hx hb dL_law_539 rfl (lv_at hl 2 rfl) ?_
  refine lv_aload_n hx hb dL_law_540 rfl (lv_at hl 0 rfl) ?_
  refine lv_iload_n hx hb dL_law_541 rfl (lv_at hl 3 rfl) ?_
  refine lv_iconst (v := 1) hx hb dL_law_542 (by decide) ?_
  refine lv_iadd hx hb dL_law_543 ?_
  refine va_sld hx hb hX hbl hbA hS hi1 dL_law_544 ?_
  rw [ea1]
  refine q_s2 (E := E) (b := wM (reA E aM) r) (b' := wM (reA E aM) r') (As := [.int a1]) (rest := [.int v]) F hA hP hD hS (c_X10_item (E := reA E aM) (l := l) r a1 h2) k_X10_item in_X10_item se_X10_item lm_L_74 0 (me_0 (reA E aM) r) rfl ⟨rfl, rfl⟩ ⟨Nat.le_of_ble_eq_true rfl, Nat.le_of_ble_eq_true rfl⟩ rfl hl.1 rfl (Nat.le_of_ble_eq_true rfl) dL_law_545 hcs (fun H locs hP hD hS => ?_)
  refine lv_icmp_eq (tgt := 808) hx hb dL_law_548 (by decide) (fun _ => ?_) (fun c => absurd rfl c)
  exact kk E.2.2 (fun _ _ => rfl) _ _ hP hD hS
set_option maxHeartbeats 4000000 in
set_option maxRecDepth 100000 in
theorem lwc_13 {E : En} {aM : Nat → Nat} {p : Program} {l : Launch} {e : Env} {s : State} {m : MethodId} {below : List Frame} {meth : Method} {c : Code} {A : Nat → Prop} {Q : State → Prop} {b L : Nat} {xs : Nat → Int32} (F : Fx E p s m #[Value.ref b] meth c RL code 4 ret) (hA : ∀ z : Nat, s.heap.size ≤ z → A z) (hbA : ¬ A b) (hX : va_X b L xs s s.heap) (hbl : b < s.heap.size) {x3 a1 a2 a3 a4 : Int32} (hi1 : vp_in (x3 + 1) L) (hi2 : vp_in (x3 + 2) L) (hi3 : vp_in (x3 + 3) L) (hi4 : vp_in (x3 + 4) L) (ea1 : xs (x3 + 1).toNatClampNeg = a1) (ea2 : xs (x3 + 2).toNatClampNeg = a2) (ea3 : xs (x3 + 3).toNatClampNeg = a3) (ea4 : xs (x3 + 4).toNatClampNeg = a4) {q r q' r' : QS} {mc ms cells slots : Nat} (hst : St 13 a1 a2 a3 a4 q r mc ms q' r') (hcs : cells + mc ≤ room_1.cells ∧ slots + ms ≤ room_1.slots) {H : Heap} {locs : List Loc} (hP : va_P E.1 vwCl (wX E q ++ wM (reA E aM) r) H) (hD : va_D A (wX E q ++ wM (reA E aM) r)) (hS : va_S A s.heap H locs) {ls : Array Slot} (hl : lv_has ls 4 [(0, .ref b), (1, .ref (eA E 24)), (2, .ref (aM 0)), (3, .int x3)])
    (kk : ∀ ad : Nat → Nat, (∀ k, rrole k = false → ad k = E.2.2 k) → ∀ (H1 : Heap) (locs1 : List Loc), va_P E.1 vwCl (wX (reA E ad) q' ++ wM (reA E aM) r') H1 → va_D A (wX (reA E ad) q' ++ wM (reA E aM) r') → va_S A s.heap H1 locs1 → W p l e room_1 s m #[Value.ref b] below meth c H1 locs1 (cells + mc) (slots + ms) Q (F0 m 808 ls [])) : W p l e room_1 s m #[Value.ref b] below meth c H locs cells slots Q (F0 m 553 ls []) := by
  have hx := F.1
  have hb := F.2.1
  obtain ⟨⟨emc, ems⟩, ⟨v, h1, h2⟩⟩ := hst
  subst emc; subst ems
  refine lv_aload_n hx hb dL_law_553 rfl (lv_at hl 1 rfl) ?_
  refine lv_aload_n hx hb dL_law_554 rfl (lv_at hl 0 rfl) ?_
  refine lv_iload_n hx hb dL_law_555 rfl (lv_at hl 3 rfl) ?_
  refine lv_iconst (v := 1) hx hb dL_law_556 (by decide) ?_
  refine lv_iadd hx hb dL_law_557 ?_
  refine va_sld hx hb hX hbl hbA hS hi1 dL_law_558 ?_
  rw [ea1]
  refine q_s1 (E := E) (a := wX E q) (wo := fun _ => wX E q') (ex := fun ad => ad = E.2.2) (As := [.int a1]) (rest := []) F hA hP hD hS (ct_ex (c_X9_group (E := E) (l := l) q a1 h1)) k_X9_group in_X9_group se_X9_group lm_L_75 24 (xe_24 E q) rfl ⟨rfl, rfl⟩ ⟨Nat.le_of_ble_eq_true rfl, Nat.le_of_ble_eq_true rfl⟩ rfl hl.1 rfl (Nat.le_of_ble_eq_true rfl) dL_law_559 hcs (fun _ _ H locs hP hD hS => ?_)
  refine lv_aload_n hx hb dL_law_562 rfl (lv_at hl 2 rfl) ?_
  refine lv_aload_n hx hb dL_law_563 rfl (lv_at hl 0 rfl) ?_
  refine lv_iload_n hx hb dL_law_564 rfl (lv_at hl 3 rfl) ?_
  refine lv_iconst (v := 1) hx hb dL_law_565 (by decide) ?_
  refine lv_iadd hx hb dL_law_566 ?_
  refine va_sld hx hb hX hbl hbA hS hi1 dL_law_567 ?_
  rw [ea1]
  refine q_s2 (E := E) (b := wM (reA E aM) r) (b' := wM (reA E aM) r') (As := [.int a1]) (rest := [.int v]) F hA hP hD hS (c_X10_group (E := reA E aM) (l := l) r a1 h2) k_X10_group in_X10_group se_X10_group lm_L_78 0 (me_0 (reA E aM) r) rfl ⟨rfl, rfl⟩ ⟨Nat.le_of_ble_eq_true rfl, Nat.le_of_ble_eq_true rfl⟩ rfl hl.1 rfl (Nat.le_of_ble_eq_true rfl) dL_law_568 hcs (fun H locs hP hD hS => ?_)
  refine lv_icmp_eq (tgt := 808) hx hb dL_law_571 (by decide) (fun _ => ?_) (fun c => absurd rfl c)
  exact kk E.2.2 (fun _ _ => rfl) _ _ hP hD hS
set_option maxHeartbeats 4000000 in
set_option maxRecDepth 100000 in
theorem lwc_14 {E : En} {aM : Nat → Nat} {p : Program} {l : Launch} {e : Env} {s : State} {m : MethodId} {below : List Frame} {meth : Method} {c : Code} {A : Nat → Prop} {Q : State → Prop} {b L : Nat} {xs : Nat → Int32} (F : Fx E p s m #[Value.ref b] meth c RL code 4 ret) (hA : ∀ z : Nat, s.heap.size ≤ z → A z) (hbA : ¬ A b) (hX : va_X b L xs s s.heap) (hbl : b < s.heap.size) {x3 a1 a2 a3 a4 : Int32} (hi1 : vp_in (x3 + 1) L) (hi2 : vp_in (x3 + 2) L) (hi3 : vp_in (x3 + 3) L) (hi4 : vp_in (x3 + 4) L) (ea1 : xs (x3 + 1).toNatClampNeg = a1) (ea2 : xs (x3 + 2).toNatClampNeg = a2) (ea3 : xs (x3 + 3).toNatClampNeg = a3) (ea4 : xs (x3 + 4).toNatClampNeg = a4) {q r q' r' : QS} {mc ms cells slots : Nat} (hst : St 14 a1 a2 a3 a4 q r mc ms q' r') (hcs : cells + mc ≤ room_1.cells ∧ slots + ms ≤ room_1.slots) {H : Heap} {locs : List Loc} (hP : va_P E.1 vwCl (wX E q ++ wM (reA E aM) r) H) (hD : va_D A (wX E q ++ wM (reA E aM) r)) (hS : va_S A s.heap H locs) {ls : Array Slot} (hl : lv_has ls 4 [(0, .ref b), (1, .ref (eA E 24)), (2, .ref (aM 0)), (3, .int x3)])
    (kk : ∀ ad : Nat → Nat, (∀ k, rrole k = false → ad k = E.2.2 k) → ∀ (H1 : Heap) (locs1 : List Loc), va_P E.1 vwCl (wX (reA E ad) q' ++ wM (reA E aM) r') H1 → va_D A (wX (reA E ad) q' ++ wM (reA E aM) r') → va_S A s.heap H1 locs1 → W p l e room_1 s m #[Value.ref b] below meth c H1 locs1 (cells + mc) (slots + ms) Q (F0 m 808 ls [])) : W p l e room_1 s m #[Value.ref b] below meth c H locs cells slots Q (F0 m 576 ls []) := by
  have hx := F.1
  have hb := F.2.1
  obtain ⟨⟨emc, ems⟩, ⟨v, h1, h2⟩⟩ := hst
  subst emc; subst ems
  by_cases hz : a2 = 0
  · have hbz : bz a2 = 0 := if_pos hz
    rw [hbz] at h1 h2
    refine lv_aload_n hx hb dL_law_576 rfl (lv_at hl 1 rfl) ?_
    refine lv_aload_n hx hb dL_law_577 rfl (lv_at hl 0 rfl) ?_
    refine lv_iload_n hx hb dL_law_578 rfl (lv_at hl 3 rfl) ?_
    refine lv_iconst (v := 1) hx hb dL_law_579 (by decide) ?_
    refine lv_iadd hx hb dL_law_580 ?_
    refine va_sld hx hb hX hbl hbA hS hi1 dL_law_581 ?_
    rw [ea1]
    refine lv_aload_n hx hb dL_law_582 rfl (lv_at hl 0 rfl) ?_
    refine lv_iload_n hx hb dL_law_583 rfl (lv_at hl 3 rfl) ?_
    refine lv_iconst (v := 2) hx hb dL_law_584 (by decide) ?_
    refine lv_iadd hx hb dL_law_585 ?_
    refine va_sld hx hb hX hbl hbA hS hi2 dL_law_586 ?_
    rw [ea2]
    refine lv_if_eq (tgt := 594) hx hb dL_law_587 (by decide) (fun _ => ?_) (fun c => absurd hz c)
    refine lv_iconst (v := 0) hx hb dL_law_594 (by decide) ?_
    refine q_s1 (E := E) (a := wX E q) (wo := fun _ => wX E q') (ex := fun ad => ad = E.2.2) (As := [.int a1, .int (0 : Int32)]) (rest := []) F hA hP hD hS (ct_ex (c_X9_order (E := E) (l := l) q a1 (0 : Int32) h1)) k_X9_order in_X9_order se_X9_order lm_L_79 24 (xe_24 E q) rfl ⟨rfl, rfl⟩ ⟨Nat.le_of_ble_eq_true rfl, Nat.le_of_ble_eq_true rfl⟩ rfl hl.1 rfl (Nat.le_of_ble_eq_true rfl) dL_law_595 hcs (fun _ _ H locs hP hD hS => ?_)
    refine lv_aload_n hx hb dL_law_598 rfl (lv_at hl 2 rfl) ?_
    refine lv_aload_n hx hb dL_law_599 rfl (lv_at hl 0 rfl) ?_
    refine lv_iload_n hx hb dL_law_600 rfl (lv_at hl 3 rfl) ?_
    refine lv_iconst (v := 1) hx hb dL_law_601 (by decide) ?_
    refine lv_iadd hx hb dL_law_602 ?_
    refine va_sld hx hb hX hbl hbA hS hi1 dL_law_603 ?_
    rw [ea1]
    refine lv_aload_n hx hb dL_law_604 rfl (lv_at hl 0 rfl) ?_
    refine lv_iload_n hx hb dL_law_605 rfl (lv_at hl 3 rfl) ?_
    refine lv_iconst (v := 2) hx hb dL_law_606 (by decide) ?_
    refine lv_iadd hx hb dL_law_607 ?_
    refine va_sld hx hb hX hbl hbA hS hi2 dL_law_608 ?_
    rw [ea2]
    refine lv_if_eq (tgt := 616) hx hb dL_law_609 (by decide) (fun _ => ?_) (fun c => absurd hz c)
    refine lv_iconst (v := 0) hx hb dL_law_616 (by decide) ?_
    refine q_s2 (E := E) (b := wM (reA E aM) r) (b' := wM (reA E aM) r') (As := [.int a1, .int (0 : Int32)]) (rest := [.int v]) F hA hP hD hS (c_X10_order (E := reA E aM) (l := l) r a1 (0 : Int32) h2) k_X10_order in_X10_order se_X10_order lm_L_82 0 (me_0 (reA E aM) r) rfl ⟨rfl, rfl⟩ ⟨Nat.le_of_ble_eq_true rfl, Nat.le_of_ble_eq_true rfl⟩ rfl hl.1 rfl (Nat.le_of_ble_eq_true rfl) dL_law_617 hcs (fun H locs hP hD hS => ?_)
    refine lv_icmp_eq (tgt := 808) hx hb dL_law_620 (by decide) (fun _ => ?_) (fun c => absurd rfl c)
    exact kk E.2.2 (fun _ _ => rfl) _ _ hP hD hS
  · have hbz : bz a2 = 1 := if_neg hz
    rw [hbz] at h1 h2
    refine lv_aload_n hx hb dL_law_576 rfl (lv_at hl 1 rfl) ?_
    refine lv_aload_n hx hb dL_law_577 rfl (lv_at hl 0 rfl) ?_
    refine lv_iload_n hx hb dL_law_578 rfl (lv_at hl 3 rfl) ?_
    refine lv_iconst (v := 1) hx hb dL_law_579 (by decide) ?_
    refine lv_iadd hx hb dL_law_580 ?_
    refine va_sld hx hb hX hbl hbA hS hi1 dL_law_581 ?_
    rw [ea1]
    refine lv_aload_n hx hb dL_law_582 rfl (lv_at hl 0 rfl) ?_
    refine lv_iload_n hx hb dL_law_583 rfl (lv_at hl 3 rfl) ?_
    refine lv_iconst (v := 2) hx hb dL_law_584 (by decide) ?_
    refine lv_iadd hx hb dL_law_585 ?_
    refine va_sld hx hb hX hbl hbA hS hi2 dL_law_586 ?_
    rw [ea2]
    refine lv_if_eq (tgt := 594) hx hb dL_law_587 (by decide) (fun c => absurd c hz) (fun _ => ?_)
    refine lv_iconst (v := 1) hx hb dL_law_590 (by decide) ?_
    refine lv_goto (tgt := 595) hx hb dL_law_591 (by decide) ?_
    refine q_s1 (E := E) (a := wX E q) (wo := fun _ => wX E q') (ex := fun ad => ad = E.2.2) (As := [.int a1, .int (1 : Int32)]) (rest := []) F hA hP hD hS (ct_ex (c_X9_order (E := E) (l := l) q a1 (1 : Int32) h1)) k_X9_order in_X9_order se_X9_order lm_L_79 24 (xe_24 E q) rfl ⟨rfl, rfl⟩ ⟨Nat.le_of_ble_eq_true rfl, Nat.le_of_ble_eq_true rfl⟩ rfl hl.1 rfl (Nat.le_of_ble_eq_true rfl) dL_law_595 hcs (fun _ _ H locs hP hD hS => ?_)
    refine lv_aload_n hx hb dL_law_598 rfl (lv_at hl 2 rfl) ?_
    refine lv_aload_n hx hb dL_law_599 rfl (lv_at hl 0 rfl) ?_
    refine lv_iload_n hx hb dL_law_600 rfl (lv_at hl 3 rfl) ?_
    refine lv_iconst (v := 1) hx hb dL_law_601 (by decide) ?_
    refine lv_iadd hx hb dL_law_602 ?_
    refine va_sld hx hb hX hbl hbA hS hi1 dL_law_603 ?_
    rw [ea1]
    refine lv_aload_n hx hb dL_law_604 rfl (lv_at hl 0 rfl) ?_
    refine lv_iload_n hx hb dL_law_605 rfl (lv_at hl 3 rfl) ?_
    refine lv_iconst (v := 2) hx hb dL_law_606 (by decide) ?_
    refine lv_iadd hx hb dL_law_607 ?_
    refine va_sld hx hb hX hbl hbA hS hi2 dL_law_608 ?_
    rw [ea2]
    refine lv_if_eq (tgt := 616) hx hb dL_law_609 (by decide) (fun c => absurd c hz) (fun _ => ?_)
    refine lv_iconst (v := 1) hx hb dL_law_612 (by decide) ?_
    refine lv_goto (tgt := 617) hx hb dL_law_613 (by decide) ?_
    refine q_s2 (E := E) (b := wM (reA E aM) r) (b' := wM (reA E aM) r') (As := [.int a1, .int (1 : Int32)]) (rest := [.int v]) F hA hP hD hS (c_X10_order (E := reA E aM) (l := l) r a1 (1 : Int32) h2) k_X10_order in_X10_order se_X10_order lm_L_82 0 (me_0 (reA E aM) r) rfl ⟨rfl, rfl⟩ ⟨Nat.le_of_ble_eq_true rfl, Nat.le_of_ble_eq_true rfl⟩ rfl hl.1 rfl (Nat.le_of_ble_eq_true rfl) dL_law_617 hcs (fun H locs hP hD hS => ?_)
    refine lv_icmp_eq (tgt := 808) hx hb dL_law_620 (by decide) (fun _ => ?_) (fun c => absurd rfl c)
    exact kk E.2.2 (fun _ _ => rfl) _ _ hP hD hS
set_option maxHeartbeats 4000000 in
set_option maxRecDepth 100000 in
theorem lwc_15 {E : En} {aM : Nat → Nat} {p : Program} {l : Launch} {e : Env} {s : State} {m : MethodId} {below : List Frame} {meth : Method} {c : Code} {A : Nat → Prop} {Q : State → Prop} {b L : Nat} {xs : Nat → Int32} (F : Fx E p s m #[Value.ref b] meth c RL code 4 ret) (hA : ∀ z : Nat, s.heap.size ≤ z → A z) (hbA : ¬ A b) (hX : va_X b L xs s s.heap) (hbl : b < s.heap.size) {x3 a1 a2 a3 a4 : Int32} (hi1 : vp_in (x3 + 1) L) (hi2 : vp_in (x3 + 2) L) (hi3 : vp_in (x3 + 3) L) (hi4 : vp_in (x3 + 4) L) (ea1 : xs (x3 + 1).toNatClampNeg = a1) (ea2 : xs (x3 + 2).toNatClampNeg = a2) (ea3 : xs (x3 + 3).toNatClampNeg = a3) (ea4 : xs (x3 + 4).toNatClampNeg = a4) {q r q' r' : QS} {mc ms cells slots : Nat} (hst : St 15 a1 a2 a3 a4 q r mc ms q' r') (hcs : cells + mc ≤ room_1.cells ∧ slots + ms ≤ room_1.slots) {H : Heap} {locs : List Loc} (hP : va_P E.1 vwCl (wX E q ++ wM (reA E aM) r) H) (hD : va_D A (wX E q ++ wM (reA E aM) r)) (hS : va_S A s.heap H locs) {ls : Array Slot} (hl : lv_has ls 4 [(0, .ref b), (1, .ref (eA E 24)), (2, .ref (aM 0)), (3, .int x3)])
    (kk : ∀ ad : Nat → Nat, (∀ k, rrole k = false → ad k = E.2.2 k) → ∀ (H1 : Heap) (locs1 : List Loc), va_P E.1 vwCl (wX (reA E ad) q' ++ wM (reA E aM) r') H1 → va_D A (wX (reA E ad) q' ++ wM (reA E aM) r') → va_S A s.heap H1 locs1 → W p l e room_1 s m #[Value.ref b] below meth c H1 locs1 (cells + mc) (slots + ms) Q (F0 m 808 ls [])) : W p l e room_1 s m #[Value.ref b] below meth c H locs cells slots Q (F0 m 625 ls []) := by
  have hx := F.1
  have hb := F.2.1
  obtain ⟨⟨emc, ems⟩, ⟨v, h1, h2⟩⟩ := hst
  subst emc; subst ems
  refine lv_aload_n hx hb dL_law_625 rfl (lv_at hl 1 rfl) ?_
  refine lv_aload_n hx hb dL_law_626 rfl (lv_at hl 0 rfl) ?_
  refine lv_iload_n hx hb dL_law_627 rfl (lv_at hl 3 rfl) ?_
  refine lv_iconst (v := 1) hx hb dL_law_628 (by decide) ?_
  refine lv_iadd hx hb dL_law_629 ?_
  refine va_sld hx hb hX hbl hbA hS hi1 dL_law_630 ?_
  rw [ea1]
  refine q_s1 (E := E) (a := wX E q) (wo := fun _ => wX E q') (ex := fun ad => ad = E.2.2) (As := [.int a1]) (rest := []) F hA hP hD hS (ct_ex (c_X9_limit (E := E) (l := l) q a1 h1)) k_X9_limit in_X9_limit se_X9_limit lm_L_83 24 (xe_24 E q) rfl ⟨rfl, rfl⟩ ⟨Nat.le_of_ble_eq_true rfl, Nat.le_of_ble_eq_true rfl⟩ rfl hl.1 rfl (Nat.le_of_ble_eq_true rfl) dL_law_631 hcs (fun _ _ H locs hP hD hS => ?_)
  refine lv_aload_n hx hb dL_law_634 rfl (lv_at hl 2 rfl) ?_
  refine lv_aload_n hx hb dL_law_635 rfl (lv_at hl 0 rfl) ?_
  refine lv_iload_n hx hb dL_law_636 rfl (lv_at hl 3 rfl) ?_
  refine lv_iconst (v := 1) hx hb dL_law_637 (by decide) ?_
  refine lv_iadd hx hb dL_law_638 ?_
  refine va_sld hx hb hX hbl hbA hS hi1 dL_law_639 ?_
  rw [ea1]
  refine q_s2 (E := E) (b := wM (reA E aM) r) (b' := wM (reA E aM) r') (As := [.int a1]) (rest := [.int v]) F hA hP hD hS (c_X10_limit (E := reA E aM) (l := l) r a1 h2) k_X10_limit in_X10_limit se_X10_limit lm_L_86 0 (me_0 (reA E aM) r) rfl ⟨rfl, rfl⟩ ⟨Nat.le_of_ble_eq_true rfl, Nat.le_of_ble_eq_true rfl⟩ rfl hl.1 rfl (Nat.le_of_ble_eq_true rfl) dL_law_640 hcs (fun H locs hP hD hS => ?_)
  refine lv_icmp_eq (tgt := 808) hx hb dL_law_643 (by decide) (fun _ => ?_) (fun c => absurd rfl c)
  exact kk E.2.2 (fun _ _ => rfl) _ _ hP hD hS
set_option maxHeartbeats 4000000 in
set_option maxRecDepth 100000 in
theorem lwc_16 {E : En} {aM : Nat → Nat} {p : Program} {l : Launch} {e : Env} {s : State} {m : MethodId} {below : List Frame} {meth : Method} {c : Code} {A : Nat → Prop} {Q : State → Prop} {b L : Nat} {xs : Nat → Int32} (F : Fx E p s m #[Value.ref b] meth c RL code 4 ret) (hA : ∀ z : Nat, s.heap.size ≤ z → A z) (hbA : ¬ A b) (hX : va_X b L xs s s.heap) (hbl : b < s.heap.size) {x3 a1 a2 a3 a4 : Int32} (hi1 : vp_in (x3 + 1) L) (hi2 : vp_in (x3 + 2) L) (hi3 : vp_in (x3 + 3) L) (hi4 : vp_in (x3 + 4) L) (ea1 : xs (x3 + 1).toNatClampNeg = a1) (ea2 : xs (x3 + 2).toNatClampNeg = a2) (ea3 : xs (x3 + 3).toNatClampNeg = a3) (ea4 : xs (x3 + 4).toNatClampNeg = a4) {q r q' r' : QS} {mc ms cells slots : Nat} (hst : St 16 a1 a2 a3 a4 q r mc ms q' r') (hcs : cells + mc ≤ room_1.cells ∧ slots + ms ≤ room_1.slots) {H : Heap} {locs : List Loc} (hP : va_P E.1 vwCl (wX E q ++ wM (reA E aM) r) H) (hD : va_D A (wX E q ++ wM (reA E aM) r)) (hS : va_S A s.heap H locs) {ls : Array Slot} (hl : lv_has ls 4 [(0, .ref b), (1, .ref (eA E 24)), (2, .ref (aM 0)), (3, .int x3)])
    (kk : ∀ ad : Nat → Nat, (∀ k, rrole k = false → ad k = E.2.2 k) → ∀ (H1 : Heap) (locs1 : List Loc), va_P E.1 vwCl (wX (reA E ad) q' ++ wM (reA E aM) r') H1 → va_D A (wX (reA E ad) q' ++ wM (reA E aM) r') → va_S A s.heap H1 locs1 → W p l e room_1 s m #[Value.ref b] below meth c H1 locs1 (cells + mc) (slots + ms) Q (F0 m 808 ls [])) : W p l e room_1 s m #[Value.ref b] below meth c H locs cells slots Q (F0 m 648 ls []) := by
  have hx := F.1
  have hb := F.2.1
  obtain ⟨⟨emc, ems⟩, ⟨h1, h2⟩⟩ := hst
  subst emc; subst ems
  by_cases hz : a1 = 0
  · have hbz : bz a1 = 0 := if_pos hz
    rw [hbz] at h1 h2
    refine lv_aload_n hx hb dL_law_648 rfl (lv_at hl 1 rfl) ?_
    refine lv_aload_n hx hb dL_law_649 rfl (lv_at hl 0 rfl) ?_
    refine lv_iload_n hx hb dL_law_650 rfl (lv_at hl 3 rfl) ?_
    refine lv_iconst (v := 1) hx hb dL_law_651 (by decide) ?_
    refine lv_iadd hx hb dL_law_652 ?_
    refine va_sld hx hb hX hbl hbA hS hi1 dL_law_653 ?_
    rw [ea1]
    refine lv_if_eq (tgt := 661) hx hb dL_law_654 (by decide) (fun _ => ?_) (fun c => absurd hz c)
    refine lv_iconst (v := 0) hx hb dL_law_661 (by decide) ?_
    refine q_s1 (E := E) (a := wX E q) (wo := fun _ => wX E q') (ex := fun ad => ad = E.2.2) (As := [.int (0 : Int32)]) (rest := []) F hA hP hD hS (ct_ex (c_X9_distinct (E := E) (l := l) q (0 : Int32) h1)) k_X9_distinct in_X9_distinct se_X9_distinct lm_L_87 24 (xe_24 E q) rfl ⟨rfl, rfl⟩ ⟨Nat.le_of_ble_eq_true rfl, Nat.le_of_ble_eq_true rfl⟩ rfl hl.1 rfl (Nat.le_of_ble_eq_true rfl) dL_law_662 hcs (fun _ _ H locs hP hD hS => ?_)
    refine lv_aload_n hx hb dL_law_665 rfl (lv_at hl 2 rfl) ?_
    refine lv_aload_n hx hb dL_law_666 rfl (lv_at hl 0 rfl) ?_
    refine lv_iload_n hx hb dL_law_667 rfl (lv_at hl 3 rfl) ?_
    refine lv_iconst (v := 1) hx hb dL_law_668 (by decide) ?_
    refine lv_iadd hx hb dL_law_669 ?_
    refine va_sld hx hb hX hbl hbA hS hi1 dL_law_670 ?_
    rw [ea1]
    refine lv_if_eq (tgt := 678) hx hb dL_law_671 (by decide) (fun _ => ?_) (fun c => absurd hz c)
    refine lv_iconst (v := 0) hx hb dL_law_678 (by decide) ?_
    refine q_s2 (E := E) (b := wM (reA E aM) r) (b' := wM (reA E aM) r') (As := [.int (0 : Int32)]) (rest := []) F hA hP hD hS (c_X10_distinct (E := reA E aM) (l := l) r (0 : Int32) h2) k_X10_distinct in_X10_distinct se_X10_distinct lm_L_91 0 (me_0 (reA E aM) r) rfl ⟨rfl, rfl⟩ ⟨Nat.le_of_ble_eq_true rfl, Nat.le_of_ble_eq_true rfl⟩ rfl hl.1 rfl (Nat.le_of_ble_eq_true rfl) dL_law_679 hcs (fun H locs hP hD hS => ?_)
    refine lv_goto (tgt := 808) hx hb dL_law_682 (by decide) ?_
    exact kk E.2.2 (fun _ _ => rfl) _ _ hP hD hS
  · have hbz : bz a1 = 1 := if_neg hz
    rw [hbz] at h1 h2
    refine lv_aload_n hx hb dL_law_648 rfl (lv_at hl 1 rfl) ?_
    refine lv_aload_n hx hb dL_law_649 rfl (lv_at hl 0 rfl) ?_
    refine lv_iload_n hx hb dL_law_650 rfl (lv_at hl 3 rfl) ?_
    refine lv_iconst (v := 1) hx hb dL_law_651 (by decide) ?_
    refine lv_iadd hx hb dL_law_652 ?_
    refine va_sld hx hb hX hbl hbA hS hi1 dL_law_653 ?_
    rw [ea1]
    refine lv_if_eq (tgt := 661) hx hb dL_law_654 (by decide) (fun c => absurd c hz) (fun _ => ?_)
    refine lv_iconst (v := 1) hx hb dL_law_657 (by decide) ?_
    refine lv_goto (tgt := 662) hx hb dL_law_658 (by decide) ?_
    refine q_s1 (E := E) (a := wX E q) (wo := fun _ => wX E q') (ex := fun ad => ad = E.2.2) (As := [.int (1 : Int32)]) (rest := []) F hA hP hD hS (ct_ex (c_X9_distinct (E := E) (l := l) q (1 : Int32) h1)) k_X9_distinct in_X9_distinct se_X9_distinct lm_L_87 24 (xe_24 E q) rfl ⟨rfl, rfl⟩ ⟨Nat.le_of_ble_eq_true rfl, Nat.le_of_ble_eq_true rfl⟩ rfl hl.1 rfl (Nat.le_of_ble_eq_true rfl) dL_law_662 hcs (fun _ _ H locs hP hD hS => ?_)
    refine lv_aload_n hx hb dL_law_665 rfl (lv_at hl 2 rfl) ?_
    refine lv_aload_n hx hb dL_law_666 rfl (lv_at hl 0 rfl) ?_
    refine lv_iload_n hx hb dL_law_667 rfl (lv_at hl 3 rfl) ?_
    refine lv_iconst (v := 1) hx hb dL_law_668 (by decide) ?_
    refine lv_iadd hx hb dL_law_669 ?_
    refine va_sld hx hb hX hbl hbA hS hi1 dL_law_670 ?_
    rw [ea1]
    refine lv_if_eq (tgt := 678) hx hb dL_law_671 (by decide) (fun c => absurd c hz) (fun _ => ?_)
    refine lv_iconst (v := 1) hx hb dL_law_674 (by decide) ?_
    refine lv_goto (tgt := 679) hx hb dL_law_675 (by decide) ?_
    refine q_s2 (E := E) (b := wM (reA E aM) r) (b' := wM (reA E aM) r') (As := [.int (1 : Int32)]) (rest := []) F hA hP hD hS (c_X10_distinct (E := reA E aM) (l := l) r (1 : Int32) h2) k_X10_distinct in_X10_distinct se_X10_distinct lm_L_91 0 (me_0 (reA E aM) r) rfl ⟨rfl, rfl⟩ ⟨Nat.le_of_ble_eq_true rfl, Nat.le_of_ble_eq_true rfl⟩ rfl hl.1 rfl (Nat.le_of_ble_eq_true rfl) dL_law_679 hcs (fun H locs hP hD hS => ?_)
    refine lv_goto (tgt := 808) hx hb dL_law_682 (by decide) ?_
    exact kk E.2.2 (fun _ _ => rfl) _ _ hP hD hS
set_option maxHeartbeats 4000000 in
set_option maxRecDepth 100000 in
theorem lwc_17 {E : En} {aM : Nat → Nat} {p : Program} {l : Launch} {e : Env} {s : State} {m : MethodId} {below : List Frame} {meth : Method} {c : Code} {A : Nat → Prop} {Q : State → Prop} {b L : Nat} {xs : Nat → Int32} (F : Fx E p s m #[Value.ref b] meth c RL code 4 ret) (hA : ∀ z : Nat, s.heap.size ≤ z → A z) (hbA : ¬ A b) (hX : va_X b L xs s s.heap) (hbl : b < s.heap.size) {x3 a1 a2 a3 a4 : Int32} (hi1 : vp_in (x3 + 1) L) (hi2 : vp_in (x3 + 2) L) (hi3 : vp_in (x3 + 3) L) (hi4 : vp_in (x3 + 4) L) (ea1 : xs (x3 + 1).toNatClampNeg = a1) (ea2 : xs (x3 + 2).toNatClampNeg = a2) (ea3 : xs (x3 + 3).toNatClampNeg = a3) (ea4 : xs (x3 + 4).toNatClampNeg = a4) {q r q' r' : QS} {mc ms cells slots : Nat} (hst : St 17 a1 a2 a3 a4 q r mc ms q' r') (hcs : cells + mc ≤ room_1.cells ∧ slots + ms ≤ room_1.slots) {H : Heap} {locs : List Loc} (hP : va_P E.1 vwCl (wX E q ++ wM (reA E aM) r) H) (hD : va_D A (wX E q ++ wM (reA E aM) r)) (hS : va_S A s.heap H locs) {ls : Array Slot} (hl : lv_has ls 4 [(0, .ref b), (1, .ref (eA E 24)), (2, .ref (aM 0)), (3, .int x3)])
    (kk : ∀ ad : Nat → Nat, (∀ k, rrole k = false → ad k = E.2.2 k) → ∀ (H1 : Heap) (locs1 : List Loc), va_P E.1 vwCl (wX (reA E ad) q' ++ wM (reA E aM) r') H1 → va_D A (wX (reA E ad) q' ++ wM (reA E aM) r') → va_S A s.heap H1 locs1 → W p l e room_1 s m #[Value.ref b] below meth c H1 locs1 (cells + mc) (slots + ms) Q (F0 m 808 ls [])) : W p l e room_1 s m #[Value.ref b] below meth c H locs cells slots Q (F0 m 685 ls []) := by
  have hx := F.1
  have hb := F.2.1
  obtain ⟨v, h1, h2⟩ := hst
  refine lv_aload_n hx hb dL_law_685 rfl (lv_at hl 1 rfl) ?_
  refine q_s1 (E := E) (a := wX E q) (wo := fun ad => wX (reA E ad) q') (ex := fun ad => ∀ k, rrole k = false → ad k = E.2.2 k) (As := []) (rest := []) F hA hP hD hS (c_run (E := E) (l := l) mc ms q h1) k_X9_run in_X9_run se_X9_run lm_L_92 24 (xe_24 E q) rfl ⟨rfl, rfl⟩ ⟨Nat.le_of_ble_eq_true rfl, Nat.le_of_ble_eq_true rfl⟩ rfl hl.1 rfl (Nat.le_of_ble_eq_true rfl) dL_law_686 hcs (fun ad had H locs hP hD hS => ?_)
  refine lv_aload_n hx hb dL_law_689 rfl (lv_at hl 2 rfl) ?_
  refine q_s2 (E := E) (b := wM (reA E aM) r) (b' := wM (reA E aM) r') (As := []) (rest := [.int v]) F hA hP hD hS (c_X10_run (E := reA E aM) (l := l) r h2) k_X10_run in_X10_run se_X10_run lm_L_95 0 (me_0 (reA E aM) r) rfl ⟨rfl, rfl⟩ ⟨Nat.le_of_ble_eq_true rfl, Nat.le_of_ble_eq_true rfl⟩ rfl hl.1 rfl (Nat.le_of_ble_eq_true rfl) dL_law_690 hcs (fun H locs hP hD hS => ?_)
  refine lv_icmp_eq (tgt := 808) hx hb dL_law_693 (by decide) (fun _ => ?_) (fun c => absurd rfl c)
  exact kk ad had _ _ hP hD hS
set_option maxHeartbeats 4000000 in
set_option maxRecDepth 100000 in
theorem lwc_18 {E : En} {aM : Nat → Nat} {p : Program} {l : Launch} {e : Env} {s : State} {m : MethodId} {below : List Frame} {meth : Method} {c : Code} {A : Nat → Prop} {Q : State → Prop} {b L : Nat} {xs : Nat → Int32} (F : Fx E p s m #[Value.ref b] meth c RL code 4 ret) (hA : ∀ z : Nat, s.heap.size ≤ z → A z) (hbA : ¬ A b) (hX : va_X b L xs s s.heap) (hbl : b < s.heap.size) {x3 a1 a2 a3 a4 : Int32} (hi1 : vp_in (x3 + 1) L) (hi2 : vp_in (x3 + 2) L) (hi3 : vp_in (x3 + 3) L) (hi4 : vp_in (x3 + 4) L) (ea1 : xs (x3 + 1).toNatClampNeg = a1) (ea2 : xs (x3 + 2).toNatClampNeg = a2) (ea3 : xs (x3 + 3).toNatClampNeg = a3) (ea4 : xs (x3 + 4).toNatClampNeg = a4) {q r q' r' : QS} {mc ms cells slots : Nat} (hst : St 18 a1 a2 a3 a4 q r mc ms q' r') (hcs : cells + mc ≤ room_1.cells ∧ slots + ms ≤ room_1.slots) {H : Heap} {locs : List Loc} (hP : va_P E.1 vwCl (wX E q ++ wM (reA E aM) r) H) (hD : va_D A (wX E q ++ wM (reA E aM) r)) (hS : va_S A s.heap H locs) {ls : Array Slot} (hl : lv_has ls 4 [(0, .ref b), (1, .ref (eA E 24)), (2, .ref (aM 0)), (3, .int x3)])
    (kk : ∀ ad : Nat → Nat, (∀ k, rrole k = false → ad k = E.2.2 k) → ∀ (H1 : Heap) (locs1 : List Loc), va_P E.1 vwCl (wX (reA E ad) q' ++ wM (reA E aM) r') H1 → va_D A (wX (reA E ad) q' ++ wM (reA E aM) r') → va_S A s.heap H1 locs1 → W p l e room_1 s m #[Value.ref b] below meth c H1 locs1 (cells + mc) (slots + ms) Q (F0 m 808 ls [])) : W p l e room_1 s m #[Value.ref b] below meth c H locs cells slots Q (F0 m 698 ls []) := by
  have hx := F.1
  have hb := F.2.1
  obtain ⟨⟨emc, ems⟩, ⟨v, h1, eq1, h2, eq2⟩⟩ := hst
  subst emc; subst ems
  have eq1 := eq1.symm; subst eq1
  have eq2 := eq2.symm; subst eq2
  refine lv_aload_n hx hb dL_law_698 rfl (lv_at hl 1 rfl) ?_
  refine lv_aload_n hx hb dL_law_699 rfl (lv_at hl 0 rfl) ?_
  refine lv_iload_n hx hb dL_law_700 rfl (lv_at hl 3 rfl) ?_
  refine lv_iconst (v := 1) hx hb dL_law_701 (by decide) ?_
  refine lv_iadd hx hb dL_law_702 ?_
  refine va_sld hx hb hX hbl hbA hS hi1 dL_law_703 ?_
  rw [ea1]
  refine lv_aload_n hx hb dL_law_704 rfl (lv_at hl 0 rfl) ?_
  refine lv_iload_n hx hb dL_law_705 rfl (lv_at hl 3 rfl) ?_
  refine lv_iconst (v := 2) hx hb dL_law_706 (by decide) ?_
  refine lv_iadd hx hb dL_law_707 ?_
  refine va_sld hx hb hX hbl hbA hS hi2 dL_law_708 ?_
  rw [ea2]
  refine q_s1 (E := E) (a := wX E q) (wo := fun _ => wX E q) (ex := fun ad => ad = E.2.2) (As := [.int a1, .int a2]) (rest := []) F hA hP hD hS (ct_ex (c_X9_kind (E := E) (l := l) q a1 a2 h1)) k_X9_kind in_X9_kind se_X9_kind lm_L_96 24 (xe_24 E q) rfl ⟨rfl, rfl⟩ ⟨Nat.le_of_ble_eq_true rfl, Nat.le_of_ble_eq_true rfl⟩ rfl hl.1 rfl (Nat.le_of_ble_eq_true rfl) dL_law_709 hcs (fun _ _ H locs hP hD hS => ?_)
  refine lv_aload_n hx hb dL_law_712 rfl (lv_at hl 2 rfl) ?_
  refine lv_aload_n hx hb dL_law_713 rfl (lv_at hl 0 rfl) ?_
  refine lv_iload_n hx hb dL_law_714 rfl (lv_at hl 3 rfl) ?_
  refine lv_iconst (v := 1) hx hb dL_law_715 (by decide) ?_
  refine lv_iadd hx hb dL_law_716 ?_
  refine va_sld hx hb hX hbl hbA hS hi1 dL_law_717 ?_
  rw [ea1]
  refine lv_aload_n hx hb dL_law_718 rfl (lv_at hl 0 rfl) ?_
  refine lv_iload_n hx hb dL_law_719 rfl (lv_at hl 3 rfl) ?_
  refine lv_iconst (v := 2) hx hb dL_law_720 (by decide) ?_
  refine lv_iadd hx hb dL_law_721 ?_
  refine va_sld hx hb hX hbl hbA hS hi2 dL_law_722 ?_
  rw [ea2]
  refine q_s2 (E := E) (b := wM (reA E aM) r) (b' := wM (reA E aM) r) (As := [.int a1, .int a2]) (rest := [.int v]) F hA hP hD hS (c_X10_kind (E := reA E aM) (l := l) r a1 a2 h2) k_X10_kind in_X10_kind se_X10_kind lm_L_99 0 (me_0 (reA E aM) r) rfl ⟨rfl, rfl⟩ ⟨Nat.le_of_ble_eq_true rfl, Nat.le_of_ble_eq_true rfl⟩ rfl hl.1 rfl (Nat.le_of_ble_eq_true rfl) dL_law_723 hcs (fun H locs hP hD hS => ?_)
  refine lv_icmp_eq (tgt := 808) hx hb dL_law_726 (by decide) (fun _ => ?_) (fun c => absurd rfl c)
  exact kk E.2.2 (fun _ _ => rfl) _ _ hP hD hS
set_option maxHeartbeats 4000000 in
set_option maxRecDepth 100000 in
theorem lwc_19 {E : En} {aM : Nat → Nat} {p : Program} {l : Launch} {e : Env} {s : State} {m : MethodId} {below : List Frame} {meth : Method} {c : Code} {A : Nat → Prop} {Q : State → Prop} {b L : Nat} {xs : Nat → Int32} (F : Fx E p s m #[Value.ref b] meth c RL code 4 ret) (hA : ∀ z : Nat, s.heap.size ≤ z → A z) (hbA : ¬ A b) (hX : va_X b L xs s s.heap) (hbl : b < s.heap.size) {x3 a1 a2 a3 a4 : Int32} (hi1 : vp_in (x3 + 1) L) (hi2 : vp_in (x3 + 2) L) (hi3 : vp_in (x3 + 3) L) (hi4 : vp_in (x3 + 4) L) (ea1 : xs (x3 + 1).toNatClampNeg = a1) (ea2 : xs (x3 + 2).toNatClampNeg = a2) (ea3 : xs (x3 + 3).toNatClampNeg = a3) (ea4 : xs (x3 + 4).toNatClampNeg = a4) {q r q' r' : QS} {mc ms cells slots : Nat} (hst : St 19 a1 a2 a3 a4 q r mc ms q' r') (hcs : cells + mc ≤ room_1.cells ∧ slots + ms ≤ room_1.slots) {H : Heap} {locs : List Loc} (hP : va_P E.1 vwCl (wX E q ++ wM (reA E aM) r) H) (hD : va_D A (wX E q ++ wM (reA E aM) r)) (hS : va_S A s.heap H locs) {ls : Array Slot} (hl : lv_has ls 4 [(0, .ref b), (1, .ref (eA E 24)), (2, .ref (aM 0)), (3, .int x3)])
    (kk : ∀ ad : Nat → Nat, (∀ k, rrole k = false → ad k = E.2.2 k) → ∀ (H1 : Heap) (locs1 : List Loc), va_P E.1 vwCl (wX (reA E ad) q' ++ wM (reA E aM) r') H1 → va_D A (wX (reA E ad) q' ++ wM (reA E aM) r') → va_S A s.heap H1 locs1 → W p l e room_1 s m #[Value.ref b] below meth c H1 locs1 (cells + mc) (slots + ms) Q (F0 m 808 ls [])) : W p l e room_1 s m #[Value.ref b] below meth c H locs cells slots Q (F0 m 731 ls []) := by
  have hx := F.1
  have hb := F.2.1
  obtain ⟨⟨emc, ems⟩, ⟨v, h1, eq1, h2, eq2⟩⟩ := hst
  subst emc; subst ems
  have eq1 := eq1.symm; subst eq1
  have eq2 := eq2.symm; subst eq2
  refine lv_aload_n hx hb dL_law_731 rfl (lv_at hl 1 rfl) ?_
  refine lv_aload_n hx hb dL_law_732 rfl (lv_at hl 0 rfl) ?_
  refine lv_iload_n hx hb dL_law_733 rfl (lv_at hl 3 rfl) ?_
  refine lv_iconst (v := 1) hx hb dL_law_734 (by decide) ?_
  refine lv_iadd hx hb dL_law_735 ?_
  refine va_sld hx hb hX hbl hbA hS hi1 dL_law_736 ?_
  rw [ea1]
  refine lv_aload_n hx hb dL_law_737 rfl (lv_at hl 0 rfl) ?_
  refine lv_iload_n hx hb dL_law_738 rfl (lv_at hl 3 rfl) ?_
  refine lv_iconst (v := 2) hx hb dL_law_739 (by decide) ?_
  refine lv_iadd hx hb dL_law_740 ?_
  refine va_sld hx hb hX hbl hbA hS hi2 dL_law_741 ?_
  rw [ea2]
  refine q_s1 (E := E) (a := wX E q) (wo := fun _ => wX E q) (ex := fun ad => ad = E.2.2) (As := [.int a1, .int a2]) (rest := []) F hA hP hD hS (ct_ex (c_X9_value (E := E) (l := l) q a1 a2 h1)) k_X9_value in_X9_value se_X9_value lm_L_100 24 (xe_24 E q) rfl ⟨rfl, rfl⟩ ⟨Nat.le_of_ble_eq_true rfl, Nat.le_of_ble_eq_true rfl⟩ rfl hl.1 rfl (Nat.le_of_ble_eq_true rfl) dL_law_742 hcs (fun _ _ H locs hP hD hS => ?_)
  refine lv_aload_n hx hb dL_law_745 rfl (lv_at hl 2 rfl) ?_
  refine lv_aload_n hx hb dL_law_746 rfl (lv_at hl 0 rfl) ?_
  refine lv_iload_n hx hb dL_law_747 rfl (lv_at hl 3 rfl) ?_
  refine lv_iconst (v := 1) hx hb dL_law_748 (by decide) ?_
  refine lv_iadd hx hb dL_law_749 ?_
  refine va_sld hx hb hX hbl hbA hS hi1 dL_law_750 ?_
  rw [ea1]
  refine lv_aload_n hx hb dL_law_751 rfl (lv_at hl 0 rfl) ?_
  refine lv_iload_n hx hb dL_law_752 rfl (lv_at hl 3 rfl) ?_
  refine lv_iconst (v := 2) hx hb dL_law_753 (by decide) ?_
  refine lv_iadd hx hb dL_law_754 ?_
  refine va_sld hx hb hX hbl hbA hS hi2 dL_law_755 ?_
  rw [ea2]
  refine q_s2 (E := E) (b := wM (reA E aM) r) (b' := wM (reA E aM) r) (As := [.int a1, .int a2]) (rest := [.long v]) F hA hP hD hS (c_X10_value (E := reA E aM) (l := l) r a1 a2 h2) k_X10_value in_X10_value se_X10_value lm_L_104 0 (me_0 (reA E aM) r) rfl ⟨rfl, rfl⟩ ⟨Nat.le_of_ble_eq_true rfl, Nat.le_of_ble_eq_true rfl⟩ rfl hl.1 rfl (Nat.le_of_ble_eq_true rfl) dL_law_756 hcs (fun H locs hP hD hS => ?_)
  refine W.lcmp hx hb dL_law_759 ?_
  refine lv_if_eq (tgt := 808) hx hb dL_law_760 (by decide) (fun _ => ?_) (fun c => absurd (lgc _) c)
  exact kk E.2.2 (fun _ _ => rfl) _ _ hP hD hS
set_option maxHeartbeats 4000000 in
set_option maxRecDepth 100000 in
theorem lwc_20 {E : En} {aM : Nat → Nat} {p : Program} {l : Launch} {e : Env} {s : State} {m : MethodId} {below : List Frame} {meth : Method} {c : Code} {A : Nat → Prop} {Q : State → Prop} {b L : Nat} {xs : Nat → Int32} (F : Fx E p s m #[Value.ref b] meth c RL code 4 ret) (hA : ∀ z : Nat, s.heap.size ≤ z → A z) (hbA : ¬ A b) (hX : va_X b L xs s s.heap) (hbl : b < s.heap.size) {x3 a1 a2 a3 a4 : Int32} (hi1 : vp_in (x3 + 1) L) (hi2 : vp_in (x3 + 2) L) (hi3 : vp_in (x3 + 3) L) (hi4 : vp_in (x3 + 4) L) (ea1 : xs (x3 + 1).toNatClampNeg = a1) (ea2 : xs (x3 + 2).toNatClampNeg = a2) (ea3 : xs (x3 + 3).toNatClampNeg = a3) (ea4 : xs (x3 + 4).toNatClampNeg = a4) {q r q' r' : QS} {mc ms cells slots : Nat} (hst : St 20 a1 a2 a3 a4 q r mc ms q' r') (hcs : cells + mc ≤ room_1.cells ∧ slots + ms ≤ room_1.slots) {H : Heap} {locs : List Loc} (hP : va_P E.1 vwCl (wX E q ++ wM (reA E aM) r) H) (hD : va_D A (wX E q ++ wM (reA E aM) r)) (hS : va_S A s.heap H locs) {ls : Array Slot} (hl : lv_has ls 4 [(0, .ref b), (1, .ref (eA E 24)), (2, .ref (aM 0)), (3, .int x3)])
    (kk : ∀ ad : Nat → Nat, (∀ k, rrole k = false → ad k = E.2.2 k) → ∀ (H1 : Heap) (locs1 : List Loc), va_P E.1 vwCl (wX (reA E ad) q' ++ wM (reA E aM) r') H1 → va_D A (wX (reA E ad) q' ++ wM (reA E aM) r') → va_S A s.heap H1 locs1 → W p l e room_1 s m #[Value.ref b] below meth c H1 locs1 (cells + mc) (slots + ms) Q (F0 m 808 ls [])) : W p l e room_1 s m #[Value.ref b] below meth c H locs cells slots Q (F0 m 765 ls []) := by
  have hx := F.1
  have hb := F.2.1
  obtain ⟨⟨emc, ems⟩, ⟨v, h1, eq1, h2, eq2⟩⟩ := hst
  subst emc; subst ems
  have eq1 := eq1.symm; subst eq1
  have eq2 := eq2.symm; subst eq2
  refine lv_aload_n hx hb dL_law_765 rfl (lv_at hl 1 rfl) ?_
  refine lv_aload_n hx hb dL_law_766 rfl (lv_at hl 0 rfl) ?_
  refine lv_iload_n hx hb dL_law_767 rfl (lv_at hl 3 rfl) ?_
  refine lv_iconst (v := 1) hx hb dL_law_768 (by decide) ?_
  refine lv_iadd hx hb dL_law_769 ?_
  refine va_sld hx hb hX hbl hbA hS hi1 dL_law_770 ?_
  rw [ea1]
  refine lv_aload_n hx hb dL_law_771 rfl (lv_at hl 0 rfl) ?_
  refine lv_iload_n hx hb dL_law_772 rfl (lv_at hl 3 rfl) ?_
  refine lv_iconst (v := 2) hx hb dL_law_773 (by decide) ?_
  refine lv_iadd hx hb dL_law_774 ?_
  refine va_sld hx hb hX hbl hbA hS hi2 dL_law_775 ?_
  rw [ea2]
  refine lv_aload_n hx hb dL_law_776 rfl (lv_at hl 0 rfl) ?_
  refine lv_iload_n hx hb dL_law_777 rfl (lv_at hl 3 rfl) ?_
  refine lv_iconst (v := 3) hx hb dL_law_778 (by decide) ?_
  refine lv_iadd hx hb dL_law_779 ?_
  refine va_sld hx hb hX hbl hbA hS hi3 dL_law_780 ?_
  rw [ea3]
  refine q_s1 (E := E) (a := wX E q) (wo := fun _ => wX E q) (ex := fun ad => ad = E.2.2) (As := [.int a1, .int a2, .int a3]) (rest := []) F hA hP hD hS (ct_ex (c_X9_letter (E := E) (l := l) q a1 a2 a3 h1)) k_X9_letter in_X9_letter se_X9_letter lm_L_105 24 (xe_24 E q) rfl ⟨rfl, rfl⟩ ⟨Nat.le_of_ble_eq_true rfl, Nat.le_of_ble_eq_true rfl⟩ rfl hl.1 rfl (Nat.le_of_ble_eq_true rfl) dL_law_781 hcs (fun _ _ H locs hP hD hS => ?_)
  refine lv_aload_n hx hb dL_law_784 rfl (lv_at hl 2 rfl) ?_
  refine lv_aload_n hx hb dL_law_785 rfl (lv_at hl 0 rfl) ?_
  refine lv_iload_n hx hb dL_law_786 rfl (lv_at hl 3 rfl) ?_
  refine lv_iconst (v := 1) hx hb dL_law_787 (by decide) ?_
  refine lv_iadd hx hb dL_law_788 ?_
  refine va_sld hx hb hX hbl hbA hS hi1 dL_law_789 ?_
  rw [ea1]
  refine lv_aload_n hx hb dL_law_790 rfl (lv_at hl 0 rfl) ?_
  refine lv_iload_n hx hb dL_law_791 rfl (lv_at hl 3 rfl) ?_
  refine lv_iconst (v := 2) hx hb dL_law_792 (by decide) ?_
  refine lv_iadd hx hb dL_law_793 ?_
  refine va_sld hx hb hX hbl hbA hS hi2 dL_law_794 ?_
  rw [ea2]
  refine lv_aload_n hx hb dL_law_795 rfl (lv_at hl 0 rfl) ?_
  refine lv_iload_n hx hb dL_law_796 rfl (lv_at hl 3 rfl) ?_
  refine lv_iconst (v := 3) hx hb dL_law_797 (by decide) ?_
  refine lv_iadd hx hb dL_law_798 ?_
  refine va_sld hx hb hX hbl hbA hS hi3 dL_law_799 ?_
  rw [ea3]
  refine q_s2 (E := E) (b := wM (reA E aM) r) (b' := wM (reA E aM) r) (As := [.int a1, .int a2, .int a3]) (rest := [.int v]) F hA hP hD hS (c_X10_letter (E := reA E aM) (l := l) r a1 a2 a3 h2) k_X10_letter in_X10_letter se_X10_letter lm_L_108 0 (me_0 (reA E aM) r) rfl ⟨rfl, rfl⟩ ⟨Nat.le_of_ble_eq_true rfl, Nat.le_of_ble_eq_true rfl⟩ rfl hl.1 rfl (Nat.le_of_ble_eq_true rfl) dL_law_800 hcs (fun H locs hP hD hS => ?_)
  refine lv_icmp_eq (tgt := 808) hx hb dL_law_803 (by decide) (fun _ => ?_) (fun c => absurd rfl c)
  exact kk E.2.2 (fun _ _ => rfl) _ _ hP hD hS
