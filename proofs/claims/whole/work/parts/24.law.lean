/-! the two states at the start -/
def qX0 : QS := (fun _ _ => 0, fun _ _ => 0, fun k => if k = 9 then -1 else if k = 10 then -1 else if k = 12 then 16 else 0, 16)
def qM0 : QS := (fun _ _ => 0, fun _ _ => 0, fun k => if k = 3 then -1 else if k = 7 then -1 else 0, 0)
def adX0 (a : Nat) (ad : Nat → Nat) : Nat → Nat := fun k => match k with | 0 => ad 0 | 1 => ad 1 | 2 => ad 2 | 3 => ad 7 | 4 => ad 8 | 5 => ad 9 | 6 => ad 19 | 7 => ad 20 | 8 => ad 21 | 9 => ad 29 | 10 => ad 30 | 11 => ad 31 | 12 => ad 54 | 13 => ad 55 | 14 => ad 56 | 15 => ad 33 | 16 => ad 34 | 17 => ad 35 | 18 => ad 36 | 19 => ad 37 | 20 => ad 38 | 21 => ad 39 | 22 => ad 40 | 23 => ad 41 | 24 => a | 25 => ad 3 | 26 => ad 4 | 27 => ad 5 | 28 => ad 6 | 29 => ad 10 | 30 => ad 11 | 31 => ad 12 | 32 => ad 13 | 33 => ad 14 | 34 => ad 15 | 35 => ad 16 | 36 => ad 17 | 37 => ad 18 | 38 => ad 22 | 39 => ad 23 | 40 => ad 24 | 41 => ad 25 | 42 => ad 26 | 43 => ad 27 | 44 => ad 28 | 45 => ad 43 | 46 => ad 44 | 47 => ad 32 | 48 => ad 42 | 49 => ad 45 | 50 => ad 46 | 51 => ad 47 | 52 => ad 48 | 53 => ad 49 | 54 => ad 50 | 55 => ad 51 | 56 => ad 52 | _ => ad 53
def adM0 (a : Nat) (ad : Nat → Nat) : Nat → Nat := fun k => match k with | 0 => a | 1 => ad 0 | 2 => ad 1 | 3 => ad 2 | 4 => ad 3 | 5 => ad 4 | 6 => ad 5 | 7 => ad 6 | 8 => ad 7 | 9 => ad 8 | 10 => ad 9 | 11 => ad 10 | 12 => ad 11 | 13 => ad 12 | 14 => ad 13 | 15 => ad 14 | 16 => ad 15 | 17 => ad 16 | 18 => ad 17 | 19 => ad 18 | 20 => ad 19 | 21 => ad 20 | 22 => ad 21 | 23 => ad 22 | 24 => ad 23 | 25 => ad 24 | 26 => ad 25 | 27 => ad 26 | 28 => ad 27 | 29 => ad 28 | 30 => ad 29 | 31 => ad 30 | 32 => ad 31 | 33 => ad 32 | 34 => ad 33 | 35 => ad 34 | 36 => ad 35 | 37 => ad 36 | 38 => ad 37 | 39 => ad 38 | 40 => ad 39 | _ => ad 40
theorem lwG_tbl {w : Cond} (h : w ∈ lwG) : w ∈ lw_tbl := (List.mem_filter.mp h).1
set_option maxRecDepth 100000 in
theorem law_K {p : Program} {s : State} {args : Array Value} (hts : ∀ w ∈ lwG, w.before args s = true) : ∃ (D : va_G) (cT : Nat → ClassId), ∀ ad : Nat → Nat, va_K (D, cT, ad).1 vwCl (eT (D, cT, ad)) s := by
  obtain ⟨c0, f0, k0⟩ := u_known (C := RX0) (T := TX0) (N := 3) (n := 3) hts i_X0 (hts _ li_X0)
  obtain ⟨c1, f1, k1⟩ := u_known (C := RX1) (T := TX1) (N := 4) (n := 4) hts i_X1 (hts _ li_X1)
  obtain ⟨c2, f2, k2⟩ := u_known (C := RX2) (T := TX2) (N := 10) (n := 10) hts i_X2 (hts _ li_X2)
  obtain ⟨c3, f3, k3⟩ := u_known (C := RX3) (T := TX3) (N := 3) (n := 3) hts i_X3 (hts _ li_X3)
  obtain ⟨c4, f4, k4⟩ := u_known (C := RX4) (T := TX4) (N := 11) (n := 11) hts i_X4 (hts _ li_X4)
  obtain ⟨c5, f5, k5⟩ := u_known (C := RX5) (T := TX5) (N := 10) (n := 10) hts i_X5 (hts _ li_X5)
  obtain ⟨c6, f6, k6⟩ := u_known (C := RX6) (T := TX6) (N := 10) (n := 10) hts i_X6 (hts _ li_X6)
  obtain ⟨c7, f7, k7⟩ := u_known (C := RX7) (T := TX7) (N := 5) (n := 5) hts i_X7 (hts _ li_X7)
  obtain ⟨c8, f8, k8⟩ := u_known (C := RX8) (T := TX8) (N := 2) (n := 2) hts i_X8 (hts _ li_X8)
  obtain ⟨c9, f9, k9⟩ := u_known (C := RX9) (T := TX9) (N := 6) (n := 6) hts i_X9 (hts _ li_X9)
  obtain ⟨c10, f10, k10⟩ := u_known (C := RX10) (T := TX10) (N := 54) (n := 54) hts i_X10 (hts _ li_X10)
  obtain ⟨d0, kk0, cp0, fa0, fb0, fc0⟩ := Cond.arrayClass_spec (hts _ la_I)
  obtain ⟨d1, kk1, cp1, fa1, fb1, fc1⟩ := Cond.arrayClass_spec (hts _ la_J)
  obtain ⟨d2, kk2, cp2, fa2, fb2, fc2⟩ := Cond.arrayClass_spec (hts _ la_Z)
  obtain ⟨d3, kk3, cp3, fa3, fb3, fc3⟩ := Cond.arrayClass_spec (hts _ la_B)
  obtain ⟨d4, kk4, cp4, fa4, fb4, fc4⟩ := Cond.arrayClass_spec (hts _ la_S)
  refine ⟨(fun k => match k with | 0 => c0 | 1 => c1 | 2 => c2 | 3 => c3 | 4 => c4 | 5 => c5 | 6 => c6 | 7 => c7 | 8 => c8 | 9 => c9 | _ => c10, fun k => match k with | 0 => f0 | 1 => f1 | 2 => f2 | 3 => f3 | 4 => f4 | 5 => f5 | 6 => f6 | 7 => f7 | 8 => f8 | 9 => f9 | _ => f10), fun k => match k with | 0 => d0 | 1 => d1 | 2 => d2 | 3 => d3 | _ => d4, fun ad => ⟨?_, ?_⟩⟩
  · intro k q hq
    match k, hq with
    | 0, hq => cases hq; exact k0
    | 1, hq => cases hq; exact k1
    | 2, hq => cases hq; exact k2
    | 3, hq => cases hq; exact k3
    | 4, hq => cases hq; exact k4
    | 5, hq => cases hq; exact k5
    | 6, hq => cases hq; exact k6
    | 7, hq => cases hq; exact k7
    | 8, hq => cases hq; exact k8
    | 9, hq => cases hq; exact k9
    | 10, hq => cases hq; exact k10
    | k + 11, hq => simp [vwCl] at hq
  · intro k q hq
    match k, hq with
    | 0, hq => cases hq; exact ⟨fun n z => ⟨fun k h => (by cases h), kk0, fb0, cp0, fc0⟩, fa0⟩
    | 1, hq => cases hq; exact ⟨fun n z => ⟨fun k h => (by cases h), kk1, fb1, cp1, fc1⟩, fa1⟩
    | 2, hq => cases hq; exact ⟨fun n z => ⟨fun k h => (by cases h), kk2, fb2, cp2, fc2⟩, fa2⟩
    | 3, hq => cases hq; exact ⟨fun n z => ⟨fun k h => (by cases h), kk3, fb3, cp3, fc3⟩, fa3⟩
    | 4, hq => cases hq; exact ⟨fun n z => ⟨fun k h => (by cases h), kk4, fb4, cp4, fc4⟩, fa4⟩
    | k + 5, hq => simp [eT] at hq
section LL
variable {p : Program} {l : Launch} {e : Env} {s : State} {m : MethodId} {below : List Frame} {meth : Method} {c : Code} {b L : Nat} {xs : Nat → Int32}
set_option maxHeartbeats 4000000 in
set_option maxRecDepth 100000 in
/-- one turn of the law's loop, from its switch -/
theorem law_turn {E : En} {aM : Nat → Nat} {A : Nat → Prop} {Q : State → Prop} (F : Fx E p s m #[Value.ref b] meth c RL code 4 ret) (hA : ∀ z : Nat, s.heap.size ≤ z → A z) (hbA : ¬ A b) (hX : va_X b L xs s s.heap) (hbl : b < s.heap.size) {x3 a1 a2 a3 a4 : Int32} (hi1 : vp_in (x3 + 1) L) (hi2 : vp_in (x3 + 2) L) (hi3 : vp_in (x3 + 3) L) (hi4 : vp_in (x3 + 4) L) (ea1 : xs (x3 + 1).toNatClampNeg = a1) (ea2 : xs (x3 + 2).toNatClampNeg = a2) (ea3 : xs (x3 + 3).toNatClampNeg = a3) (ea4 : xs (x3 + 4).toNatClampNeg = a4) {k : Nat} (hk : k < 32) {q r q' r' : QS} {mc ms cells slots : Nat} (hst : St k a1 a2 a3 a4 q r mc ms q' r') (hcs : cells + mc ≤ room_1.cells ∧ slots + ms ≤ room_1.slots) {H : Heap} {locs : List Loc} (hP : va_P E.1 vwCl (wX E q ++ wM (reA E aM) r) H) (hD : va_D A (wX E q ++ wM (reA E aM) r)) (hS : va_S A s.heap H locs) {ls : Array Slot} (hl : lv_has ls 4 [(0, .ref b), (1, .ref (eA E 24)), (2, .ref (aM 0)), (3, .int x3)])
    (kk : ∀ ad : Nat → Nat, (∀ k, rrole k = false → ad k = E.2.2 k) → ∀ (H1 : Heap) (locs1 : List Loc), va_P E.1 vwCl (wX (reA E ad) q' ++ wM (reA E aM) r') H1 → va_D A (wX (reA E ad) q' ++ wM (reA E aM) r') → va_S A s.heap H1 locs1 → W p l e room_1 s m #[Value.ref b] below meth c H1 locs1 (cells + mc) (slots + ms) Q (F0 m 808 ls [])) : W p l e room_1 s m #[Value.ref b] below meth c H locs cells slots Q (F0 m 32 ls [.int (nI k)]) := by
  have hx := F.1
  have hb := F.2.1
  match k, hk, hst with
  | 0, _, hst => exact lv_tableIn (tgt := 132) (off := 100) hx hb dL_law_32 (by decide) (by decide) (by decide) (by decide) (lwc_0 F hA hbA hX hbl hi1 hi2 hi3 hi4 ea1 ea2 ea3 ea4 hst hcs hP hD hS hl kk)
  | 1, _, hst => exact lv_tableIn (tgt := 143) (off := 111) hx hb dL_law_32 (by decide) (by decide) (by decide) (by decide) (lwc_1 F hA hbA hX hbl hi1 hi2 hi3 hi4 ea1 ea2 ea3 ea4 hst hcs hP hD hS hl kk)
  | 2, _, hst => exact lv_tableIn (tgt := 176) (off := 144) hx hb dL_law_32 (by decide) (by decide) (by decide) (by decide) (lwc_2 F hA hbA hX hbl hi1 hi2 hi3 hi4 ea1 ea2 ea3 ea4 hst hcs hP hD hS hl kk)
  | 3, _, hst => exact lv_tableIn (tgt := 187) (off := 155) hx hb dL_law_32 (by decide) (by decide) (by decide) (by decide) (lwc_3 F hA hbA hX hbl hi1 hi2 hi3 hi4 ea1 ea2 ea3 ea4 hst hcs hP hD hS hl kk)
  | 4, _, hst => exact lv_tableIn (tgt := 250) (off := 218) hx hb dL_law_32 (by decide) (by decide) (by decide) (by decide) (lwc_4 F hA hbA hX hbl hi1 hi2 hi3 hi4 ea1 ea2 ea3 ea4 hst hcs hP hD hS hl kk)
  | 5, _, hst => exact lv_tableIn (tgt := 299) (off := 267) hx hb dL_law_32 (by decide) (by decide) (by decide) (by decide) (lwc_5 F hA hbA hX hbl hi1 hi2 hi3 hi4 ea1 ea2 ea3 ea4 hst hcs hP hD hS hl kk)
  | 6, _, hst => exact lv_tableIn (tgt := 372) (off := 340) hx hb dL_law_32 (by decide) (by decide) (by decide) (by decide) (lwc_6 F hA hbA hX hbl hi1 hi2 hi3 hi4 ea1 ea2 ea3 ea4 hst hcs hP hD hS hl kk)
  | 7, _, hst => exact lv_tableIn (tgt := 395) (off := 363) hx hb dL_law_32 (by decide) (by decide) (by decide) (by decide) (lwc_7 F hA hbA hX hbl hi1 hi2 hi3 hi4 ea1 ea2 ea3 ea4 hst hcs hP hD hS hl kk)
  | 8, _, hst => exact lv_tableIn (tgt := 428) (off := 396) hx hb dL_law_32 (by decide) (by decide) (by decide) (by decide) (lwc_8 F hA hbA hX hbl hi1 hi2 hi3 hi4 ea1 ea2 ea3 ea4 hst hcs hP hD hS hl kk)
  | 9, _, hst => exact lv_tableIn (tgt := 441) (off := 409) hx hb dL_law_32 (by decide) (by decide) (by decide) (by decide) (lwc_9 F hA hbA hX hbl hi1 hi2 hi3 hi4 ea1 ea2 ea3 ea4 hst hcs hP hD hS hl kk)
  | 10, _, hst => exact lv_tableIn (tgt := 484) (off := 452) hx hb dL_law_32 (by decide) (by decide) (by decide) (by decide) (lwc_10 F hA hbA hX hbl hi1 hi2 hi3 hi4 ea1 ea2 ea3 ea4 hst hcs hP hD hS hl kk)
  | 11, _, hst => exact lv_tableIn (tgt := 507) (off := 475) hx hb dL_law_32 (by decide) (by decide) (by decide) (by decide) (lwc_11 F hA hbA hX hbl hi1 hi2 hi3 hi4 ea1 ea2 ea3 ea4 hst hcs hP hD hS hl kk)
  | 12, _, hst => exact lv_tableIn (tgt := 530) (off := 498) hx hb dL_law_32 (by decide) (by decide) (by decide) (by decide) (lwc_12 F hA hbA hX hbl hi1 hi2 hi3 hi4 ea1 ea2 ea3 ea4 hst hcs hP hD hS hl kk)
  | 13, _, hst => exact lv_tableIn (tgt := 553) (off := 521) hx hb dL_law_32 (by decide) (by decide) (by decide) (by decide) (lwc_13 F hA hbA hX hbl hi1 hi2 hi3 hi4 ea1 ea2 ea3 ea4 hst hcs hP hD hS hl kk)
  | 14, _, hst => exact lv_tableIn (tgt := 576) (off := 544) hx hb dL_law_32 (by decide) (by decide) (by decide) (by decide) (lwc_14 F hA hbA hX hbl hi1 hi2 hi3 hi4 ea1 ea2 ea3 ea4 hst hcs hP hD hS hl kk)
  | 15, _, hst => exact lv_tableIn (tgt := 625) (off := 593) hx hb dL_law_32 (by decide) (by decide) (by decide) (by decide) (lwc_15 F hA hbA hX hbl hi1 hi2 hi3 hi4 ea1 ea2 ea3 ea4 hst hcs hP hD hS hl kk)
  | 16, _, hst => exact lv_tableIn (tgt := 648) (off := 616) hx hb dL_law_32 (by decide) (by decide) (by decide) (by decide) (lwc_16 F hA hbA hX hbl hi1 hi2 hi3 hi4 ea1 ea2 ea3 ea4 hst hcs hP hD hS hl kk)
  | 17, _, hst => exact lv_tableIn (tgt := 685) (off := 653) hx hb dL_law_32 (by decide) (by decide) (by decide) (by decide) (lwc_17 F hA hbA hX hbl hi1 hi2 hi3 hi4 ea1 ea2 ea3 ea4 hst hcs hP hD hS hl kk)
  | 18, _, hst => exact lv_tableIn (tgt := 698) (off := 666) hx hb dL_law_32 (by decide) (by decide) (by decide) (by decide) (lwc_18 F hA hbA hX hbl hi1 hi2 hi3 hi4 ea1 ea2 ea3 ea4 hst hcs hP hD hS hl kk)
  | 19, _, hst => exact lv_tableIn (tgt := 731) (off := 699) hx hb dL_law_32 (by decide) (by decide) (by decide) (by decide) (lwc_19 F hA hbA hX hbl hi1 hi2 hi3 hi4 ea1 ea2 ea3 ea4 hst hcs hP hD hS hl kk)
  | 20, _, hst => exact lv_tableIn (tgt := 765) (off := 733) hx hb dL_law_32 (by decide) (by decide) (by decide) (by decide) (lwc_20 F hA hbA hX hbl hi1 hi2 hi3 hi4 ea1 ea2 ea3 ea4 hst hcs hP hD hS hl kk)
  | k + 21, hk, hst =>
    obtain ⟨⟨emc, ems⟩, eq1, eq2⟩ : (mc = 0 ∧ ms = 0) ∧ q' = q ∧ r' = r := hst
    subst emc; subst ems
    have eq1 := eq1.symm; subst eq1
    have eq2 := eq2.symm; subst eq2
    refine lv_tableOut (tgt := 808) hx hb dL_law_32 (Or.inr (by rw [nI_toInt (by omega)]; omega)) (by decide) ?_
    exact kk E.2.2 (fun _ _ => rfl) _ _ hP hD hS
/-- what an invariant of the two states must give: every call keeps it, in the room -/
def Kept (I : Nat → QS → QS → Nat → Nat → Prop) : Prop :=
  (∀ j q r C S, I j q r C S → C ≤ 600000 ∧ S ≤ 7302250) ∧
  ∀ j q r C S, j < 512 → I j q r C S → ∀ (k : Nat) (a1 a2 a3 a4 : Int32), k < 32 → ∃ (mc ms : Nat) (q' r' : QS), St k a1 a2 a3 a4 q r mc ms q' r' ∧ I (j + 1) q' r' (C + mc) (S + ms)
set_option maxHeartbeats 4000000 in
set_option maxRecDepth 100000 in
theorem law_loop {I : Nat → QS → QS → Nat → Nat → Prop} (hI : Kept I) (hL : L ≤ 2560) (C0 : lw_At p s m meth c b L xs) (fuel : Nat) : ∀ (E : En) (aM : Nat → Nat) (j : Nat) (q r : QS) (C S : Nat), L < 5 * j + fuel → j ≤ 512 → I j q r C S → Fx E p s m #[Value.ref b] meth c RL code 4 ret → ∀ (H : Heap) (locs : List Loc), va_P E.1 vwCl (wX E q ++ wM (reA E aM) r) H → va_D (fun z : Nat => s.heap.size ≤ z) (wX E q ++ wM (reA E aM) r) → va_S (fun z : Nat => s.heap.size ≤ z) s.heap H locs → ∀ ls : Array Slot, lv_has ls 4 [(0, .ref b), (1, .ref (eA E 24)), (2, .ref (aM 0)), (3, .int (nI (5 * j)))] → W p l e room_1 s m #[Value.ref b] below meth c H locs C S (lw_Z below #[Value.ref b] s) (F0 m 18 ls []) := by
  obtain ⟨hx, hb, hr, hml, hown, hts, hX, hbl, hlocks, hgv⟩ := id C0
  have hA : ∀ z : Nat, s.heap.size ≤ z → (fun z : Nat => s.heap.size ≤ z) z := fun _ h => h
  have hbA : ¬ (fun z : Nat => s.heap.size ≤ z) b := Nat.not_le.mpr hbl
  induction fuel with
  | zero =>
    intro E aM j q r C S hf hj hIj F H locs hP hD hS ls hl
    refine lv_iload_n hx hb dL_law_18 rfl (lv_at hl 3 rfl) ?_
    refine lv_aload_n hx hb dL_law_19 rfl (lv_at hl 0 rfl) ?_
    refine va_slen hx hb hX hbl hbA hS dL_law_20 ?_
    refine lv_iconst (v := 5) hx hb dL_law_21 (by decide) ?_
    refine lv_isub hx hb dL_law_22 ?_
    refine lv_icmp_gt (tgt := 814) hx hb dL_law_23 (by decide) (fun _ => ?_) (fun c1 => ?_)
    · refine lv_iconst (v := 1) hx hb dL_law_814 (by decide) ?_
      refine va_forget hS.2.2 ?_
      refine W.widen (k := 600000) (n := 7302250) (hI.1 j q r C S hIj).1 (hI.1 j q r C S hIj).2 ?_
      exact lw_ret hx hb hr hlocks dL_law_815
    · refine absurd ?_ c1
      rw [Int32.lt_iff_toInt_lt, nI_toInt (by omega)]
      have h5 : (Int32.ofNat L - 5).toInt = (L : Int) - 5 := pk_sub_toInt (a := L) (b := 5) (by omega) (by omega)
      first | rw [h5] | (show (Int32.ofNat L - 5).toInt < _; rw [h5])
      omega
  | succ n ih =>
    intro E aM j q r C S hf hj hIj F H locs hP hD hS ls hl
    refine lv_iload_n hx hb dL_law_18 rfl (lv_at hl 3 rfl) ?_
    refine lv_aload_n hx hb dL_law_19 rfl (lv_at hl 0 rfl) ?_
    refine va_slen hx hb hX hbl hbA hS dL_law_20 ?_
    refine lv_iconst (v := 5) hx hb dL_law_21 (by decide) ?_
    refine lv_isub hx hb dL_law_22 ?_
    refine lv_icmp_gt (tgt := 814) hx hb dL_law_23 (by decide) (fun _ => ?_) (fun c1 => ?_)
    · refine lv_iconst (v := 1) hx hb dL_law_814 (by decide) ?_
      refine va_forget hS.2.2 ?_
      refine W.widen (k := 600000) (n := 7302250) (hI.1 j q r C S hIj).1 (hI.1 j q r C S hIj).2 ?_
      exact lw_ret hx hb hr hlocks dL_law_815
    · have hlt : 5 * j + 5 ≤ L := by
        rcases Nat.lt_or_ge L (5 * j + 5) with z | z
        · refine absurd ?_ c1
          rw [Int32.lt_iff_toInt_lt, nI_toInt (by omega)]
          have h5 : (Int32.ofNat L - 5).toInt = (L : Int) - 5 := pk_sub_toInt (a := L) (b := 5) (by omega) (by omega)
          first | rw [h5] | (show (Int32.ofNat L - 5).toInt < _; rw [h5])
          omega
        · exact z
      have hin : ∀ d : Nat, d < 5 → vp_in (nI (5 * j) + nI d) L := fun d hd => by rw [nI_add]; exact vp_in_nI (by omega) (by omega)
      refine lv_aload_n hx hb dL_law_26 rfl (lv_at hl 0 rfl) ?_
      refine lv_iload_n hx hb dL_law_27 rfl (lv_at hl 3 rfl) ?_
      refine va_sld hx hb hX hbl hbA hS (vp_in_nI (by omega) (by omega)) dL_law_28 ?_
      refine lv_bipush (v := 31) hx hb dL_law_29 (by decide) ?_
      refine lv_iand hx hb dL_law_31 ?_
      rw [pk_and _ (m := 31) 5 (by decide)]
      obtain ⟨mc, ms, q', r', hst, hI'⟩ := hI.2 j q r C S (by omega) hIj ((xs (nI (5 * j)).toNatClampNeg).toBitVec.toNat % 2 ^ 5) (xs (nI (5 * j) + 1).toNatClampNeg) (xs (nI (5 * j) + 2).toNatClampNeg) (xs (nI (5 * j) + 3).toNatClampNeg) (xs (nI (5 * j) + 4).toNatClampNeg) (Nat.mod_lt _ (by decide))
      have hbd := hI.1 _ _ _ _ _ hI'
      refine law_turn F hA hbA hX hbl (hin 1 (by omega)) (hin 2 (by omega)) (hin 3 (by omega)) (hin 4 (by omega)) rfl rfl rfl rfl (Nat.mod_lt _ (by decide)) hst ⟨hbd.1, hbd.2⟩ hP hD hS hl (fun ad had H locs hP hD hS => ?_)
      refine lv_iinc (v := nI (5 * (j + 1))) (lv' := [(3, .int (nI (5 * (j + 1)))), (0, .ref b), (1, .ref (eA E 24)), (2, .ref (aM 0))]) hx hb dL_law_808 hl (k := 3) rfl (by show nI (5 * j) + nI 5 = nI (5 * (j + 1)); rw [nI_add]; rfl) (by decide) rfl (fun ls hl => ?_)
      refine lv_goto (tgt := 18) hx hb dL_law_811 (by decide) ?_
      have hl : lv_has ls 4 [(0, .ref b), (1, .ref (eA (reA E ad) 24)), (2, .ref (aM 0)), (3, .int (nI (5 * (j + 1))))] := by
        rw [show eA (reA E ad) 24 = eA E 24 from had 24 rfl]
        exact lv_sub hl [1, 2, 3, 0] rfl
      exact ih (reA E ad) aM (j + 1) q' r' (C + mc) (S + ms) (by omega) (by omega) hI' F H locs hP hD hS ls hl
end LL
set_option maxHeartbeats 4000000 in
set_option maxRecDepth 100000 in
/-- the law from its entry, over an invariant -/
theorem law_start {I : Nat → QS → QS → Nat → Nat → Prop} (hI : Kept I) (hI0 : I 0 qX0 qM0 100 31773) {p : Program} {e : Env} {s : State} {m : MethodId} {below : List Frame} {meth : Method} {c : Code} (l : Launch) {b L : Nat} {xs : Nat → Int32} (hL : L ≤ 2560) (C0 : lw_At p s m meth c b L xs) : W p l e room_1 s m #[Value.ref b] below meth c s.heap [] 0 0 (lw_Z below #[Value.ref b] s) (entryFrame m ([Value.ref b] : List Value).toArray 4) := by
  obtain ⟨hx, hb, hr, hml, hown, hts, hX, hbl, hlocks, hgv⟩ := id C0
  have htg : ∀ w ∈ lwG, w.before #[Value.ref b] s = true := fun w h => hts w (lwG_tbl h)
  obtain ⟨D, cT, hK⟩ := law_K (p := p) htg
  have hA : ∀ z : Nat, s.heap.size ≤ z → (fun z : Nat => s.heap.size ≤ z) z := fun _ h => h
  have F : Fx (D, cT, fun _ => 0) p s m #[Value.ref b] meth c RL code 4 ret := ⟨hx, hb, hml, hown, htg, hK _, hlocks, hr⟩
  have hS : va_S (fun z : Nat => s.heap.size ≤ z) s.heap s.heap [] := va_S.rf
  have hP : va_P D vwCl [] s.heap := fun k q h => by simp at h
  have hD : va_D (fun z : Nat => s.heap.size ≤ z) [] := ⟨fun i j p q h => by simp at h, fun k q h => by simp at h⟩
  refine en_W _ (Nat.le_of_ble_eq_true rfl) (fun ls hl => ?_)
  have hl : lv_has ls 4 [(0, .ref b)] := hl
  refine r_new (ci := 9) (fs := [.null, .null, .null, .null, .null, .null]) F hA hP hD hS i_X9 tyX9_ok lk_L_7 li_X9 lz_X9 rfl (by decide +kernel) (by decide) (by decide) dL_law_0 (fun a H hP hD hS => ?_)
  refine lv_dup hx hb dL_law_3 rfl ?_
  refine q_callI (As := []) (rest := [.ref a]) (win := [(a, .inr (9, [.null, .null, .null, .null, .null, .null]))]) (wr := []) F hA hP hD hS (c_X9_init (E := (D, cT, fun _ => 0)) (l := l) a) [0] [] rfl rfl (by decide) (by decide) (by decide) k_X9_init rfl in_X9_init lm_L_9 ⟨rfl, rfl⟩ ⟨Nat.le_of_ble_eq_true rfl, Nat.le_of_ble_eq_true rfl⟩ rfl hl.1 rfl (Nat.le_of_ble_eq_true rfl) dL_law_4 ⟨by decide, by decide⟩ (fun ad H locs hP hD hS => ?_)
  obtain ⟨aX, hP, hD, haX⟩ : ∃ aX : Nat → Nat, va_P D vwCl (wX (D, cT, aX) qX0) H ∧ va_D (fun z : Nat => s.heap.size ≤ z) (wX (D, cT, aX) qX0) ∧ aX 24 = a := ⟨adX0 a ad, hP.sub [1, 2, 3, 8, 9, 10, 19, 20, 21, 29, 30, 31, 55, 56, 57, 33, 34, 35, 36, 37, 38, 39, 40, 41, 0, 4, 5, 6, 7, 44, 11, 12, 13, 14, 15, 16, 17, 18, 22, 23, 24, 25, 26, 27, 28, 43, 45, 32, 42, 46, 47, 48, 49, 50, 51, 52, 53, 54] rfl, hD.sub [1, 2, 3, 8, 9, 10, 19, 20, 21, 29, 30, 31, 55, 56, 57, 33, 34, 35, 36, 37, 38, 39, 40, 41, 0, 4, 5, 6, 7, 44, 11, 12, 13, 14, 15, 16, 17, 18, 22, 23, 24, 25, 26, 27, 28, 43, 45, 32, 42, 46, 47, 48, 49, 50, 51, 52, 53, 54] (by decide) rfl, rfl⟩
  refine lv_astore_n (lv' := [(1, .ref a), (0, .ref b)]) hx hb dL_law_7 rfl hl (by decide) rfl (fun ls hl => ?_)
  refine r_new (ci := 10) (fs := [.int 0, .null, .null, .null, .null, .null, .null, .int 0, .null, .null, .null, .null, .int 0, .null, .null, .null, .null, .null, .null, .null, .null, .null, .null, .null, .null, .null, .null, .null, .int 0, .int 0, .null, .int 0, .null, .int 0, .null, .null, .int 0, .int 0, .int 0, .null, .null, .int 0, .null, .null, .null, .null, .null, .null, .int 0, .int 0, .null, .null, .null, .null]) F hA hP hD hS i_X10 tyX10_ok lk_L_10 li_X10 lz_X10 rfl (by decide +kernel) (by decide) (by decide) dL_law_8 (fun a2 H hP hD hS => ?_)
  refine lv_dup hx hb dL_law_11 rfl ?_
  refine q_callI (As := []) (rest := [.ref a2]) (win := [(a2, .inr (10, [.int 0, .null, .null, .null, .null, .null, .null, .int 0, .null, .null, .null, .null, .int 0, .null, .null, .null, .null, .null, .null, .null, .null, .null, .null, .null, .null, .null, .null, .null, .int 0, .int 0, .null, .int 0, .null, .int 0, .null, .null, .int 0, .int 0, .int 0, .null, .null, .int 0, .null, .null, .null, .null, .null, .null, .int 0, .int 0, .null, .null, .null, .null]))]) (wr := wX (D, cT, aX) qX0) F hA hP hD hS (c_X10_init (E := (D, cT, fun _ => 0)) (l := l) a2) [58] [0, 1, 2, 3, 4, 5, 6, 7, 8, 9, 10, 11, 12, 13, 14, 15, 16, 17, 18, 19, 20, 21, 22, 23, 24, 25, 26, 27, 28, 29, 30, 31, 32, 33, 34, 35, 36, 37, 38, 39, 40, 41, 42, 43, 44, 45, 46, 47, 48, 49, 50, 51, 52, 53, 54, 55, 56, 57] rfl rfl (by decide) (by decide) (by decide) k_X10_init rfl in_X10_init lm_L_12 ⟨rfl, rfl⟩ ⟨Nat.le_of_ble_eq_true rfl, Nat.le_of_ble_eq_true rfl⟩ rfl hl.1 rfl (Nat.le_of_ble_eq_true rfl) dL_law_12 ⟨by decide, by decide⟩ (fun ad2 H locs hP hD hS => ?_)
  obtain ⟨aM, hPz, hDz, haM⟩ : ∃ aM : Nat → Nat, va_P D vwCl (wX (D, cT, aX) qX0 ++ wM (D, cT, aM) qM0) H ∧ va_D (fun z : Nat => s.heap.size ≤ z) (wX (D, cT, aX) qX0 ++ wM (D, cT, aM) qM0) ∧ aM 0 = a2 := ⟨adM0 a2 ad2, hP.sub [0, 1, 2, 3, 4, 5, 6, 7, 8, 9, 10, 11, 12, 13, 14, 15, 16, 17, 18, 19, 20, 21, 22, 23, 24, 25, 26, 27, 28, 29, 30, 31, 32, 33, 34, 35, 36, 37, 38, 39, 40, 41, 42, 43, 44, 45, 46, 47, 48, 49, 50, 51, 52, 53, 54, 55, 56, 57, 58, 59, 60, 61, 62, 63, 64, 65, 66, 67, 68, 69, 70, 71, 72, 73, 74, 75, 76, 77, 78, 79, 80, 81, 82, 83, 84, 85, 86, 87, 88, 89, 90, 91, 92, 93, 94, 95, 96, 97, 98, 99] rfl, hD.sub [0, 1, 2, 3, 4, 5, 6, 7, 8, 9, 10, 11, 12, 13, 14, 15, 16, 17, 18, 19, 20, 21, 22, 23, 24, 25, 26, 27, 28, 29, 30, 31, 32, 33, 34, 35, 36, 37, 38, 39, 40, 41, 42, 43, 44, 45, 46, 47, 48, 49, 50, 51, 52, 53, 54, 55, 56, 57, 58, 59, 60, 61, 62, 63, 64, 65, 66, 67, 68, 69, 70, 71, 72, 73, 74, 75, 76, 77, 78, 79, 80, 81, 82, 83, 84, 85, 86, 87, 88, 89, 90, 91, 92, 93, 94, 95, 96, 97, 98, 99] (by decide) rfl, rfl⟩
  refine lv_astore_n (lv' := [(2, .ref a2), (1, .ref a), (0, .ref b)]) hx hb dL_law_15 rfl hl (by decide) rfl (fun ls hl => ?_)
  refine lv_iconst (v := 0) hx hb dL_law_16 (by decide) ?_
  refine lv_istore_n (lv' := [(3, .int 0), (2, .ref a2), (1, .ref a), (0, .ref b)]) hx hb dL_law_17 rfl hl (by decide) rfl (fun ls hl => ?_)
  refine W.widen (k := 100) (n := 31773) (by decide) (by decide) ?_
  have hlz : lv_has ls 4 [(0, .ref b), (1, .ref (aX 24)), (2, .ref (aM 0)), (3, .int (nI (5 * 0)))] := by
    rw [haX, haM]
    exact lv_sub hl [3, 2, 1, 0] rfl
  exact law_loop hI hL C0 (L + 1) (D, cT, aX) aM 0 qX0 qM0 100 31773 (by omega) (by omega) hI0 F H locs hPz hDz hS ls hlz
