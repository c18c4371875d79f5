def rm_gather (mc ms : Nat) : Room := { frames := 5, cells := mc, slots := ms, locals := 118 }
def rm_run (mc ms : Nat) : Room := { frames := 6, cells := mc, slots := ms, locals := 144 }
/-- gather and run, with what they may make -/
def f_gather (mc ms : Nat) (q : QS) : Option (Int32 × QS) := f_X6_gather_0 (fun q x => if mrf_c q x ≤ mc ∧ mrf_s q x ≤ ms then (f_mrf q x).bind fun q1 => f_X6_gather_17 q1 else none) q
def f_run (mc ms : Nat) (q : QS) : Option (Int32 × QS) := f_X9_run_0 (fun q => (f_gather mc ms q).bind fun r => f_X9_run_64 r.2 r.1) q
set_option maxHeartbeats 4000000 in
set_option maxRecDepth 100000 in
theorem c_gather {E : En} {l : Launch} (mc ms : Nat) (q : QS) {o : Int32 × QS} (h : f_gather mc ms q = some o) : Ca E l yX6_gather (wy yX6_gather cX6_gather 6 (some .int)) (rm_gather mc ms) q o.2 [.ref (eA E 47)] (some (.int o.1)) mc ms := by
  refine ca_I (by decide +kernel) ?_
  intro p e s m below meth c A Q F hA hRt hP hD hS
  refine en_W _ (Nat.le_of_ble_eq_true rfl) (fun ls hl => ?_)
  refine g_X6_gather_0 F hA (Nat.le_of_ble_eq_true rfl) (Nat.le_of_ble_eq_true rfl) (Nat.zero_le _) (Nat.zero_le _) (fun pc ls hd H locs hP hD hS => W.widen (k := mc) (n := ms) (Nat.zero_le _) (Nat.zero_le _) (hRt E.2.2 pc ls H locs (fun _ _ => rfl) hd hP hD hS)) ?_ q h ls (lv_sub hl [0] rfl) _ _ hP hD hS
  intro q1 x hk ls hl H locs hP hD hS
  by_cases hb : mrf_c q1 x ≤ mc ∧ mrf_s q1 x ≤ ms
  · rw [if_pos hb] at hk
    obtain ⟨q2, hm, h2⟩ := Option.bind_eq_some_iff.mp hk
    refine q_callA (As := [.int x]) (rest := []) F hA hP hD hS (c_mrf q1 x hm) k_X6_makeRoomFor in_X6_makeRoomFor se_X6_makeRoomFor lm_X6_139 47 (xe_47 E q1) rfl ⟨rfl, rfl⟩ ⟨Nat.le_of_ble_eq_true rfl, Nat.le_of_ble_eq_true rfl⟩ rfl hl.1 rfl (Nat.le_of_ble_eq_true rfl) dX6_gather_14 ⟨by show 0 + mrf_c q1 x ≤ mc; omega, by show 0 + mrf_s q1 x ≤ ms; omega⟩ (fun ad had => ?_)
    intro H locs hP hD hS
    refine W.widen (k := mc) (n := ms) (by omega) (by omega) ?_
    have hl : lv_has ls 6 [(0, .ref (eA (reA E ad) 47))] := by
      rw [show eA (reA E ad) 47 = eA E 47 from had 47 rfl]
      exact hl
    exact g_X6_gather_17 (E := reA E ad) F hA (Nat.le_of_ble_eq_true rfl) (Nat.le_of_ble_eq_true rfl) (Nat.le_refl mc) (Nat.le_refl ms) (fun pc ls hd H locs hP hD hS => hRt ad pc ls H locs had hd hP hD hS) q2 h2 ls hl _ _ hP hD hS
  · rw [if_neg hb] at hk; cases hk
set_option maxHeartbeats 4000000 in
set_option maxRecDepth 100000 in
theorem c_run {E : En} {l : Launch} (mc ms : Nat) (q : QS) {o : Int32 × QS} (h : f_run mc ms q = some o) : Ca E l yX9_run (wy yX9_run cX9_run 5 (some .int)) (rm_run mc ms) q o.2 [.ref (eA E 24)] (some (.int o.1)) mc ms := by
  refine ca_I (by decide +kernel) ?_
  intro p e s m below meth c A Q F hA hRt hP hD hS
  refine en_W _ (Nat.le_of_ble_eq_true rfl) (fun ls hl => ?_)
  refine g_X9_run_0 F hA (Nat.le_of_ble_eq_true rfl) (Nat.le_of_ble_eq_true rfl) (Nat.zero_le _) (Nat.zero_le _) (fun pc ls hd H locs hP hD hS => W.widen (k := mc) (n := ms) (Nat.zero_le _) (Nat.zero_le _) (hRt E.2.2 pc ls H locs (fun _ _ => rfl) hd hP hD hS)) ?_ q h ls (lv_sub hl [0] rfl) _ _ hP hD hS
  intro q1 hk ls hl H locs hP hD hS
  obtain ⟨r, hm, h2⟩ := Option.bind_eq_some_iff.mp hk
  refine q_callA (As := []) (rest := []) F hA hP hD hS (c_gather mc ms q1 hm) k_X6_gather in_X6_gather se_X6_gather lm_X9_183 47 (xe_47 E q1) rfl ⟨rfl, rfl⟩ ⟨Nat.le_of_ble_eq_true rfl, Nat.le_of_ble_eq_true rfl⟩ rfl hl.1 rfl (Nat.le_of_ble_eq_true rfl) dX9_run_61 ⟨by show 0 + mc ≤ mc; omega, by show 0 + ms ≤ ms; omega⟩ (fun ad had => ?_)
  intro H locs hP hD hS
  refine W.widen (k := mc) (n := ms) (by omega) (by omega) ?_
  have hl : lv_has ls 5 [(0, .ref (eA (reA E ad) 24))] := by
    rw [show eA (reA E ad) 24 = eA E 24 from had 24 rfl]
    exact hl
  exact g_X9_run_64 (E := reA E ad) F hA (Nat.le_of_ble_eq_true rfl) (Nat.le_of_ble_eq_true rfl) (Nat.le_refl mc) (Nat.le_refl ms) (fun pc ls hd H locs hP hD hS => hRt ad pc ls H locs had hd hP hD hS) r.2 r.1 h2 ls hl _ _ hP hD hS
