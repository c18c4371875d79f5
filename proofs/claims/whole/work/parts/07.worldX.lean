def wX (E : En) (q : QS) : va_W := [(eA E 0, .inr (8, [.ref (eA E 1), .ref (eA E 2)])),
  (eA E 1, .inl (E.2.1 0, 8, .inl (qI q 1))),
  (eA E 2, .inl (E.2.1 1, (8 * 4), .inr (.inl (qL q 2)))),
  (eA E 3, .inr (8, [.ref (eA E 4), .ref (eA E 5)])),
  (eA E 4, .inl (E.2.1 0, 960, .inl (qI q 4))),
  (eA E 5, .inl (E.2.1 1, (960 * 4), .inr (.inl (qL q 5)))),
  (eA E 6, .inr (8, [.ref (eA E 7), .ref (eA E 8)])),
  (eA E 7, .inl (E.2.1 0, 200, .inl (qI q 7))),
  (eA E 8, .inl (E.2.1 1, (200 * 4), .inr (.inl (qL q 8)))),
  (eA E 9, .inr (8, [.ref (eA E 10), .ref (eA E 11)])),
  (eA E 10, .inl (E.2.1 0, 512, .inl (qI q 10))),
  (eA E 11, .inl (E.2.1 1, (512 * 4), .inr (.inl (qL q 11)))),
  (eA E 12, .inr (8, [.ref (eA E 13), .ref (eA E 14)])),
  (eA E 13, .inl (E.2.1 0, (qC q * 8), .inl (qI q 13))),
  (eA E 14, .inl (E.2.1 1, ((qC q * 8) * 4), .inr (.inl (qL q 14)))),
  (eA E 15, .inr (3, [.ref (eA E 16), .ref (eA E 17), .int (qF q 3)])),
  (eA E 16, .inl (E.2.1 2, 200, .inl (qI q 16))),
  (eA E 17, .inl (E.2.1 0, 200, .inl (qI q 17))),
  (eA E 18, .inr (3, [.ref (eA E 19), .ref (eA E 20), .int (qF q 4)])),
  (eA E 19, .inl (E.2.1 2, 200, .inl (qI q 19))),
  (eA E 20, .inl (E.2.1 0, 200, .inl (qI q 20))),
  (eA E 21, .inr (3, [.ref (eA E 22), .ref (eA E 23), .int (qF q 5)])),
  (eA E 22, .inl (E.2.1 2, 200, .inl (qI q 22))),
  (eA E 23, .inl (E.2.1 0, 200, .inl (qI q 23))),
  (eA E 24, .inr (9, [.ref (eA E 0), .ref (eA E 25), .ref (eA E 29), .ref (eA E 38), .ref (eA E 44), .ref (eA E 47)])),
  (eA E 25, .inr (7, [.int (qF q 14), .ref (eA E 26), .ref (eA E 27), .ref (eA E 28), .ref (eA E 3)])),
  (eA E 26, .inl (E.2.1 0, 3, .inl (qI q 26))),
  (eA E 27, .inl (E.2.1 0, 24, .inl (qI q 27))),
  (eA E 28, .inl (E.2.1 0, 3, .inl (qI q 28))),
  (eA E 29, .inr (2, [.int (qF q 2), .ref (eA E 30), .ref (eA E 31), .ref (eA E 32), .ref (eA E 33), .ref (eA E 34), .ref (eA E 35), .ref (eA E 36), .ref (eA E 37), .ref (eA E 6)])),
  (eA E 30, .inl (E.2.1 0, 200, .inl (qI q 30))),
  (eA E 31, .inl (E.2.1 0, 200, .inl (qI q 31))),
  (eA E 32, .inl (E.2.1 0, 200, .inl (qI q 32))),
  (eA E 33, .inl (E.2.1 0, 200, .inl (qI q 33))),
  (eA E 34, .inl (E.2.1 0, 200, .inl (qI q 34))),
  (eA E 35, .inl (E.2.1 0, 200, .inl (qI q 35))),
  (eA E 36, .inl (E.2.1 2, 200, .inl (qI q 36))),
  (eA E 37, .inl (E.2.1 2, 200, .inl (qI q 37))),
  (eA E 38, .inr (4, [.int (qF q 6), .int (qF q 7), .int (qF q 8), .int (qF q 9), .int (qF q 10), .int (qF q 11), .ref (eA E 39), .ref (eA E 40), .ref (eA E 41), .ref (eA E 42), .ref (eA E 43)])),
  (eA E 39, .inl (E.2.1 0, 8, .inl (qI q 39))),
  (eA E 40, .inl (E.2.1 0, 4, .inl (qI q 40))),
  (eA E 41, .inl (E.2.1 0, 4, .inl (qI q 41))),
  (eA E 42, .inl (E.2.1 0, 4, .inl (qI q 42))),
  (eA E 43, .inl (E.2.1 2, 4, .inl (qI q 43))),
  (eA E 44, .inr (0, [.int (qF q 0), .int (qF q 1), .ref (eA E 9)])),
  (eA E 45, .inr (1, [.ref (eA E 25), .ref (eA E 29), .ref (eA E 6), .ref (eA E 46)])),
  (eA E 46, .inl (E.2.1 0, 3, .inl (qI q 46))),
  (eA E 47, .inr (6, [.ref (eA E 25), .ref (eA E 29), .ref (eA E 38), .ref (eA E 45), .ref (eA E 15), .ref (eA E 18), .ref (eA E 21), .ref (eA E 48), .int (qF q 13), .ref (eA E 49)])),
  (eA E 48, .inl (E.2.1 0, 200, .inl (qI q 48))),
  (eA E 49, .inr (5, [.int (qF q 12), .ref (eA E 50), .ref (eA E 51), .ref (eA E 52), .ref (eA E 53), .ref (eA E 54), .ref (eA E 55), .ref (eA E 56), .ref (eA E 57), .ref (eA E 12)])),
  (eA E 50, .inl (E.2.1 0, (qC q), .inl (qI q 50))),
  (eA E 51, .inl (E.2.1 0, (qC q), .inl (qI q 51))),
  (eA E 52, .inl (E.2.1 0, (qC q), .inl (qI q 52))),
  (eA E 53, .inl (E.2.1 0, (qC q), .inl (qI q 53))),
  (eA E 54, .inl (E.2.1 0, (qC q), .inl (qI q 54))),
  (eA E 55, .inl (E.2.1 0, (qC q), .inl (qI q 55))),
  (eA E 56, .inl (E.2.1 0, (qC q), .inl (qI q 56))),
  (eA E 57, .inl (E.2.1 0, (qC q), .inl (qI q 57)))]
theorem xe_0 (E : En) (q : QS) : (wX E q)[0]? = some (eA E 0, .inr (8, [.ref (eA E 1), .ref (eA E 2)])) := rfl
theorem xe_1 (E : En) (q : QS) : (wX E q)[1]? = some (eA E 1, .inl (E.2.1 0, 8, .inl (qI q 1))) := rfl
theorem xs_1 (E : En) (q : QS) : ∀ (j : Nat) (x : Int32), (wX E q).set 1 (eA E 1, .inl (E.2.1 0, 8, .inl (upd (qI q 1) j x))) = wX E (uI q 1 j x) := fun _ _ => rfl
theorem xe_2 (E : En) (q : QS) : (wX E q)[2]? = some (eA E 2, .inl (E.2.1 1, (8 * 4), .inr (.inl (qL q 2)))) := rfl
theorem xs_2 (E : En) (q : QS) : ∀ (j : Nat) (x : Int64), (wX E q).set 2 (eA E 2, .inl (E.2.1 1, (8 * 4), .inr (.inl (vp_updL (qL q 2) j x)))) = wX E (uL q 2 j x) := fun _ _ => rfl
theorem xe_3 (E : En) (q : QS) : (wX E q)[3]? = some (eA E 3, .inr (8, [.ref (eA E 4), .ref (eA E 5)])) := rfl
theorem xe_4 (E : En) (q : QS) : (wX E q)[4]? = some (eA E 4, .inl (E.2.1 0, 960, .inl (qI q 4))) := rfl
theorem xs_4 (E : En) (q : QS) : ∀ (j : Nat) (x : Int32), (wX E q).set 4 (eA E 4, .inl (E.2.1 0, 960, .inl (upd (qI q 4) j x))) = wX E (uI q 4 j x) := fun _ _ => rfl
theorem xe_5 (E : En) (q : QS) : (wX E q)[5]? = some (eA E 5, .inl (E.2.1 1, (960 * 4), .inr (.inl (qL q 5)))) := rfl
theorem xs_5 (E : En) (q : QS) : ∀ (j : Nat) (x : Int64), (wX E q).set 5 (eA E 5, .inl (E.2.1 1, (960 * 4), .inr (.inl (vp_updL (qL q 5) j x)))) = wX E (uL q 5 j x) := fun _ _ => rfl
theorem xe_6 (E : En) (q : QS) : (wX E q)[6]? = some (eA E 6, .inr (8, [.ref (eA E 7), .ref (eA E 8)])) := rfl
theorem xe_7 (E : En) (q : QS) : (wX E q)[7]? = some (eA E 7, .inl (E.2.1 0, 200, .inl (qI q 7))) := rfl
theorem xs_7 (E : En) (q : QS) : ∀ (j : Nat) (x : Int32), (wX E q).set 7 (eA E 7, .inl (E.2.1 0, 200, .inl (upd (qI q 7) j x))) = wX E (uI q 7 j x) := fun _ _ => rfl
theorem xe_8 (E : En) (q : QS) : (wX E q)[8]? = some (eA E 8, .inl (E.2.1 1, (200 * 4), .inr (.inl (qL q 8)))) := rfl
theorem xs_8 (E : En) (q : QS) : ∀ (j : Nat) (x : Int64), (wX E q).set 8 (eA E 8, .inl (E.2.1 1, (200 * 4), .inr (.inl (vp_updL (qL q 8) j x)))) = wX E (uL q 8 j x) := fun _ _ => rfl
theorem xe_9 (E : En) (q : QS) : (wX E q)[9]? = some (eA E 9, .inr (8, [.ref (eA E 10), .ref (eA E 11)])) := rfl
theorem xe_10 (E : En) (q : QS) : (wX E q)[10]? = some (eA E 10, .inl (E.2.1 0, 512, .inl (qI q 10))) := rfl
theorem xs_10 (E : En) (q : QS) : ∀ (j : Nat) (x : Int32), (wX E q).set 10 (eA E 10, .inl (E.2.1 0, 512, .inl (upd (qI q 10) j x))) = wX E (uI q 10 j x) := fun _ _ => rfl
theorem xe_11 (E : En) (q : QS) : (wX E q)[11]? = some (eA E 11, .inl (E.2.1 1, (512 * 4), .inr (.inl (qL q 11)))) := rfl
theorem xs_11 (E : En) (q : QS) : ∀ (j : Nat) (x : Int64), (wX E q).set 11 (eA E 11, .inl (E.2.1 1, (512 * 4), .inr (.inl (vp_updL (qL q 11) j x)))) = wX E (uL q 11 j x) := fun _ _ => rfl
theorem xe_12 (E : En) (q : QS) : (wX E q)[12]? = some (eA E 12, .inr (8, [.ref (eA E 13), .ref (eA E 14)])) := rfl
theorem xe_13 (E : En) (q : QS) : (wX E q)[13]? = some (eA E 13, .inl (E.2.1 0, (qC q * 8), .inl (qI q 13))) := rfl
theorem xs_13 (E : En) (q : QS) : ∀ (j : Nat) (x : Int32), (wX E q).set 13 (eA E 13, .inl (E.2.1 0, (qC q * 8), .inl (upd (qI q 13) j x))) = wX E (uI q 13 j x) := fun _ _ => rfl
theorem xe_14 (E : En) (q : QS) : (wX E q)[14]? = some (eA E 14, .inl (E.2.1 1, ((qC q * 8) * 4), .inr (.inl (qL q 14)))) := rfl
theorem xs_14 (E : En) (q : QS) : ∀ (j : Nat) (x : Int64), (wX E q).set 14 (eA E 14, .inl (E.2.1 1, ((qC q * 8) * 4), .inr (.inl (vp_updL (qL q 14) j x)))) = wX E (uL q 14 j x) := fun _ _ => rfl
theorem xe_15 (E : En) (q : QS) : (wX E q)[15]? = some (eA E 15, .inr (3, [.ref (eA E 16), .ref (eA E 17), .int (qF q 3)])) := rfl
theorem xf_15_3 (E : En) (q : QS) (x : Int32) : (wX E q).set 15 (eA E 15, .inr (3, ([.ref (eA E 16), .ref (eA E 17), .int (qF q 3)]).set 2 (.int x))) = wX E (uF q 3 x) := rfl
theorem xe_16 (E : En) (q : QS) : (wX E q)[16]? = some (eA E 16, .inl (E.2.1 2, 200, .inl (qI q 16))) := rfl
theorem xs_16 (E : En) (q : QS) : ∀ (j : Nat) (x : Int32), (wX E q).set 16 (eA E 16, .inl (E.2.1 2, 200, .inl (upd (qI q 16) j x))) = wX E (uI q 16 j x) := fun _ _ => rfl
theorem xe_17 (E : En) (q : QS) : (wX E q)[17]? = some (eA E 17, .inl (E.2.1 0, 200, .inl (qI q 17))) := rfl
theorem xs_17 (E : En) (q : QS) : ∀ (j : Nat) (x : Int32), (wX E q).set 17 (eA E 17, .inl (E.2.1 0, 200, .inl (upd (qI q 17) j x))) = wX E (uI q 17 j x) := fun _ _ => rfl
theorem xe_18 (E : En) (q : QS) : (wX E q)[18]? = some (eA E 18, .inr (3, [.ref (eA E 19), .ref (eA E 20), .int (qF q 4)])) := rfl
theorem xf_18_4 (E : En) (q : QS) (x : Int32) : (wX E q).set 18 (eA E 18, .inr (3, ([.ref (eA E 19), .ref (eA E 20), .int (qF q 4)]).set 2 (.int x))) = wX E (uF q 4 x) := rfl
theorem xe_19 (E : En) (q : QS) : (wX E q)[19]? = some (eA E 19, .inl (E.2.1 2, 200, .inl (qI q 19))) := rfl
theorem xs_19 (E : En) (q : QS) : ∀ (j : Nat) (x : Int32), (wX E q).set 19 (eA E 19, .inl (E.2.1 2, 200, .inl (upd (qI q 19) j x))) = wX E (uI q 19 j x) := fun _ _ => rfl
theorem xe_20 (E : En) (q : QS) : (wX E q)[20]? = some (eA E 20, .inl (E.2.1 0, 200, .inl (qI q 20))) := rfl
theorem xs_20 (E : En) (q : QS) : ∀ (j : Nat) (x : Int32), (wX E q).set 20 (eA E 20, .inl (E.2.1 0, 200, .inl (upd (qI q 20) j x))) = wX E (uI q 20 j x) := fun _ _ => rfl
theorem xe_21 (E : En) (q : QS) : (wX E q)[21]? = some (eA E 21, .inr (3, [.ref (eA E 22), .ref (eA E 23), .int (qF q 5)])) := rfl
theorem xf_21_5 (E : En) (q : QS) (x : Int32) : (wX E q).set 21 (eA E 21, .inr (3, ([.ref (eA E 22), .ref (eA E 23), .int (qF q 5)]).set 2 (.int x))) = wX E (uF q 5 x) := rfl
theorem xe_22 (E : En) (q : QS) : (wX E q)[22]? = some (eA E 22, .inl (E.2.1 2, 200, .inl (qI q 22))) := rfl
theorem xs_22 (E : En) (q : QS) : ∀ (j : Nat) (x : Int32), (wX E q).set 22 (eA E 22, .inl (E.2.1 2, 200, .inl (upd (qI q 22) j x))) = wX E (uI q 22 j x) := fun _ _ => rfl
theorem xe_23 (E : En) (q : QS) : (wX E q)[23]? = some (eA E 23, .inl (E.2.1 0, 200, .inl (qI q 23))) := rfl
theorem xs_23 (E : En) (q : QS) : ∀ (j : Nat) (x : Int32), (wX E q).set 23 (eA E 23, .inl (E.2.1 0, 200, .inl (upd (qI q 23) j x))) = wX E (uI q 23 j x) := fun _ _ => rfl
theorem xe_24 (E : En) (q : QS) : (wX E q)[24]? = some (eA E 24, .inr (9, [.ref (eA E 0), .ref (eA E 25), .ref (eA E 29), .ref (eA E 38), .ref (eA E 44), .ref (eA E 47)])) := rfl
theorem xe_25 (E : En) (q : QS) : (wX E q)[25]? = some (eA E 25, .inr (7, [.int (qF q 14), .ref (eA E 26), .ref (eA E 27), .ref (eA E 28), .ref (eA E 3)])) := rfl
theorem xf_25_14 (E : En) (q : QS) (x : Int32) : (wX E q).set 25 (eA E 25, .inr (7, ([.int (qF q 14), .ref (eA E 26), .ref (eA E 27), .ref (eA E 28), .ref (eA E 3)]).set 0 (.int x))) = wX E (uF q 14 x) := rfl
theorem xe_26 (E : En) (q : QS) : (wX E q)[26]? = some (eA E 26, .inl (E.2.1 0, 3, .inl (qI q 26))) := rfl
theorem xs_26 (E : En) (q : QS) : ∀ (j : Nat) (x : Int32), (wX E q).set 26 (eA E 26, .inl (E.2.1 0, 3, .inl (upd (qI q 26) j x))) = wX E (uI q 26 j x) := fun _ _ => rfl
theorem xe_27 (E : En) (q : QS) : (wX E q)[27]? = some (eA E 27, .inl (E.2.1 0, 24, .inl (qI q 27))) := rfl
theorem xs_27 (E : En) (q : QS) : ∀ (j : Nat) (x : Int32), (wX E q).set 27 (eA E 27, .inl (E.2.1 0, 24, .inl (upd (qI q 27) j x))) = wX E (uI q 27 j x) := fun _ _ => rfl
theorem xe_28 (E : En) (q : QS) : (wX E q)[28]? = some (eA E 28, .inl (E.2.1 0, 3, .inl (qI q 28))) := rfl
theorem xs_28 (E : En) (q : QS) : ∀ (j : Nat) (x : Int32), (wX E q).set 28 (eA E 28, .inl (E.2.1 0, 3, .inl (upd (qI q 28) j x))) = wX E (uI q 28 j x) := fun _ _ => rfl
theorem xe_29 (E : En) (q : QS) : (wX E q)[29]? = some (eA E 29, .inr (2, [.int (qF q 2), .ref (eA E 30), .ref (eA E 31), .ref (eA E 32), .ref (eA E 33), .ref (eA E 34), .ref (eA E 35), .ref (eA E 36), .ref (eA E 37), .ref (eA E 6)])) := rfl
theorem xf_29_2 (E : En) (q : QS) (x : Int32) : (wX E q).set 29 (eA E 29, .inr (2, ([.int (qF q 2), .ref (eA E 30), .ref (eA E 31), .ref (eA E 32), .ref (eA E 33), .ref (eA E 34), .ref (eA E 35), .ref (eA E 36), .ref (eA E 37), .ref (eA E 6)]).set 0 (.int x))) = wX E (uF q 2 x) := rfl
theorem xe_30 (E : En) (q : QS) : (wX E q)[30]? = some (eA E 30, .inl (E.2.1 0, 200, .inl (qI q 30))) := rfl
theorem xs_30 (E : En) (q : QS) : ∀ (j : Nat) (x : Int32), (wX E q).set 30 (eA E 30, .inl (E.2.1 0, 200, .inl (upd (qI q 30) j x))) = wX E (uI q 30 j x) := fun _ _ => rfl
theorem xe_31 (E : En) (q : QS) : (wX E q)[31]? = some (eA E 31, .inl (E.2.1 0, 200, .inl (qI q 31))) := rfl
theorem xs_31 (E : En) (q : QS) : ∀ (j : Nat) (x : Int32), (wX E q).set 31 (eA E 31, .inl (E.2.1 0, 200, .inl (upd (qI q 31) j x))) = wX E (uI q 31 j x) := fun _ _ => rfl
theorem xe_32 (E : En) (q : QS) : (wX E q)[32]? = some (eA E 32, .inl (E.2.1 0, 200, .inl (qI q 32))) := rfl
theorem xs_32 (E : En) (q : QS) : ∀ (j : Nat) (x : Int32), (wX E q).set 32 (eA E 32, .inl (E.2.1 0, 200, .inl (upd (qI q 32) j x))) = wX E (uI q 32 j x) := fun _ _ => rfl
theorem xe_33 (E : En) (q : QS) : (wX E q)[33]? = some (eA E 33, .inl (E.2.1 0, 200, .inl (qI q 33))) := rfl
theorem xs_33 (E : En) (q : QS) : ∀ (j : Nat) (x : Int32), (wX E q).set 33 (eA E 33, .inl (E.2.1 0, 200, .inl (upd (qI q 33) j x))) = wX E (uI q 33 j x) := fun _ _ => rfl
theorem xe_34 (E : En) (q : QS) : (wX E q)[34]? = some (eA E 34, .inl (E.2.1 0, 200, .inl (qI q 34))) := rfl
theorem xs_34 (E : En) (q : QS) : ∀ (j : Nat) (x : Int32), (wX E q).set 34 (eA E 34, .inl (E.2.1 0, 200, .inl (upd (qI q 34) j x))) = wX E (uI q 34 j x) := fun _ _ => rfl
theorem xe_35 (E : En) (q : QS) : (wX E q)[35]? = some (eA E 35, .inl (E.2.1 0, 200, .inl (qI q 35))) := rfl
theorem xs_35 (E : En) (q : QS) : ∀ (j : Nat) (x : Int32), (wX E q).set 35 (eA E 35, .inl (E.2.1 0, 200, .inl (upd (qI q 35) j x))) = wX E (uI q 35 j x) := fun _ _ => rfl
theorem xe_36 (E : En) (q : QS) : (wX E q)[36]? = some (eA E 36, .inl (E.2.1 2, 200, .inl (qI q 36))) := rfl
theorem xs_36 (E : En) (q : QS) : ∀ (j : Nat) (x : Int32), (wX E q).set 36 (eA E 36, .inl (E.2.1 2, 200, .inl (upd (qI q 36) j x))) = wX E (uI q 36 j x) := fun _ _ => rfl
theorem xe_37 (E : En) (q : QS) : (wX E q)[37]? = some (eA E 37, .inl (E.2.1 2, 200, .inl (qI q 37))) := rfl
theorem xs_37 (E : En) (q : QS) : ∀ (j : Nat) (x : Int32), (wX E q).set 37 (eA E 37, .inl (E.2.1 2, 200, .inl (upd (qI q 37) j x))) = wX E (uI q 37 j x) := fun _ _ => rfl
theorem xe_38 (E : En) (q : QS) : (wX E q)[38]? = some (eA E 38, .inr (4, [.int (qF q 6), .int (qF q 7), .int (qF q 8), .int (qF q 9), .int (qF q 10), .int (qF q 11), .ref (eA E 39), .ref (eA E 40), .ref (eA E 41), .ref (eA E 42), .ref (eA E 43)])) := rfl
theorem xf_38_6 (E : En) (q : QS) (x : Int32) : (wX E q).set 38 (eA E 38, .inr (4, ([.int (qF q 6), .int (qF q 7), .int (qF q 8), .int (qF q 9), .int (qF q 10), .int (qF q 11), .ref (eA E 39), .ref (eA E 40), .ref (eA E 41), .ref (eA E 42), .ref (eA E 43)]).set 0 (.int x))) = wX E (uF q 6 x) := rfl
theorem xf_38_7 (E : En) (q : QS) (x : Int32) : (wX E q).set 38 (eA E 38, .inr (4, ([.int (qF q 6), .int (qF q 7), .int (qF q 8), .int (qF q 9), .int (qF q 10), .int (qF q 11), .ref (eA E 39), .ref (eA E 40), .ref (eA E 41), .ref (eA E 42), .ref (eA E 43)]).set 1 (.int x))) = wX E (uF q 7 x) := rfl
theorem xf_38_8 (E : En) (q : QS) (x : Int32) : (wX E q).set 38 (eA E 38, .inr (4, ([.int (qF q 6), .int (qF q 7), .int (qF q 8), .int (qF q 9), .int (qF q 10), .int (qF q 11), .ref (eA E 39), .ref (eA E 40), .ref (eA E 41), .ref (eA E 42), .ref (eA E 43)]).set 2 (.int x))) = wX E (uF q 8 x) := rfl
theorem xf_38_9 (E : En) (q : QS) (x : Int32) : (wX E q).set 38 (eA E 38, .inr (4, ([.int (qF q 6), .int (qF q 7), .int (qF q 8), .int (qF q 9), .int (qF q 10), .int (qF q 11), .ref (eA E 39), .ref (eA E 40), .ref (eA E 41), .ref (eA E 42), .ref (eA E 43)]).set 3 (.int x))) = wX E (uF q 9 x) := rfl
theorem xf_38_10 (E : En) (q : QS) (x : Int32) : (wX E q).set 38 (eA E 38, .inr (4, ([.int (qF q 6), .int (qF q 7), .int (qF q 8), .int (qF q 9), .int (qF q 10), .int (qF q 11), .ref (eA E 39), .ref (eA E 40), .ref (eA E 41), .ref (eA E 42), .ref (eA E 43)]).set 4 (.int x))) = wX E (uF q 10 x) := rfl
theorem xf_38_11 (E : En) (q : QS) (x : Int32) : (wX E q).set 38 (eA E 38, .inr (4, ([.int (qF q 6), .int (qF q 7), .int (qF q 8), .int (qF q 9), .int (qF q 10), .int (qF q 11), .ref (eA E 39), .ref (eA E 40), .ref (eA E 41), .ref (eA E 42), .ref (eA E 43)]).set 5 (.int x))) = wX E (uF q 11 x) := rfl
theorem xe_39 (E : En) (q : QS) : (wX E q)[39]? = some (eA E 39, .inl (E.2.1 0, 8, .inl (qI q 39))) := rfl
theorem xs_39 (E : En) (q : QS) : ∀ (j : Nat) (x : Int32), (wX E q).set 39 (eA E 39, .inl (E.2.1 0, 8, .inl (upd (qI q 39) j x))) = wX E (uI q 39 j x) := fun _ _ => rfl
theorem xe_40 (E : En) (q : QS) : (wX E q)[40]? = some (eA E 40, .inl (E.2.1 0, 4, .inl (qI q 40))) := rfl
theorem xs_40 (E : En) (q : QS) : ∀ (j : Nat) (x : Int32), (wX E q).set 40 (eA E 40, .inl (E.2.1 0, 4, .inl (upd (qI q 40) j x))) = wX E (uI q 40 j x) := fun _ _ => rfl
theorem xe_41 (E : En) (q : QS) : (wX E q)[41]? = some (eA E 41, .inl (E.2.1 0, 4, .inl (qI q 41))) := rfl
theorem xs_41 (E : En) (q : QS) : ∀ (j : Nat) (x : Int32), (wX E q).set 41 (eA E 41, .inl (E.2.1 0, 4, .inl (upd (qI q 41) j x))) = wX E (uI q 41 j x) := fun _ _ => rfl
theorem xe_42 (E : En) (q : QS) : (wX E q)[42]? = some (eA E 42, .inl (E.2.1 0, 4, .inl (qI q 42))) := rfl
theorem xs_42 (E : En) (q : QS) : ∀ (j : Nat) (x : Int32), (wX E q).set 42 (eA E 42, .inl (E.2.1 0, 4, .inl (upd (qI q 42) j x))) = wX E (uI q 42 j x) := fun _ _ => rfl
theorem xe_43 (E : En) (q : QS) : (wX E q)[43]? = some (eA E 43, .inl (E.2.1 2, 4, .inl (qI q 43))) := rfl
theorem xs_43 (E : En) (q : QS) : ∀ (j : Nat) (x : Int32), (wX E q).set 43 (eA E 43, .inl (E.2.1 2, 4, .inl (upd (qI q 43) j x))) = wX E (uI q 43 j x) := fun _ _ => rfl
theorem xe_44 (E : En) (q : QS) : (wX E q)[44]? = some (eA E 44, .inr (0, [.int (qF q 0), .int (qF q 1), .ref (eA E 9)])) := rfl
theorem xf_44_0 (E : En) (q : QS) (x : Int32) : (wX E q).set 44 (eA E 44, .inr (0, ([.int (qF q 0), .int (qF q 1), .ref (eA E 9)]).set 0 (.int x))) = wX E (uF q 0 x) := rfl
theorem xf_44_1 (E : En) (q : QS) (x : Int32) : (wX E q).set 44 (eA E 44, .inr (0, ([.int (qF q 0), .int (qF q 1), .ref (eA E 9)]).set 1 (.int x))) = wX E (uF q 1 x) := rfl
theorem xe_45 (E : En) (q : QS) : (wX E q)[45]? = some (eA E 45, .inr (1, [.ref (eA E 25), .ref (eA E 29), .ref (eA E 6), .ref (eA E 46)])) := rfl
theorem xe_46 (E : En) (q : QS) : (wX E q)[46]? = some (eA E 46, .inl (E.2.1 0, 3, .inl (qI q 46))) := rfl
theorem xs_46 (E : En) (q : QS) : ∀ (j : Nat) (x : Int32), (wX E q).set 46 (eA E 46, .inl (E.2.1 0, 3, .inl (upd (qI q 46) j x))) = wX E (uI q 46 j x) := fun _ _ => rfl
theorem xe_47 (E : En) (q : QS) : (wX E q)[47]? = some (eA E 47, .inr (6, [.ref (eA E 25), .ref (eA E 29), .ref (eA E 38), .ref (eA E 45), .ref (eA E 15), .ref (eA E 18), .ref (eA E 21), .ref (eA E 48), .int (qF q 13), .ref (eA E 49)])) := rfl
theorem xf_47_13 (E : En) (q : QS) (x : Int32) : (wX E q).set 47 (eA E 47, .inr (6, ([.ref (eA E 25), .ref (eA E 29), .ref (eA E 38), .ref (eA E 45), .ref (eA E 15), .ref (eA E 18), .ref (eA E 21), .ref (eA E 48), .int (qF q 13), .ref (eA E 49)]).set 8 (.int x))) = wX E (uF q 13 x) := rfl
theorem xe_48 (E : En) (q : QS) : (wX E q)[48]? = some (eA E 48, .inl (E.2.1 0, 200, .inl (qI q 48))) := rfl
theorem xs_48 (E : En) (q : QS) : ∀ (j : Nat) (x : Int32), (wX E q).set 48 (eA E 48, .inl (E.2.1 0, 200, .inl (upd (qI q 48) j x))) = wX E (uI q 48 j x) := fun _ _ => rfl
theorem xe_49 (E : En) (q : QS) : (wX E q)[49]? = some (eA E 49, .inr (5, [.int (qF q 12), .ref (eA E 50), .ref (eA E 51), .ref (eA E 52), .ref (eA E 53), .ref (eA E 54), .ref (eA E 55), .ref (eA E 56), .ref (eA E 57), .ref (eA E 12)])) := rfl
theorem xe_50 (E : En) (q : QS) : (wX E q)[50]? = some (eA E 50, .inl (E.2.1 0, (qC q), .inl (qI q 50))) := rfl
theorem xs_50 (E : En) (q : QS) : ∀ (j : Nat) (x : Int32), (wX E q).set 50 (eA E 50, .inl (E.2.1 0, (qC q), .inl (upd (qI q 50) j x))) = wX E (uI q 50 j x) := fun _ _ => rfl
theorem xe_51 (E : En) (q : QS) : (wX E q)[51]? = some (eA E 51, .inl (E.2.1 0, (qC q), .inl (qI q 51))) := rfl
theorem xs_51 (E : En) (q : QS) : ∀ (j : Nat) (x : Int32), (wX E q).set 51 (eA E 51, .inl (E.2.1 0, (qC q), .inl (upd (qI q 51) j x))) = wX E (uI q 51 j x) := fun _ _ => rfl
theorem xe_52 (E : En) (q : QS) : (wX E q)[52]? = some (eA E 52, .inl (E.2.1 0, (qC q), .inl (qI q 52))) := rfl
theorem xs_52 (E : En) (q : QS) : ∀ (j : Nat) (x : Int32), (wX E q).set 52 (eA E 52, .inl (E.2.1 0, (qC q), .inl (upd (qI q 52) j x))) = wX E (uI q 52 j x) := fun _ _ => rfl
theorem xe_53 (E : En) (q : QS) : (wX E q)[53]? = some (eA E 53, .inl (E.2.1 0, (qC q), .inl (qI q 53))) := rfl
theorem xs_53 (E : En) (q : QS) : ∀ (j : Nat) (x : Int32), (wX E q).set 53 (eA E 53, .inl (E.2.1 0, (qC q), .inl (upd (qI q 53) j x))) = wX E (uI q 53 j x) := fun _ _ => rfl
theorem xe_54 (E : En) (q : QS) : (wX E q)[54]? = some (eA E 54, .inl (E.2.1 0, (qC q), .inl (qI q 54))) := rfl
theorem xs_54 (E : En) (q : QS) : ∀ (j : Nat) (x : Int32), (wX E q).set 54 (eA E 54, .inl (E.2.1 0, (qC q), .inl (upd (qI q 54) j x))) = wX E (uI q 54 j x) := fun _ _ => rfl
theorem xe_55 (E : En) (q : QS) : (wX E q)[55]? = some (eA E 55, .inl (E.2.1 0, (qC q), .inl (qI q 55))) := rfl
theorem xs_55 (E : En) (q : QS) : ∀ (j : Nat) (x : Int32), (wX E q).set 55 (eA E 55, .inl (E.2.1 0, (qC q), .inl (upd (qI q 55) j x))) = wX E (uI q 55 j x) := fun _ _ => rfl
theorem xe_56 (E : En) (q : QS) : (wX E q)[56]? = some (eA E 56, .inl (E.2.1 0, (qC q), .inl (qI q 56))) := rfl
theorem xs_56 (E : En) (q : QS) : ∀ (j : Nat) (x : Int32), (wX E q).set 56 (eA E 56, .inl (E.2.1 0, (qC q), .inl (upd (qI q 56) j x))) = wX E (uI q 56 j x) := fun _ _ => rfl
theorem xe_57 (E : En) (q : QS) : (wX E q)[57]? = some (eA E 57, .inl (E.2.1 0, (qC q), .inl (qI q 57))) := rfl
theorem xs_57 (E : En) (q : QS) : ∀ (j : Nat) (x : Int32), (wX E q).set 57 (eA E 57, .inl (E.2.1 0, (qC q), .inl (upd (qI q 57) j x))) = wX E (uI q 57 j x) := fun _ _ => rfl
def vN (q : QS) (v : Nat) : Nat := match v with | 0 => 8 | 1 => 960 | 2 => 200 | 3 => 512 | _ => qC q * 8
theorem xvO {v : Nat} (hv : v < 5) (E : En) (q : QS) : (wX E q)[3 * v]? = some (eA E (3 * v), .inr (8, [.ref (eA E (3 * v + 1)), .ref (eA E (3 * v + 2))])) := by
  match v, hv with
  | 0, _ => rfl
  | 1, _ => rfl
  | 2, _ => rfl
  | 3, _ => rfl
  | 4, _ => rfl
theorem xvK {v : Nat} (hv : v < 5) (E : En) (q : QS) : (wX E q)[3 * v + 1]? = some (eA E (3 * v + 1), .inl (E.2.1 0, vN q v, .inl (qI q (3 * v + 1)))) := by
  match v, hv with
  | 0, _ => rfl
  | 1, _ => rfl
  | 2, _ => rfl
  | 3, _ => rfl
  | 4, _ => rfl
theorem xvW {v : Nat} (hv : v < 5) (E : En) (q : QS) : (wX E q)[3 * v + 2]? = some (eA E (3 * v + 2), .inl (E.2.1 1, vN q v * 4, .inr (.inl (qL q (3 * v + 2))))) := by
  match v, hv with
  | 0, _ => rfl
  | 1, _ => rfl
  | 2, _ => rfl
  | 3, _ => rfl
  | 4, _ => rfl
theorem xvKs {v : Nat} (hv : v < 5) (E : En) (q : QS) : ∀ (j : Nat) (x : Int32), (wX E q).set (3 * v + 1) (eA E (3 * v + 1), .inl (E.2.1 0, vN q v, .inl (upd (qI q (3 * v + 1)) j x))) = wX E (uI q (3 * v + 1) j x) := by
  match v, hv with
  | 0, _ => exact fun _ _ => rfl
  | 1, _ => exact fun _ _ => rfl
  | 2, _ => exact fun _ _ => rfl
  | 3, _ => exact fun _ _ => rfl
  | 4, _ => exact fun _ _ => rfl
theorem xvWs {v : Nat} (hv : v < 5) (E : En) (q : QS) : ∀ (j : Nat) (x : Int64), (wX E q).set (3 * v + 2) (eA E (3 * v + 2), .inl (E.2.1 1, vN q v * 4, .inr (.inl (vp_updL (qL q (3 * v + 2)) j x)))) = wX E (uL q (3 * v + 2) j x) := by
  match v, hv with
  | 0, _ => exact fun _ _ => rfl
  | 1, _ => exact fun _ _ => rfl
  | 2, _ => exact fun _ _ => rfl
  | 3, _ => exact fun _ _ => rfl
  | 4, _ => exact fun _ _ => rfl
theorem xpO {v : Nat} (hv : v < 3) (E : En) (q : QS) : (wX E q)[15 + 3 * v]? = some (eA E (15 + 3 * v), .inr (3, [.ref (eA E (16 + 3 * v)), .ref (eA E (17 + 3 * v)), .int (qF q (3 + v))])) := by
  match v, hv with
  | 0, _ => rfl
  | 1, _ => rfl
  | 2, _ => rfl
theorem xpN {v : Nat} (hv : v < 3) (E : En) (q : QS) : (wX E q)[16 + 3 * v]? = some (eA E (16 + 3 * v), .inl (E.2.1 2, 200, .inl (qI q (16 + 3 * v)))) := by
  match v, hv with
  | 0, _ => rfl
  | 1, _ => rfl
  | 2, _ => rfl
theorem xpS {v : Nat} (hv : v < 3) (E : En) (q : QS) : (wX E q)[17 + 3 * v]? = some (eA E (17 + 3 * v), .inl (E.2.1 0, 200, .inl (qI q (17 + 3 * v)))) := by
  match v, hv with
  | 0, _ => rfl
  | 1, _ => rfl
  | 2, _ => rfl
theorem xpNs {v : Nat} (hv : v < 3) (E : En) (q : QS) : ∀ (j : Nat) (x : Int32), (wX E q).set (16 + 3 * v) (eA E (16 + 3 * v), .inl (E.2.1 2, 200, .inl (upd (qI q (16 + 3 * v)) j x))) = wX E (uI q (16 + 3 * v) j x) := by
  match v, hv with
  | 0, _ => exact fun _ _ => rfl
  | 1, _ => exact fun _ _ => rfl
  | 2, _ => exact fun _ _ => rfl
theorem xpSs {v : Nat} (hv : v < 3) (E : En) (q : QS) : ∀ (j : Nat) (x : Int32), (wX E q).set (17 + 3 * v) (eA E (17 + 3 * v), .inl (E.2.1 0, 200, .inl (upd (qI q (17 + 3 * v)) j x))) = wX E (uI q (17 + 3 * v) j x) := by
  match v, hv with
  | 0, _ => exact fun _ _ => rfl
  | 1, _ => exact fun _ _ => rfl
  | 2, _ => exact fun _ _ => rfl
theorem xpF {v : Nat} (hv : v < 3) (E : En) (q : QS) : ∀ x : Int32, (wX E q).set (15 + 3 * v) (eA E (15 + 3 * v), .inr (3, [.ref (eA E (16 + 3 * v)), .ref (eA E (17 + 3 * v)), .int x])) = wX E (uF q (3 + v) x) := by
  match v, hv with
  | 0, _ => exact fun _ => rfl
  | 1, _ => exact fun _ => rfl
  | 2, _ => exact fun _ => rfl
theorem i_X0 : ∀ w ∈ u_ws RX0 TX0 3, w ∈ lwG := by
  intro w hw
  obtain ⟨k, hk, rfl⟩ := List.mem_map.mp hw
  have hk := List.mem_range.mp hk
  match k, hk with
  | 0, _ => exact mg 256 (by decide +kernel) (by decide +kernel)
  | 1, _ => exact mg 258 (by decide +kernel) (by decide +kernel)
  | 2, _ => exact mg 260 (by decide +kernel) (by decide +kernel)
theorem i_X1 : ∀ w ∈ u_ws RX1 TX1 4, w ∈ lwG := by
  intro w hw
  obtain ⟨k, hk, rfl⟩ := List.mem_map.mp hw
  have hk := List.mem_range.mp hk
  match k, hk with
  | 0, _ => exact mg 299 (by decide +kernel) (by decide +kernel)
  | 1, _ => exact mg 301 (by decide +kernel) (by decide +kernel)
  | 2, _ => exact mg 303 (by decide +kernel) (by decide +kernel)
  | 3, _ => exact mg 305 (by decide +kernel) (by decide +kernel)
theorem i_X2 : ∀ w ∈ u_ws RX2 TX2 10, w ∈ lwG := by
  intro w hw
  obtain ⟨k, hk, rfl⟩ := List.mem_map.mp hw
  have hk := List.mem_range.mp hk
  match k, hk with
  | 0, _ => exact mg 167 (by decide +kernel) (by decide +kernel)
  | 1, _ => exact mg 169 (by decide +kernel) (by decide +kernel)
  | 2, _ => exact mg 171 (by decide +kernel) (by decide +kernel)
  | 3, _ => exact mg 173 (by decide +kernel) (by decide +kernel)
  | 4, _ => exact mg 175 (by decide +kernel) (by decide +kernel)
  | 5, _ => exact mg 177 (by decide +kernel) (by decide +kernel)
  | 6, _ => exact mg 179 (by decide +kernel) (by decide +kernel)
  | 7, _ => exact mg 181 (by decide +kernel) (by decide +kernel)
  | 8, _ => exact mg 183 (by decide +kernel) (by decide +kernel)
  | 9, _ => exact mg 185 (by decide +kernel) (by decide +kernel)
theorem i_X3 : ∀ w ∈ u_ws RX3 TX3 3, w ∈ lwG := by
  intro w hw
  obtain ⟨k, hk, rfl⟩ := List.mem_map.mp hw
  have hk := List.mem_range.mp hk
  match k, hk with
  | 0, _ => exact mg 282 (by decide +kernel) (by decide +kernel)
  | 1, _ => exact mg 284 (by decide +kernel) (by decide +kernel)
  | 2, _ => exact mg 286 (by decide +kernel) (by decide +kernel)
theorem i_X4 : ∀ w ∈ u_ws RX4 TX4 11, w ∈ lwG := by
  intro w hw
  obtain ⟨k, hk, rfl⟩ := List.mem_map.mp hw
  have hk := List.mem_range.mp hk
  match k, hk with
  | 0, _ => exact mg 220 (by decide +kernel) (by decide +kernel)
  | 1, _ => exact mg 222 (by decide +kernel) (by decide +kernel)
  | 2, _ => exact mg 224 (by decide +kernel) (by decide +kernel)
  | 3, _ => exact mg 226 (by decide +kernel) (by decide +kernel)
  | 4, _ => exact mg 228 (by decide +kernel) (by decide +kernel)
  | 5, _ => exact mg 230 (by decide +kernel) (by decide +kernel)
  | 6, _ => exact mg 232 (by decide +kernel) (by decide +kernel)
  | 7, _ => exact mg 234 (by decide +kernel) (by decide +kernel)
  | 8, _ => exact mg 236 (by decide +kernel) (by decide +kernel)
  | 9, _ => exact mg 238 (by decide +kernel) (by decide +kernel)
  | 10, _ => exact mg 240 (by decide +kernel) (by decide +kernel)
theorem i_X5 : ∀ w ∈ u_ws RX5 TX5 10, w ∈ lwG := by
  intro w hw
  obtain ⟨k, hk, rfl⟩ := List.mem_map.mp hw
  have hk := List.mem_range.mp hk
  match k, hk with
  | 0, _ => exact mg 337 (by decide +kernel) (by decide +kernel)
  | 1, _ => exact mg 339 (by decide +kernel) (by decide +kernel)
  | 2, _ => exact mg 341 (by decide +kernel) (by decide +kernel)
  | 3, _ => exact mg 343 (by decide +kernel) (by decide +kernel)
  | 4, _ => exact mg 345 (by decide +kernel) (by decide +kernel)
  | 5, _ => exact mg 347 (by decide +kernel) (by decide +kernel)
  | 6, _ => exact mg 349 (by decide +kernel) (by decide +kernel)
  | 7, _ => exact mg 351 (by decide +kernel) (by decide +kernel)
  | 8, _ => exact mg 353 (by decide +kernel) (by decide +kernel)
  | 9, _ => exact mg 355 (by decide +kernel) (by decide +kernel)
theorem i_X6 : ∀ w ∈ u_ws RX6 TX6 10, w ∈ lwG := by
  intro w hw
  obtain ⟨k, hk, rfl⟩ := List.mem_map.mp hw
  have hk := List.mem_range.mp hk
  match k, hk with
  | 0, _ => exact mg 369 (by decide +kernel) (by decide +kernel)
  | 1, _ => exact mg 371 (by decide +kernel) (by decide +kernel)
  | 2, _ => exact mg 373 (by decide +kernel) (by decide +kernel)
  | 3, _ => exact mg 375 (by decide +kernel) (by decide +kernel)
  | 4, _ => exact mg 377 (by decide +kernel) (by decide +kernel)
  | 5, _ => exact mg 379 (by decide +kernel) (by decide +kernel)
  | 6, _ => exact mg 381 (by decide +kernel) (by decide +kernel)
  | 7, _ => exact mg 383 (by decide +kernel) (by decide +kernel)
  | 8, _ => exact mg 385 (by decide +kernel) (by decide +kernel)
  | 9, _ => exact mg 387 (by decide +kernel) (by decide +kernel)
theorem i_X7 : ∀ w ∈ u_ws RX7 TX7 5, w ∈ lwG := by
  intro w hw
  obtain ⟨k, hk, rfl⟩ := List.mem_map.mp hw
  have hk := List.mem_range.mp hk
  match k, hk with
  | 0, _ => exact mg 118 (by decide +kernel) (by decide +kernel)
  | 1, _ => exact mg 120 (by decide +kernel) (by decide +kernel)
  | 2, _ => exact mg 122 (by decide +kernel) (by decide +kernel)
  | 3, _ => exact mg 124 (by decide +kernel) (by decide +kernel)
  | 4, _ => exact mg 126 (by decide +kernel) (by decide +kernel)
theorem i_X8 : ∀ w ∈ u_ws RX8 TX8 2, w ∈ lwG := by
  intro w hw
  obtain ⟨k, hk, rfl⟩ := List.mem_map.mp hw
  have hk := List.mem_range.mp hk
  match k, hk with
  | 0, _ => exact mg 95 (by decide +kernel) (by decide +kernel)
  | 1, _ => exact mg 97 (by decide +kernel) (by decide +kernel)
theorem i_X9 : ∀ w ∈ u_ws RX9 TX9 6, w ∈ lwG := by
  intro w hw
  obtain ⟨k, hk, rfl⟩ := List.mem_map.mp hw
  have hk := List.mem_range.mp hk
  match k, hk with
  | 0, _ => exact mg 396 (by decide +kernel) (by decide +kernel)
  | 1, _ => exact mg 398 (by decide +kernel) (by decide +kernel)
  | 2, _ => exact mg 400 (by decide +kernel) (by decide +kernel)
  | 3, _ => exact mg 402 (by decide +kernel) (by decide +kernel)
  | 4, _ => exact mg 404 (by decide +kernel) (by decide +kernel)
  | 5, _ => exact mg 406 (by decide +kernel) (by decide +kernel)
theorem i_X10 : ∀ w ∈ u_ws RX10 TX10 54, w ∈ lwG := by
  intro w hw
  obtain ⟨k, hk, rfl⟩ := List.mem_map.mp hw
  have hk := List.mem_range.mp hk
  match k, hk with
  | 0, _ => exact mg 998 (by decide +kernel) (by decide +kernel)
  | 1, _ => exact mg 1000 (by decide +kernel) (by decide +kernel)
  | 2, _ => exact mg 1002 (by decide +kernel) (by decide +kernel)
  | 3, _ => exact mg 1004 (by decide +kernel) (by decide +kernel)
  | 4, _ => exact mg 1006 (by decide +kernel) (by decide +kernel)
  | 5, _ => exact mg 1008 (by decide +kernel) (by decide +kernel)
  | 6, _ => exact mg 1010 (by decide +kernel) (by decide +kernel)
  | 7, _ => exact mg 1012 (by decide +kernel) (by decide +kernel)
  | 8, _ => exact mg 1014 (by decide +kernel) (by decide +kernel)
  | 9, _ => exact mg 1016 (by decide +kernel) (by decide +kernel)
  | 10, _ => exact mg 1018 (by decide +kernel) (by decide +kernel)
  | 11, _ => exact mg 1020 (by decide +kernel) (by decide +kernel)
  | 12, _ => exact mg 1022 (by decide +kernel) (by decide +kernel)
  | 13, _ => exact mg 1024 (by decide +kernel) (by decide +kernel)
  | 14, _ => exact mg 1026 (by decide +kernel) (by decide +kernel)
  | 15, _ => exact mg 1028 (by decide +kernel) (by decide +kernel)
  | 16, _ => exact mg 1030 (by decide +kernel) (by decide +kernel)
  | 17, _ => exact mg 1032 (by decide +kernel) (by decide +kernel)
  | 18, _ => exact mg 1034 (by decide +kernel) (by decide +kernel)
  | 19, _ => exact mg 1036 (by decide +kernel) (by decide +kernel)
  | 20, _ => exact mg 1038 (by decide +kernel) (by decide +kernel)
  | 21, _ => exact mg 1040 (by decide +kernel) (by decide +kernel)
  | 22, _ => exact mg 1042 (by decide +kernel) (by decide +kernel)
  | 23, _ => exact mg 1044 (by decide +kernel) (by decide +kernel)
  | 24, _ => exact mg 1046 (by decide +kernel) (by decide +kernel)
  | 25, _ => exact mg 1048 (by decide +kernel) (by decide +kernel)
  | 26, _ => exact mg 1050 (by decide +kernel) (by decide +kernel)
  | 27, _ => exact mg 1052 (by decide +kernel) (by decide +kernel)
  | 28, _ => exact mg 1054 (by decide +kernel) (by decide +kernel)
  | 29, _ => exact mg 1056 (by decide +kernel) (by decide +kernel)
  | 30, _ => exact mg 1058 (by decide +kernel) (by decide +kernel)
  | 31, _ => exact mg 1060 (by decide +kernel) (by decide +kernel)
  | 32, _ => exact mg 1062 (by decide +kernel) (by decide +kernel)
  | 33, _ => exact mg 1064 (by decide +kernel) (by decide +kernel)
  | 34, _ => exact mg 1066 (by decide +kernel) (by decide +kernel)
  | 35, _ => exact mg 1068 (by decide +kernel) (by decide +kernel)
  | 36, _ => exact mg 1070 (by decide +kernel) (by decide +kernel)
  | 37, _ => exact mg 1072 (by decide +kernel) (by decide +kernel)
  | 38, _ => exact mg 1074 (by decide +kernel) (by decide +kernel)
  | 39, _ => exact mg 1076 (by decide +kernel) (by decide +kernel)
  | 40, _ => exact mg 1078 (by decide +kernel) (by decide +kernel)
  | 41, _ => exact mg 1080 (by decide +kernel) (by decide +kernel)
  | 42, _ => exact mg 1082 (by decide +kernel) (by decide +kernel)
  | 43, _ => exact mg 1084 (by decide +kernel) (by decide +kernel)
  | 44, _ => exact mg 1086 (by decide +kernel) (by decide +kernel)
  | 45, _ => exact mg 1088 (by decide +kernel) (by decide +kernel)
  | 46, _ => exact mg 1090 (by decide +kernel) (by decide +kernel)
  | 47, _ => exact mg 1092 (by decide +kernel) (by decide +kernel)
  | 48, _ => exact mg 1094 (by decide +kernel) (by decide +kernel)
  | 49, _ => exact mg 1096 (by decide +kernel) (by decide +kernel)
  | 50, _ => exact mg 1098 (by decide +kernel) (by decide +kernel)
  | 51, _ => exact mg 1100 (by decide +kernel) (by decide +kernel)
  | 52, _ => exact mg 1102 (by decide +kernel) (by decide +kernel)
  | 53, _ => exact mg 1104 (by decide +kernel) (by decide +kernel)
  | k + 54, h => exact absurd h (by omega)
