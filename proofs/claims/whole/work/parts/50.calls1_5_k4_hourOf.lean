abbrev r4_hourOf : Room := { frames := 2, cells := 0, slots := 0, locals := 45 }
set_option maxHeartbeats 4000000 in
set_option maxRecDepth 100000 in
theorem k4_hourOf (l : Launch) (D : va_G) (cs : Nat → ClassId) (ha : Nat → Nat) (hn : Nat → Nat) (ht : Nat → Nat) (hh : Nat → Nat) (hs : Nat → Nat) (nO : Nat → Bool) (nG : Int → Int) (nF : Int → Int) (nE : Int → Int) (nZ : Int → Int) (nP : Int → Int) (nR : Int → Int) (nC : Int → Int) (nT : Int → Nat → Bool) (hour : Int) (what : Int) (hB : IBG nG nF nE nZ nP nR nC) (g_hour : -2147483648 ≤ hour ∧ hour ≤ 2147483647) (g_what : -2147483648 ≤ what ∧ what ≤ 2147483647) : CI l D cs yX4_hourOf cX4_hourOf 3 .int r4_hourOf 0 0 [.ref (ha 0), .int (iI hour), .int (iI what)] (wX ha hn ht hh hs ++ (wB hn cs nO nG nF nE nZ nP nR nC nT)) (wX ha hn ht hh hs ++ (wB hn cs nO nG nF nE nZ nP nR nC nT)) (iif (0 ≤ hour ∧ hour ≤ 47) (iif (what = 0) (iI (bAt nF nE nP hour 20)) (iif (what = 1) (mskI (fun t => nO t.toNat = true ∧ ¬ nT t hour.toNat = true) 8) (iI (-1000001)))) (iI (-1000001))) := by
  refine CI_start (own := RX4) (by decide) rfl rfl (Nat.le_of_ble_eq_true rfl) ?_
  intro p e s m args below meth c Q A ls hC hl hP hD hA hS hend
  have hl : lv_has ls 3 [(0, .ref (ha 0)), (1, .int (iI hour)), (2, .int (iI what))] := hl
  obtain ⟨H, hH⟩ : ∃ H : Heap, H = s.heap := ⟨_, rfl⟩
  have hS : va_S A s.heap H [] := by rw [hH]; exact hS
  rw [← hH] at hP
  obtain ⟨locs, hlocs⟩ : ∃ locs : List Loc, locs = [] := ⟨_, rfl⟩
  rw [← hlocs] at hS
  suffices hgo : W p l e r4_hourOf s m args below meth c H locs 0 0 Q (F0 m 0 ls []) by rw [← hH, ← hlocs]; exact hgo
  clear hH hlocs
  have qB := hB.1
  have q12 := hB.2.1
  have q8 := hB.2.2
  refine x_il hC hl 1 dX4_hourOf_0 rfl rfl ?_
  refine x_sI (As := [.int (iI hour)]) hC (k4_isHour l D cs hour (by first | assumption | omega)) lk4_79 (sub_none hP hD hS hA) hP hS rfl hl.1 rfl (Nat.le_of_ble_eq_true rfl) ⟨rfl, rfl⟩ ⟨Nat.le_of_ble_eq_true rfl, Nat.le_of_ble_eq_true rfl⟩ ⟨Nat.le_of_ble_eq_true rfl, Nat.le_of_ble_eq_true rfl⟩ dX4_hourOf_1 (fun H locs hP hD hS hHs => ?_)
  refine x_if_ne_b hC 10 dX4_hourOf_4 (by decide) (fun c_4 => ?_) (fun c_4 => ?_)
  · refine x_il hC hl 2 dX4_hourOf_10 rfl rfl ?_
    by_cases c_11_0 : what = 0
    · refine x_look (off := 25) hC 36 dX4_hourOf_11 rfl (by rw [c_11_0]; omega) (by rw [c_11_0]; first | done | rfl) (by decide) ?_
      refine x_al hC hl 0 dX4_hourOf_36 rfl rfl ?_
      refine x_get4 (v := .ref (hn 0)) hC hP 0 rfl 0 (by decide) tb_201 rfl rfl dX4_hourOf_37 ?_
      refine x_il hC hl 1 dX4_hourOf_40 rfl rfl ?_
      refine x_vI (As := [.int (iI hour)]) hC (k0_talksAt l D cs hn nO nG nF nE nZ nP nR nC nT hour (by first | assumption | omega) (by first | assumption | omega)) lk4_86 (q0 := 1) (ci := 0) rfl rfl rfl (sub_par0 (ws' := wX ha hn ht hh hs ++ (wB hn cs nO nG nF nE nZ nP nR nC nT)) [1, 2, 3, 4, 5, 6, 7, 8] [0] hP hD hS hA rfl rfl (by decide) rfl rfl rfl) hP hS rfl hl.1 rfl (Nat.le_of_ble_eq_true rfl) ⟨rfl, rfl⟩ ⟨Nat.le_of_ble_eq_true rfl, Nat.le_of_ble_eq_true rfl⟩ ⟨Nat.le_of_ble_eq_true rfl, Nat.le_of_ble_eq_true rfl⟩ dX4_hourOf_41 (fun H locs hP hD hS hHs => ?_)
      have q_41 := bAt_rg nF nE nP hour (n := 20) (by omega)
      exact x_retI ((by rw [iif_t c_4]; first | (rw [iif_t (by omega)]; done) | (rw [iif_f (by omega), iif_t (by omega)]; done) | (rw [iif_f (by omega), iif_f (by omega)]; done) : iI (bAt nF nE nP hour 20) = iif (0 ≤ hour ∧ hour ≤ 47) (iif (what = 0) (iI (bAt nF nE nP hour 20)) (iif (what = 1) (mskI (fun t => nO t.toNat = true ∧ ¬ nT t hour.toNat = true) 8) (iI (-1000001)))) (iI (-1000001)))) hend hP hD hS dX4_hourOf_44
    by_cases c_11_1 : what = 1
    · refine x_look (off := 34) hC 45 dX4_hourOf_11 rfl (by rw [c_11_1]; omega) (by rw [c_11_1]; first | done | rfl) (by decide) ?_
      refine x_al hC hl 0 dX4_hourOf_45 rfl rfl ?_
      refine x_get4 (v := .ref (hn 0)) hC hP 0 rfl 0 (by decide) tb_201 rfl rfl dX4_hourOf_46 ?_
      refine x_il hC hl 1 dX4_hourOf_49 rfl rfl ?_
      refine x_vI (As := [.int (iI hour)]) hC (k0_freeRoomsAt l D cs hn nO nG nF nE nZ nP nR nC nT hour (by first | assumption | omega) (by first | assumption | omega)) lk4_89 (q0 := 1) (ci := 0) rfl rfl rfl (sub_par0 (ws' := wX ha hn ht hh hs ++ (wB hn cs nO nG nF nE nZ nP nR nC nT)) [1, 2, 3, 4, 5, 6, 7, 8] [0] hP hD hS hA rfl rfl (by decide) rfl rfl rfl) hP hS rfl hl.1 rfl (Nat.le_of_ble_eq_true rfl) ⟨rfl, rfl⟩ ⟨Nat.le_of_ble_eq_true rfl, Nat.le_of_ble_eq_true rfl⟩ ⟨Nat.le_of_ble_eq_true rfl, Nat.le_of_ble_eq_true rfl⟩ dX4_hourOf_50 (fun H locs hP hD hS hHs => ?_)
      exact x_retI ((by rw [iif_t c_4]; first | (rw [iif_t (by omega)]; done) | (rw [iif_f (by omega), iif_t (by omega)]; done) | (rw [iif_f (by omega), iif_f (by omega)]; done) : mskI (fun t => nO t.toNat = true ∧ ¬ nT t hour.toNat = true) (8) = iif (0 ≤ hour ∧ hour ≤ 47) (iif (what = 0) (iI (bAt nF nE nP hour 20)) (iif (what = 1) (mskI (fun t => nO t.toNat = true ∧ ¬ nT t hour.toNat = true) 8) (iI (-1000001)))) (iI (-1000001)))) hend hP hD hS dX4_hourOf_53
    refine x_look (off := 43) hC 54 dX4_hourOf_11 rfl (by omega) (by simp [Op.lookupswitch.offset]; grind) (by decide) ?_
    refine x_ldc hC (-1000001) tb_381 (by decide) dX4_hourOf_54 ?_
    exact x_retI ((by rw [iif_t c_4]; first | (rw [iif_t (by omega)]; done) | (rw [iif_f (by omega), iif_t (by omega)]; done) | (rw [iif_f (by omega), iif_f (by omega)]; done) : iI (-1000001) = iif (0 ≤ hour ∧ hour ≤ 47) (iif (what = 0) (iI (bAt nF nE nP hour 20)) (iif (what = 1) (mskI (fun t => nO t.toNat = true ∧ ¬ nT t hour.toNat = true) 8) (iI (-1000001)))) (iI (-1000001)))) hend hP hD hS dX4_hourOf_56
  · refine x_ldc hC (-1000001) tb_381 (by decide) dX4_hourOf_7 ?_
    exact x_retI ((by exact (iif_f c_4).symm : iI (-1000001) = iif (0 ≤ hour ∧ hour ≤ 47) (iif (what = 0) (iI (bAt nF nE nP hour 20)) (iif (what = 1) (mskI (fun t => nO t.toNat = true ∧ ¬ nT t hour.toNat = true) 8) (iI (-1000001)))) (iI (-1000001)))) hend hP hD hS dX4_hourOf_9
