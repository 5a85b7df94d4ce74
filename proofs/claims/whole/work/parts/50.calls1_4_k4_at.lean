abbrev r4_at : Room := { frames := 2, cells := 0, slots := 0, locals := 45 }
set_option maxHeartbeats 4000000 in
set_option maxRecDepth 100000 in
theorem k4_at (l : Launch) (D : va_G) (cs : Nat → ClassId) (ha : Nat → Nat) (hn : Nat → Nat) (ht : Nat → Nat) (hh : Nat → Nat) (hs : Nat → Nat) (nO : Nat → Bool) (nG : Int → Int) (nF : Int → Int) (nE : Int → Int) (nZ : Int → Int) (nP : Int → Int) (nR : Int → Int) (nC : Int → Int) (nT : Int → Nat → Bool) (room : Int) (hour : Int) (hB : IBG nG nF nE nZ nP nR nC) (g_room : -2147483648 ≤ room ∧ room ≤ 2147483647) (g_hour : -2147483648 ≤ hour ∧ hour ≤ 2147483647) : CI l D cs yX4_at cX4_at 4 .int r4_at 0 0 [.ref (ha 0), .int (iI room), .int (iI hour)] (wX ha hn ht hh hs ++ (wB hn cs nO nG nF nE nZ nP nR nC nT)) (wX ha hn ht hh hs ++ (wB hn cs nO nG nF nE nZ nP nR nC nT)) (iI (iif ((0 ≤ room ∧ room ≤ 7) ∧ 0 ≤ hour ∧ hour ≤ 47) (iif ((bTalkIn nF nE nP room hour) = -1) (-1000004) (bTalkIn nF nE nP room hour)) (-1000001))) := by
  refine CI_start (own := RX4) (by decide) rfl rfl (Nat.le_of_ble_eq_true rfl) ?_
  intro p e s m args below meth c Q A ls hC hl hP hD hA hS hend
  have hl : lv_has ls 4 [(0, .ref (ha 0)), (1, .int (iI room)), (2, .int (iI hour))] := hl
  obtain ⟨H, hH⟩ : ∃ H : Heap, H = s.heap := ⟨_, rfl⟩
  have hS : va_S A s.heap H [] := by rw [hH]; exact hS
  rw [← hH] at hP
  obtain ⟨locs, hlocs⟩ : ∃ locs : List Loc, locs = [] := ⟨_, rfl⟩
  rw [← hlocs] at hS
  suffices hgo : W p l e r4_at s m args below meth c H locs 0 0 Q (F0 m 0 ls []) by rw [← hH, ← hlocs]; exact hgo
  clear hH hlocs
  have qB := hB.1
  have q12 := hB.2.1
  have q8 := hB.2.2
  refine x_il hC hl 1 dX4_at_0 rfl rfl ?_
  refine x_sI (As := [.int (iI room)]) hC (k4_isRoom l D cs room (by first | assumption | omega)) lk4_75 (sub_none hP hD hS hA) hP hS rfl hl.1 rfl (Nat.le_of_ble_eq_true rfl) ⟨rfl, rfl⟩ ⟨Nat.le_of_ble_eq_true rfl, Nat.le_of_ble_eq_true rfl⟩ ⟨Nat.le_of_ble_eq_true rfl, Nat.le_of_ble_eq_true rfl⟩ dX4_at_1 (fun H locs hP hD hS hHs => ?_)
  refine x_if_eq_b hC 14 dX4_at_4 (by decide) (fun c_4 => ?_) (fun c_4 => ?_)
  · refine x_ldc hC (-1000001) tb_381 (by decide) dX4_at_14 ?_
    exact x_retI (congrArg iI (by first | exact (iif_f (fun h => c_11 h.2)).symm | exact (iif_f (fun h => c_4 h.1)).symm : (-1000001) = iif ((0 ≤ room ∧ room ≤ 7) ∧ 0 ≤ hour ∧ hour ≤ 47) (iif ((bTalkIn nF nE nP room hour) = -1) (-1000004) (bTalkIn nF nE nP room hour)) (-1000001))) hend hP hD hS dX4_at_16
  · refine x_il hC hl 2 dX4_at_7 rfl rfl ?_
    refine x_sI (As := [.int (iI hour)]) hC (k4_isHour l D cs hour (by first | assumption | omega)) lk4_79 (sub_none hP hD hS hA) hP hS rfl hl.1 rfl (Nat.le_of_ble_eq_true rfl) ⟨rfl, rfl⟩ ⟨Nat.le_of_ble_eq_true rfl, Nat.le_of_ble_eq_true rfl⟩ ⟨Nat.le_of_ble_eq_true rfl, Nat.le_of_ble_eq_true rfl⟩ dX4_at_8 (fun H locs hP hD hS hHs => ?_)
    refine x_if_ne_b hC 17 dX4_at_11 (by decide) (fun c_11 => ?_) (fun c_11 => ?_)
    · refine x_al hC hl 0 dX4_at_17 rfl rfl ?_
      refine x_get4 (v := .ref (hn 0)) hC hP 0 rfl 0 (by decide) tb_201 rfl rfl dX4_at_18 ?_
      refine x_il hC hl 1 dX4_at_21 rfl rfl ?_
      refine x_il hC hl 2 dX4_at_22 rfl rfl ?_
      refine x_vI (As := [.int (iI room), .int (iI hour)]) hC (k0_talkIn l D cs hn nO nG nF nE nZ nP nR nC nT room hour (by first | assumption | omega) (by first | assumption | omega) (by first | assumption | omega)) lk4_82 (q0 := 1) (ci := 0) rfl rfl rfl (sub_par0 (ws' := wX ha hn ht hh hs ++ (wB hn cs nO nG nF nE nZ nP nR nC nT)) [1, 2, 3, 4, 5, 6, 7, 8] [0] hP hD hS hA rfl rfl (by decide) rfl rfl rfl) hP hS rfl hl.1 rfl (Nat.le_of_ble_eq_true rfl) ⟨rfl, rfl⟩ ⟨Nat.le_of_ble_eq_true rfl, Nat.le_of_ble_eq_true rfl⟩ ⟨Nat.le_of_ble_eq_true rfl, Nat.le_of_ble_eq_true rfl⟩ dX4_at_23 (fun H locs hP hD hS hHs => ?_)
      have qti := fstI_rg (fun t => nP t = room ∧ bTk nF nE nP t hour) (-1) (20 - (0 : Int)).toNat 0
      have qt2 : -1 ≤ (bTalkIn nF nE nP room hour) ∧ (bTalkIn nF nE nP room hour) < 20 := by unfold bTalkIn; omega
      refine x_is hC [(3, .int (iI (bTalkIn nF nE nP room hour))), (0, .ref (ha 0)), (1, .int (iI room)), (2, .int (iI hour))] hl dX4_at_26 rfl (by decide) rfl (fun ls hl => ?_)
      refine x_il hC hl 0 dX4_at_27 rfl rfl ?_
      refine x_ic hC dX4_at_28 ?_
      refine x_ic_ne hC 37 dX4_at_29 (by decide) (by omega) (by omega) (fun c_29 => ?_) (fun c_29 => ?_)
      · refine x_il hC hl 0 dX4_at_37 rfl rfl ?_
        exact x_retI (congrArg iI (by rw [iif_t ⟨c_4, c_11⟩]; first | exact (iif_t c_29).symm | exact (iif_f c_29).symm : bTalkIn nF nE nP room hour = iif ((0 ≤ room ∧ room ≤ 7) ∧ 0 ≤ hour ∧ hour ≤ 47) (iif ((bTalkIn nF nE nP room hour) = -1) (-1000004) (bTalkIn nF nE nP room hour)) (-1000001))) hend hP hD hS dX4_at_38
      · refine x_ldc hC (-1000004) tb_434 (by decide) dX4_at_32 ?_
        refine x_goto hC 38 dX4_at_34 (by decide) ?_
        exact x_retI (congrArg iI (by rw [iif_t ⟨c_4, c_11⟩]; first | exact (iif_t c_29).symm | exact (iif_f c_29).symm : (-1000004) = iif ((0 ≤ room ∧ room ≤ 7) ∧ 0 ≤ hour ∧ hour ≤ 47) (iif ((bTalkIn nF nE nP room hour) = -1) (-1000004) (bTalkIn nF nE nP room hour)) (-1000001))) hend hP hD hS dX4_at_38
    · refine x_ldc hC (-1000001) tb_381 (by decide) dX4_at_14 ?_
      exact x_retI (congrArg iI (by first | exact (iif_f (fun h => c_11 h.2)).symm | exact (iif_f (fun h => c_4 h.1)).symm : (-1000001) = iif ((0 ≤ room ∧ room ≤ 7) ∧ 0 ≤ hour ∧ hour ≤ 47) (iif ((bTalkIn nF nE nP room hour) = -1) (-1000004) (bTalkIn nF nE nP room hour)) (-1000001))) hend hP hD hS dX4_at_16
