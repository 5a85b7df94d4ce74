abbrev r4_couldBeEmptied : Room := { frames := 4, cells := 0, slots := 0, locals := 91 }
set_option maxHeartbeats 4000000 in
set_option maxRecDepth 100000 in
theorem k4_couldBeEmptied (l : Launch) (D : va_G) (cs : Nat → ClassId) (ha : Nat → Nat) (hn : Nat → Nat) (ht : Nat → Nat) (hh : Nat → Nat) (hs : Nat → Nat) (nO : Nat → Bool) (nG : Int → Int) (nF : Int → Int) (nE : Int → Int) (nZ : Int → Int) (nP : Int → Int) (nR : Int → Int) (nC : Int → Int) (nT : Int → Nat → Bool) (tO : Nat → Bool) (tG : Int → Int) (tF : Int → Int) (tE : Int → Int) (tZ : Int → Int) (tP : Int → Int) (tR : Int → Int) (tC : Int → Int) (tT : Int → Nat → Bool) (room : Int) (hB : IBG nG nF nE nZ nP nR nC) (g_room : -2147483648 ≤ room ∧ room ≤ 2147483647) : CI l D cs yX4_couldBeEmptied cX4_couldBeEmptied 2 .boolean r4_couldBeEmptied 0 0 [.ref (ha 0), .int (iI room)] (wX ha hn ht hh hs ++ (wB hn cs nO nG nF nE nZ nP nR nC nT ++ (wB ht cs tO tG tF tE tZ tP tR tC tT))) (wX ha hn ht hh hs ++ (wB hn cs nO nG nF nE nZ nP nR nC nT ++ (wB ht cs (iif (bEmC nT room) (bEmp nF nE nZ nR nC room 20 0 nO nG nP nT).2.1 nO) (iif (bEmC nT room) (bEmp nF nE nZ nR nC room 20 0 nO nG nP nT).2.2.1 nG) nF nE nZ (iif (bEmC nT room) (bEmp nF nE nZ nR nC room 20 0 nO nG nP nT).2.2.2.1 nP) nR nC (iif (bEmC nT room) (bEmp nF nE nZ nR nC room 20 0 nO nG nP nT).2.2.2.2 nT)))) (iI (b2p (bCbE nO nG nF nE nZ nP nR nC nT room))) := by
  refine CI_start (own := RX4) (by decide) rfl b2p_nar (Nat.le_of_ble_eq_true rfl) ?_
  intro p e s m args below meth c Q A ls hC hl hP hD hA hS hend
  have hl : lv_has ls 2 [(0, .ref (ha 0)), (1, .int (iI room))] := hl
  obtain ⟨H, hH⟩ : ∃ H : Heap, H = s.heap := ⟨_, rfl⟩
  have hS : va_S A s.heap H [] := by rw [hH]; exact hS
  rw [← hH] at hP
  obtain ⟨locs, hlocs⟩ : ∃ locs : List Loc, locs = [] := ⟨_, rfl⟩
  rw [← hlocs] at hS
  suffices hgo : W p l e r4_couldBeEmptied s m args below meth c H locs 0 0 Q (F0 m 0 ls []) by rw [← hH, ← hlocs]; exact hgo
  clear hH hlocs
  have qB := hB.1
  have q12 := hB.2.1
  have q8 := hB.2.2
  refine x_al hC hl 0 dX4_couldBeEmptied_0 rfl rfl ?_
  refine x_get4 (v := .ref (ht 0)) hC hP 0 rfl 1 (by decide) tb_202 rfl rfl dX4_couldBeEmptied_1 ?_
  refine x_al hC hl 0 dX4_couldBeEmptied_4 rfl rfl ?_
  refine x_get4 (v := .ref (hn 0)) hC hP 0 rfl 0 (by decide) tb_201 rfl rfl dX4_couldBeEmptied_5 ?_
  refine x_vV (As := [.ref (hn 0)]) hC (k0_copyFrom l D cs ht hn tO tG tF tE tZ tP tR tC tT nO nG nF nE nZ nP nR nC nT ) lk4_33 (q0 := 9) (ci := 0) rfl rfl rfl (sub_par0 (ws' := wX ha hn ht hh hs ++ (wB hn cs nO nG nF nE nZ nP nR nC nT ++ (wB ht cs nO nG nF nE nZ nP nR nC nT))) [9, 10, 11, 12, 13, 14, 15, 16, 1, 2, 3, 4, 5, 6, 7, 8] [0] hP hD hS hA (mapE rfl (mapE rfl (mapE rfl (mapE rfl (mapE rfl (mapE rfl (mapE rfl (mapE rfl (mapE rfl (mapE rfl (mapE rfl (mapE rfl (mapE rfl (mapE rfl (mapE rfl (mapE rfl mapN)))))))))))))))) (mapE rfl (mapE rfl (mapE rfl (mapE rfl (mapE rfl (mapE rfl (mapE rfl (mapE rfl (mapE rfl (mapE rfl (mapE rfl (mapE rfl (mapE rfl (mapE rfl (mapE rfl (mapE rfl mapN)))))))))))))))) (by decide) (lenE 17 rfl rfl) (mapG rfl rfl mapM) rfl) hP hS rfl hl.1 rfl (Nat.le_of_ble_eq_true rfl) ⟨rfl, rfl⟩ ⟨Nat.le_of_ble_eq_true rfl, Nat.le_of_ble_eq_true rfl⟩ ⟨Nat.le_of_ble_eq_true rfl, Nat.le_of_ble_eq_true rfl⟩ dX4_couldBeEmptied_8 (fun H locs hP hD hS hHs => ?_)
  have hP : va_P D vwCl (wX ha hn ht hh hs ++ (wB hn cs nO nG nF nE nZ nP nR nC nT ++ (wB ht cs nO nG nF nE nZ nP nR nC nT))) H := hP
  have hD : va_D A (wX ha hn ht hh hs ++ (wB hn cs nO nG nF nE nZ nP nR nC nT ++ (wB ht cs nO nG nF nE nZ nP nR nC nT))) := hD
  refine x_al hC hl 0 dX4_couldBeEmptied_11 rfl rfl ?_
  refine x_get4 (v := .ref (ht 0)) hC hP 0 rfl 1 (by decide) tb_202 rfl rfl dX4_couldBeEmptied_12 ?_
  refine x_il hC hl 1 dX4_couldBeEmptied_15 rfl rfl ?_
  refine x_vI (As := [.int (iI room)]) hC (k0_emptyOut l D cs ht nO nG nF nE nZ nP nR nC nT room (by first | assumption | omega) (by first | assumption | omega)) lk4_154 (q0 := 9) (ci := 0) rfl rfl rfl (sub_par0 (ws' := wX ha hn ht hh hs ++ (wB hn cs nO nG nF nE nZ nP nR nC nT ++ (wB ht cs (iif (bEmC nT room) (bEmp nF nE nZ nR nC room 20 0 nO nG nP nT).2.1 nO) (iif (bEmC nT room) (bEmp nF nE nZ nR nC room 20 0 nO nG nP nT).2.2.1 nG) nF nE nZ (iif (bEmC nT room) (bEmp nF nE nZ nR nC room 20 0 nO nG nP nT).2.2.2.1 nP) nR nC (iif (bEmC nT room) (bEmp nF nE nZ nR nC room 20 0 nO nG nP nT).2.2.2.2 nT)))) [9, 10, 11, 12, 13, 14, 15, 16] [0, 1, 2, 3, 4, 5, 6, 7, 8] hP hD hS hA (mapE rfl (mapE rfl (mapE rfl (mapE rfl (mapE rfl (mapE rfl (mapE rfl (mapE rfl mapN)))))))) (mapE rfl (mapE rfl (mapE rfl (mapE rfl (mapE rfl (mapE rfl (mapE rfl (mapE rfl mapN)))))))) (by decide) (lenE 17 rfl rfl) (mapG rfl rfl (mapG rfl rfl (mapG rfl rfl (mapG rfl rfl (mapG rfl rfl (mapG rfl rfl (mapG rfl rfl (mapG rfl rfl (mapG rfl rfl mapM))))))))) rfl) hP hS rfl hl.1 rfl (Nat.le_of_ble_eq_true rfl) ⟨rfl, rfl⟩ ⟨Nat.le_of_ble_eq_true rfl, Nat.le_of_ble_eq_true rfl⟩ ⟨Nat.le_of_ble_eq_true rfl, Nat.le_of_ble_eq_true rfl⟩ dX4_couldBeEmptied_16 (fun H locs hP hD hS hHs => ?_)
  have hP : va_P D vwCl (wX ha hn ht hh hs ++ (wB hn cs nO nG nF nE nZ nP nR nC nT ++ (wB ht cs (iif (bEmC nT room) (bEmp nF nE nZ nR nC room 20 0 nO nG nP nT).2.1 nO) (iif (bEmC nT room) (bEmp nF nE nZ nR nC room 20 0 nO nG nP nT).2.2.1 nG) nF nE nZ (iif (bEmC nT room) (bEmp nF nE nZ nR nC room 20 0 nO nG nP nT).2.2.2.1 nP) nR nC (iif (bEmC nT room) (bEmp nF nE nZ nR nC room 20 0 nO nG nP nT).2.2.2.2 nT)))) H := hP
  have hD : va_D A (wX ha hn ht hh hs ++ (wB hn cs nO nG nF nE nZ nP nR nC nT ++ (wB ht cs (iif (bEmC nT room) (bEmp nF nE nZ nR nC room 20 0 nO nG nP nT).2.1 nO) (iif (bEmC nT room) (bEmp nF nE nZ nR nC room 20 0 nO nG nP nT).2.2.1 nG) nF nE nZ (iif (bEmC nT room) (bEmp nF nE nZ nR nC room 20 0 nO nG nP nT).2.2.2.1 nP) nR nC (iif (bEmC nT room) (bEmp nF nE nZ nR nC room 20 0 nO nG nP nT).2.2.2.2 nT)))) := hD
  exact x_retI (congrArg iI (b2p_c (by exact Iff.rfl))) hend hP hD hS dX4_couldBeEmptied_19
