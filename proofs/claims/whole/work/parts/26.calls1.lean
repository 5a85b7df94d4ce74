theorem lk4_33 : LkV RX4 33 yX0_copyFrom cX0_copyFrom 2 none 1 := ⟨tb_221, tb_218, tb_219, tb_220, tb_72, by decide +kernel⟩
theorem lk4_58 : LkV RX4 58 yX0_ruleOfNow cX0_ruleOfNow 1 (some .int) 0 := ⟨tb_357, tb_354, tb_355, tb_356, tb_72, by decide +kernel⟩
theorem lk4_62 : LkV RX4 62 yX4_tryAnew cX4_tryAnew 2 (some .int) 1 := ⟨tb_361, tb_358, tb_360, tb_10, tb_71, by decide +kernel⟩
theorem lk4_69 : LkV RX4 69 yX0_ofTalk cX0_ofTalk 4 (some .int) 2 := ⟨tb_389, tb_386, tb_387, tb_388, tb_72, by decide +kernel⟩
theorem lk4_72 : LkV RX4 72 yX0_ofRoom cX0_ofRoom 3 (some .int) 2 := ⟨tb_405, tb_402, tb_403, tb_404, tb_72, by decide +kernel⟩
theorem lk4_75 : LkS RX4 75 yX4_isRoom cX4_isRoom 1 (some .boolean) 1 := ⟨tb_274, tb_425, tb_273, tb_71, by decide +kernel⟩
theorem lk4_82 : LkV RX4 82 yX0_talkIn cX0_talkIn 4 (some .int) 2 := ⟨tb_429, tb_426, tb_427, tb_428, tb_72, by decide +kernel⟩
theorem lk4_86 : LkV RX4 86 yX0_talksAt cX0_talksAt 4 (some .int) 1 := ⟨tb_442, tb_439, tb_440, tb_441, tb_72, by decide +kernel⟩
theorem lk4_89 : LkV RX4 89 yX0_freeRoomsAt cX0_freeRoomsAt 4 (some .int) 1 := ⟨tb_446, tb_443, tb_444, tb_445, tb_72, by decide +kernel⟩
theorem lk4_92 : LkS RX4 92 yX4_isTalk cX4_isTalk 3 (some .boolean) 3 := ⟨tb_231, tb_451, tb_230, tb_71, by decide +kernel⟩
theorem lk4_96 : LkS RX4 96 yX4_isRule cX4_isRule 1 (some .boolean) 1 := ⟨tb_380, tb_452, tb_379, tb_71, by decide +kernel⟩
theorem lk4_99 : LkV RX4 99 yX0_roomFor cX0_roomFor 11 (some .int) 4 := ⟨tb_242, tb_453, tb_240, tb_241, tb_72, by decide +kernel⟩
theorem lk4_103 : LkV RX4 103 yX0_openRooms cX0_openRooms 1 (some .int) 0 := ⟨tb_343, tb_458, tb_341, tb_342, tb_72, by decide +kernel⟩
theorem lk4_106 : LkV RX4 106 yX0_placedElsewhereThan cX0_placedElsewhereThan 4 (some .int) 1 := ⟨tb_462, tb_459, tb_460, tb_461, tb_72, by decide +kernel⟩
theorem lk4_110 : LkV RX4 110 yX0_paidSoFar cX0_paidSoFar 1 (some .int) 0 := ⟨tb_470, tb_467, tb_468, tb_469, tb_72, by decide +kernel⟩
theorem lk4_151 : LkV RX4 151 yX0_tellAnew cX0_tellAnew 5 (some .int) 1 := ⟨tb_365, tb_362, tb_363, tb_364, tb_72, by decide +kernel⟩
theorem lk4_154 : LkV RX4 154 yX0_emptyOut cX0_emptyOut 3 (some .boolean) 1 := ⟨tb_494, tb_491, tb_492, tb_493, tb_72, by decide +kernel⟩
abbrev r4_tryAnew : Room := { frames := 4, cells := 0, slots := 0, locals := 102 }
set_option maxHeartbeats 4000000 in
set_option maxRecDepth 100000 in
theorem k4_tryAnew (l : Launch) (D : va_G) (cs : Nat → ClassId) (ha : Nat → Nat) (hn : Nat → Nat) (ht : Nat → Nat) (hh : Nat → Nat) (hs : Nat → Nat) (nO : Nat → Bool) (nG : Int → Int) (nF : Int → Int) (nE : Int → Int) (nZ : Int → Int) (nP : Int → Int) (nR : Int → Int) (nC : Int → Int) (nT : Int → Nat → Bool) (tO : Nat → Bool) (tG : Int → Int) (tF : Int → Int) (tE : Int → Int) (tZ : Int → Int) (tP : Int → Int) (tR : Int → Int) (tC : Int → Int) (tT : Int → Nat → Bool) (rule : Int) (hB : IBG nG nF nE nZ nP nR nC) (h3 : 0 ≤ rule ∧ rule ≤ 3) : CI l D cs yX4_tryAnew cX4_tryAnew 2 .int r4_tryAnew 0 0 [.ref (ha 0), .int (iI rule)] (wX ha hn ht hh hs ++ (wB hn cs nO nG nF nE nZ nP nR nC nT ++ (wB ht cs tO tG tF tE tZ tP tR tC tT))) (wX ha hn ht hh hs ++ (wB hn cs nO nG nF nE nZ nP nR nC nT ++ (wB ht cs ((bAnew nF nE nZ nR nC nG nP nT rule).2.1) ((bAnew nF nE nZ nR nC nG nP nT rule).2.2.1) nF nE nZ ((bAnew nF nE nZ nR nC nG nP nT rule).2.2.2.1) nR nC ((bAnew nF nE nZ nR nC nG nP nT rule).2.2.2.2)))) (iI (bAnV nF nE nZ nR nC nG nP nT rule)) := by
  refine CI_start (own := RX4) (by decide) rfl rfl (Nat.le_of_ble_eq_true rfl) ?_
  intro p e s m args below meth c Q A ls hC hl hP hD hA hS hend
  have hl : lv_has ls 2 [(0, .ref (ha 0)), (1, .int (iI rule))] := hl
  obtain ⟨H, hH⟩ : ∃ H : Heap, H = s.heap := ⟨_, rfl⟩
  have hS : va_S A s.heap H [] := by rw [hH]; exact hS
  rw [← hH] at hP
  obtain ⟨locs, hlocs⟩ : ∃ locs : List Loc, locs = [] := ⟨_, rfl⟩
  rw [← hlocs] at hS
  suffices hgo : W p l e r4_tryAnew s m args below meth c H locs 0 0 Q (F0 m 0 ls []) by rw [← hH, ← hlocs]; exact hgo
  clear hH hlocs
  have qB := hB.1
  have q12 := hB.2.1
  have q8 := hB.2.2
  refine x_al hC hl 0 dX4_tryAnew_0 rfl rfl ?_
  refine x_get4 (v := .ref (ht 0)) hC hP 0 rfl 1 (by decide) tb_202 rfl rfl dX4_tryAnew_1 ?_
  refine x_al hC hl 0 dX4_tryAnew_4 rfl rfl ?_
  refine x_get4 (v := .ref (hn 0)) hC hP 0 rfl 0 (by decide) tb_201 rfl rfl dX4_tryAnew_5 ?_
  refine x_vV (As := [.ref (hn 0)]) hC (k0_copyFrom l D cs ht hn tO tG tF tE tZ tP tR tC tT nO nG nF nE nZ nP nR nC nT ) lk4_33 (q0 := 9) (ci := 0) rfl rfl rfl (sub_par0 (ws' := wX ha hn ht hh hs ++ (wB hn cs nO nG nF nE nZ nP nR nC nT ++ (wB ht cs nO nG nF nE nZ nP nR nC nT))) [9, 10, 11, 12, 13, 14, 15, 16, 1, 2, 3, 4, 5, 6, 7, 8] [0] hP hD hS hA rfl rfl (by decide) rfl rfl rfl) hP hS rfl hl.1 rfl (Nat.le_of_ble_eq_true rfl) ⟨rfl, rfl⟩ ⟨Nat.le_of_ble_eq_true rfl, Nat.le_of_ble_eq_true rfl⟩ ⟨Nat.le_of_ble_eq_true rfl, Nat.le_of_ble_eq_true rfl⟩ dX4_tryAnew_8 (fun H locs hP hD hS hHs => ?_)
  have hP : va_P D vwCl (wX ha hn ht hh hs ++ (wB hn cs nO nG nF nE nZ nP nR nC nT ++ (wB ht cs nO nG nF nE nZ nP nR nC nT))) H := hP
  have hD : va_D A (wX ha hn ht hh hs ++ (wB hn cs nO nG nF nE nZ nP nR nC nT ++ (wB ht cs nO nG nF nE nZ nP nR nC nT))) := hD
  refine x_al hC hl 0 dX4_tryAnew_11 rfl rfl ?_
  refine x_get4 (v := .ref (ht 0)) hC hP 0 rfl 1 (by decide) tb_202 rfl rfl dX4_tryAnew_12 ?_
  refine x_il hC hl 1 dX4_tryAnew_15 rfl rfl ?_
  refine x_vI (As := [.int (iI rule)]) hC (k0_tellAnew l D cs ht nO nG nF nE nZ nP nR nC nT rule (by first | assumption | omega) (by first | assumption | omega)) lk4_151 (q0 := 9) (ci := 0) rfl rfl rfl (sub_par0 (ws' := wX ha hn ht hh hs ++ (wB hn cs nO nG nF nE nZ nP nR nC nT ++ (wB ht cs ((bAnew nF nE nZ nR nC nG nP nT rule).2.1) ((bAnew nF nE nZ nR nC nG nP nT rule).2.2.1) nF nE nZ ((bAnew nF nE nZ nR nC nG nP nT rule).2.2.2.1) nR nC ((bAnew nF nE nZ nR nC nG nP nT rule).2.2.2.2)))) [9, 10, 11, 12, 13, 14, 15, 16] [0, 1, 2, 3, 4, 5, 6, 7, 8] hP hD hS hA rfl rfl (by decide) rfl rfl rfl) hP hS rfl hl.1 rfl (Nat.le_of_ble_eq_true rfl) ⟨rfl, rfl⟩ ⟨Nat.le_of_ble_eq_true rfl, Nat.le_of_ble_eq_true rfl⟩ ⟨Nat.le_of_ble_eq_true rfl, Nat.le_of_ble_eq_true rfl⟩ dX4_tryAnew_16 (fun H locs hP hD hS hHs => ?_)
  have hP : va_P D vwCl (wX ha hn ht hh hs ++ (wB hn cs nO nG nF nE nZ nP nR nC nT ++ (wB ht cs ((bAnew nF nE nZ nR nC nG nP nT rule).2.1) ((bAnew nF nE nZ nR nC nG nP nT rule).2.2.1) nF nE nZ ((bAnew nF nE nZ nR nC nG nP nT rule).2.2.2.1) nR nC ((bAnew nF nE nZ nR nC nG nP nT rule).2.2.2.2)))) H := hP
  have hD : va_D A (wX ha hn ht hh hs ++ (wB hn cs nO nG nF nE nZ nP nR nC nT ++ (wB ht cs ((bAnew nF nE nZ nR nC nG nP nT rule).2.1) ((bAnew nF nE nZ nR nC nG nP nT rule).2.2.1) nF nE nZ ((bAnew nF nE nZ nR nC nG nP nT rule).2.2.2.1) nR nC ((bAnew nF nE nZ nR nC nG nP nT rule).2.2.2.2)))) := hD
  exact x_retI (congrArg iI (by first | rfl | omega | grind : iif (bAnew nF nE nZ nR nC nG nP nT rule).1 ((bAnew nF nE nZ nR nC nG nP nT rule).2.2.1 11) (-1000002) = bAnV nF nE nZ nR nC nG nP nT rule)) hend hP hD hS dX4_tryAnew_19
abbrev r4_couldBeEmptied : Room := { frames := 4, cells := 0, slots := 0, locals := 91 }
set_option maxHeartbeats 4000000 in
set_option maxRecDepth 100000 in
theorem k4_couldBeEmptied (l : Launch) (D : va_G) (cs : Nat → ClassId) (ha : Nat → Nat) (hn : Nat → Nat) (ht : Nat → Nat) (hh : Nat → Nat) (hs : Nat → Nat) (nO : Nat → Bool) (nG : Int → Int) (nF : Int → Int) (nE : Int → Int) (nZ : Int → Int) (nP : Int → Int) (nR : Int → Int) (nC : Int → Int) (nT : Int → Nat → Bool) (tO : Nat → Bool) (tG : Int → Int) (tF : Int → Int) (tE : Int → Int) (tZ : Int → Int) (tP : Int → Int) (tR : Int → Int) (tC : Int → Int) (tT : Int → Nat → Bool) (room : Int) (hB : IBG nG nF nE nZ nP nR nC) (g_room : -2147483648 ≤ room ∧ room ≤ 2147483647) : CI l D cs yX4_couldBeEmptied cX4_couldBeEmptied 2 .boolean r4_couldBeEmptied 0 0 [.ref (ha 0), .int (iI room)] (wX ha hn ht hh hs ++ (wB hn cs nO nG nF nE nZ nP nR nC nT ++ (wB ht cs tO tG tF tE tZ tP tR tC tT))) (wX ha hn ht hh hs ++ (wB hn cs nO nG nF nE nZ nP nR nC nT ++ (wB ht cs (iif (bEmC nT room) (bEmp nF nE nZ nR nC room 20 0 nO nG nP nT).2.1 nO) (iif (bEmC nT room) (bEmp nF nE nZ nR nC room 20 0 nO nG nP nT).2.2.1 nG) nF nE nZ (iif (bEmC nT room) (bEmp nF nE nZ nR nC room 20 0 nO nG nP nT).2.2.2.1 nP) nR nC (iif (bEmC nT room) (bEmp nF nE nZ nR nC room 20 0 nO nG nP nT).2.2.2.2 nT)))) (iI (b2p (bCbE nO nG nF nE nZ nP nR nC nT room))) := by
  refine CI_start (own := RX4) (by decide) rfl b2p_nar (Nat.le_of_ble_eq_true rfl) ?_
  intro p e s m args below meth c Q A ls hC hl hP hD hA hS hend
  have hl : lv_has ls 2 [(0, .ref (ha 0)), (1, .int (iI room))] := hl
  obtain ⟨H, hH⟩ : ∃ H : Heap, H = s.heap := ⟨_, rfl⟩
  have hS : va_S A s.heap H [] := by rw [hH]; exact hS
  rw [← hH] at hP
  obtain ⟨locs, hlocs⟩ : ∃ locs : List Loc, locs = [] := ⟨_, rfl⟩
  rw [← hlocs] at hS
  suffices hgo : W p l e r4_couldBeEmptied s m args below meth c H locs 0 0 Q (F0 m 0 ls []) by rw [← hH, ← hlocs]; exact hgo
  clear hH hlocs
  have qB := hB.1
  have q12 := hB.2.1
  have q8 := hB.2.2
  refine x_al hC hl 0 dX4_couldBeEmptied_0 rfl rfl ?_
  refine x_get4 (v := .ref (ht 0)) hC hP 0 rfl 1 (by decide) tb_202 rfl rfl dX4_couldBeEmptied_1 ?_
  refine x_al hC hl 0 dX4_couldBeEmptied_4 rfl rfl ?_
  refine x_get4 (v := .ref (hn 0)) hC hP 0 rfl 0 (by decide) tb_201 rfl rfl dX4_couldBeEmptied_5 ?_
  refine x_vV (As := [.ref (hn 0)]) hC (k0_copyFrom l D cs ht hn tO tG tF tE tZ tP tR tC tT nO nG nF nE nZ nP nR nC nT ) lk4_33 (q0 := 9) (ci := 0) rfl rfl rfl (sub_par0 (ws' := wX ha hn ht hh hs ++ (wB hn cs nO nG nF nE nZ nP nR nC nT ++ (wB ht cs nO nG nF nE nZ nP nR nC nT))) [9, 10, 11, 12, 13, 14, 15, 16, 1, 2, 3, 4, 5, 6, 7, 8] [0] hP hD hS hA rfl rfl (by decide) rfl rfl rfl) hP hS rfl hl.1 rfl (Nat.le_of_ble_eq_true rfl) ⟨rfl, rfl⟩ ⟨Nat.le_of_ble_eq_true rfl, Nat.le_of_ble_eq_true rfl⟩ ⟨Nat.le_of_ble_eq_true rfl, Nat.le_of_ble_eq_true rfl⟩ dX4_couldBeEmptied_8 (fun H locs hP hD hS hHs => ?_)
  have hP : va_P D vwCl (wX ha hn ht hh hs ++ (wB hn cs nO nG nF nE nZ nP nR nC nT ++ (wB ht cs nO nG nF nE nZ nP nR nC nT))) H := hP
  have hD : va_D A (wX ha hn ht hh hs ++ (wB hn cs nO nG nF nE nZ nP nR nC nT ++ (wB ht cs nO nG nF nE nZ nP nR nC nT))) := hD
  refine x_al hC hl 0 dX4_couldBeEmptied_11 rfl rfl ?_
  refine x_get4 (v := .ref (ht 0)) hC hP 0 rfl 1 (by decide) tb_202 rfl rfl dX4_couldBeEmptied_12 ?_
  refine x_il hC hl 1 dX4_couldBeEmptied_15 rfl rfl ?_
  refine x_vI (As := [.int (iI room)]) hC (k0_emptyOut l D cs ht nO nG nF nE nZ nP nR nC nT room (by first | assumption | omega) (by first | assumption | omega)) lk4_154 (q0 := 9) (ci := 0) rfl rfl rfl (sub_par0 (ws' := wX ha hn ht hh hs ++ (wB hn cs nO nG nF nE nZ nP nR nC nT ++ (wB ht cs (iif (bEmC nT room) (bEmp nF nE nZ nR nC room 20 0 nO nG nP nT).2.1 nO) (iif (bEmC nT room) (bEmp nF nE nZ nR nC room 20 0 nO nG nP nT).2.2.1 nG) nF nE nZ (iif (bEmC nT room) (bEmp nF nE nZ nR nC room 20 0 nO nG nP nT).2.2.2.1 nP) nR nC (iif (bEmC nT room) (bEmp nF nE nZ nR nC room 20 0 nO nG nP nT).2.2.2.2 nT)))) [9, 10, 11, 12, 13, 14, 15, 16] [0, 1, 2, 3, 4, 5, 6, 7, 8] hP hD hS hA rfl rfl (by decide) rfl rfl rfl) hP hS rfl hl.1 rfl (Nat.le_of_ble_eq_true rfl) ⟨rfl, rfl⟩ ⟨Nat.le_of_ble_eq_true rfl, Nat.le_of_ble_eq_true rfl⟩ ⟨Nat.le_of_ble_eq_true rfl, Nat.le_of_ble_eq_true rfl⟩ dX4_couldBeEmptied_16 (fun H locs hP hD hS hHs => ?_)
  have hP : va_P D vwCl (wX ha hn ht hh hs ++ (wB hn cs nO nG nF nE nZ nP nR nC nT ++ (wB ht cs (iif (bEmC nT room) (bEmp nF nE nZ nR nC room 20 0 nO nG nP nT).2.1 nO) (iif (bEmC nT room) (bEmp nF nE nZ nR nC room 20 0 nO nG nP nT).2.2.1 nG) nF nE nZ (iif (bEmC nT room) (bEmp nF nE nZ nR nC room 20 0 nO nG nP nT).2.2.2.1 nP) nR nC (iif (bEmC nT room) (bEmp nF nE nZ nR nC room 20 0 nO nG nP nT).2.2.2.2 nT)))) H := hP
  have hD : va_D A (wX ha hn ht hh hs ++ (wB hn cs nO nG nF nE nZ nP nR nC nT ++ (wB ht cs (iif (bEmC nT room) (bEmp nF nE nZ nR nC room 20 0 nO nG nP nT).2.1 nO) (iif (bEmC nT room) (bEmp nF nE nZ nR nC room 20 0 nO nG nP nT).2.2.1 nG) nF nE nZ (iif (bEmC nT room) (bEmp nF nE nZ nR nC room 20 0 nO nG nP nT).2.2.2.1 nP) nR nC (iif (bEmC nT room) (bEmp nF nE nZ nR nC room 20 0 nO nG nP nT).2.2.2.2 nT)))) := hD
  exact x_retI (congrArg iI (b2p_c (by exact Iff.rfl))) hend hP hD hS dX4_couldBeEmptied_19
abbrev r4_talkOf : Room := { frames := 4, cells := 0, slots := 0, locals := 92 }
set_option maxHeartbeats 4000000 in
set_option maxRecDepth 100000 in
theorem k4_talkOf (l : Launch) (D : va_G) (cs : Nat → ClassId) (ha : Nat → Nat) (hn : Nat → Nat) (ht : Nat → Nat) (hh : Nat → Nat) (hs : Nat → Nat) (nO : Nat → Bool) (nG : Int → Int) (nF : Int → Int) (nE : Int → Int) (nZ : Int → Int) (nP : Int → Int) (nR : Int → Int) (nC : Int → Int) (nT : Int → Nat → Bool) (talk : Int) (what : Int) (hB : IBG nG nF nE nZ nP nR nC) (g_talk : -2147483648 ≤ talk ∧ talk ≤ 2147483647) (g_what : -2147483648 ≤ what ∧ what ≤ 2147483647) : CI l D cs yX4_talkOf cX4_talkOf 3 .int r4_talkOf 0 0 [.ref (ha 0), .int (iI talk), .int (iI what)] (wX ha hn ht hh hs ++ (wB hn cs nO nG nF nE nZ nP nR nC nT)) (wX ha hn ht hh hs ++ (wB hn cs nO nG nF nE nZ nP nR nC nT)) (iif (bPl nP talk = -1) (iI (-1000001)) (bTalkOf nO nF nE nZ nP nR nT talk what)) := by
  refine CI_start (own := RX4) (by decide) rfl rfl (Nat.le_of_ble_eq_true rfl) ?_
  intro p e s m args below meth c Q A ls hC hl hP hD hA hS hend
  have hl : lv_has ls 3 [(0, .ref (ha 0)), (1, .int (iI talk)), (2, .int (iI what))] := hl
  obtain ⟨H, hH⟩ : ∃ H : Heap, H = s.heap := ⟨_, rfl⟩
  have hS : va_S A s.heap H [] := by rw [hH]; exact hS
  rw [← hH] at hP
  obtain ⟨locs, hlocs⟩ : ∃ locs : List Loc, locs = [] := ⟨_, rfl⟩
  rw [← hlocs] at hS
  suffices hgo : W p l e r4_talkOf s m args below meth c H locs 0 0 Q (F0 m 0 ls []) by rw [← hH, ← hlocs]; exact hgo
  clear hH hlocs
  have qB := hB.1
  have q12 := hB.2.1
  have q8 := hB.2.2
  refine x_al hC hl 0 dX4_talkOf_0 rfl rfl ?_
  refine x_get4 (v := .ref (hn 0)) hC hP 0 rfl 0 (by decide) tb_201 rfl rfl dX4_talkOf_1 ?_
  refine x_il hC hl 1 dX4_talkOf_4 rfl rfl ?_
  refine x_il hC hl 2 dX4_talkOf_5 rfl rfl ?_
  refine x_vI (As := [.int (iI talk), .int (iI what)]) hC (k0_ofTalk l D cs hn nO nG nF nE nZ nP nR nC nT talk what (by first | assumption | omega) (by first | assumption | omega) (by first | assumption | omega)) lk4_69 (q0 := 1) (ci := 0) rfl rfl rfl (sub_par0 (ws' := wX ha hn ht hh hs ++ (wB hn cs nO nG nF nE nZ nP nR nC nT)) [1, 2, 3, 4, 5, 6, 7, 8] [0] hP hD hS hA rfl rfl (by decide) rfl rfl rfl) hP hS rfl hl.1 rfl (Nat.le_of_ble_eq_true rfl) ⟨rfl, rfl⟩ ⟨Nat.le_of_ble_eq_true rfl, Nat.le_of_ble_eq_true rfl⟩ ⟨Nat.le_of_ble_eq_true rfl, Nat.le_of_ble_eq_true rfl⟩ dX4_talkOf_6 (fun H locs hP hD hS hHs => ?_)
  exact x_retI (rfl) hend hP hD hS dX4_talkOf_9
abbrev r4_roomOf : Room := { frames := 3, cells := 0, slots := 0, locals := 68 }
set_option maxHeartbeats 4000000 in
set_option maxRecDepth 100000 in
theorem k4_roomOf (l : Launch) (D : va_G) (cs : Nat → ClassId) (ha : Nat → Nat) (hn : Nat → Nat) (ht : Nat → Nat) (hh : Nat → Nat) (hs : Nat → Nat) (nO : Nat → Bool) (nG : Int → Int) (nF : Int → Int) (nE : Int → Int) (nZ : Int → Int) (nP : Int → Int) (nR : Int → Int) (nC : Int → Int) (nT : Int → Nat → Bool) (room : Int) (what : Int) (hB : IBG nG nF nE nZ nP nR nC) (g_room : -2147483648 ≤ room ∧ room ≤ 2147483647) (g_what : -2147483648 ≤ what ∧ what ≤ 2147483647) : CI l D cs yX4_roomOf cX4_roomOf 3 .int r4_roomOf 0 0 [.ref (ha 0), .int (iI room), .int (iI what)] (wX ha hn ht hh hs ++ (wB hn cs nO nG nF nE nZ nP nR nC nT)) (wX ha hn ht hh hs ++ (wB hn cs nO nG nF nE nZ nP nR nC nT)) (iif (0 ≤ room ∧ room ≤ 7) (bRoomOf nO nP nR nC nT room what) (iI (-1000001))) := by
  refine CI_start (own := RX4) (by decide) rfl rfl (Nat.le_of_ble_eq_true rfl) ?_
  intro p e s m args below meth c Q A ls hC hl hP hD hA hS hend
  have hl : lv_has ls 3 [(0, .ref (ha 0)), (1, .int (iI room)), (2, .int (iI what))] := hl
  obtain ⟨H, hH⟩ : ∃ H : Heap, H = s.heap := ⟨_, rfl⟩
  have hS : va_S A s.heap H [] := by rw [hH]; exact hS
  rw [← hH] at hP
  obtain ⟨locs, hlocs⟩ : ∃ locs : List Loc, locs = [] := ⟨_, rfl⟩
  rw [← hlocs] at hS
  suffices hgo : W p l e r4_roomOf s m args below meth c H locs 0 0 Q (F0 m 0 ls []) by rw [← hH, ← hlocs]; exact hgo
  clear hH hlocs
  have qB := hB.1
  have q12 := hB.2.1
  have q8 := hB.2.2
  refine x_al hC hl 0 dX4_roomOf_0 rfl rfl ?_
  refine x_get4 (v := .ref (hn 0)) hC hP 0 rfl 0 (by decide) tb_201 rfl rfl dX4_roomOf_1 ?_
  refine x_il hC hl 1 dX4_roomOf_4 rfl rfl ?_
  refine x_il hC hl 2 dX4_roomOf_5 rfl rfl ?_
  refine x_vI (As := [.int (iI room), .int (iI what)]) hC (k0_ofRoom l D cs hn nO nG nF nE nZ nP nR nC nT room what (by first | assumption | omega) (by first | assumption | omega) (by first | assumption | omega)) lk4_72 (q0 := 1) (ci := 0) rfl rfl rfl (sub_par0 (ws' := wX ha hn ht hh hs ++ (wB hn cs nO nG nF nE nZ nP nR nC nT)) [1, 2, 3, 4, 5, 6, 7, 8] [0] hP hD hS hA rfl rfl (by decide) rfl rfl rfl) hP hS rfl hl.1 rfl (Nat.le_of_ble_eq_true rfl) ⟨rfl, rfl⟩ ⟨Nat.le_of_ble_eq_true rfl, Nat.le_of_ble_eq_true rfl⟩ ⟨Nat.le_of_ble_eq_true rfl, Nat.le_of_ble_eq_true rfl⟩ dX4_roomOf_6 (fun H locs hP hD hS hHs => ?_)
  exact x_retI (rfl) hend hP hD hS dX4_roomOf_9
abbrev r4_at : Room := { frames := 2, cells := 0, slots := 0, locals := 45 }
set_option maxHeartbeats 4000000 in
set_option maxRecDepth 100000 in
theorem k4_at (l : Launch) (D : va_G) (cs : Nat → ClassId) (ha : Nat → Nat) (hn : Nat → Nat) (ht : Nat → Nat) (hh : Nat → Nat) (hs : Nat → Nat) (nO : Nat → Bool) (nG : Int → Int) (nF : Int → Int) (nE : Int → Int) (nZ : Int → Int) (nP : Int → Int) (nR : Int → Int) (nC : Int → Int) (nT : Int → Nat → Bool) (room : Int) (hour : Int) (hB : IBG nG nF nE nZ nP nR nC) (g_room : -2147483648 ≤ room ∧ room ≤ 2147483647) (g_hour : -2147483648 ≤ hour ∧ hour ≤ 2147483647) : CI l D cs yX4_at cX4_at 4 .int r4_at 0 0 [.ref (ha 0), .int (iI room), .int (iI hour)] (wX ha hn ht hh hs ++ (wB hn cs nO nG nF nE nZ nP nR nC nT)) (wX ha hn ht hh hs ++ (wB hn cs nO nG nF nE nZ nP nR nC nT)) (iI (iif ((0 ≤ room ∧ room ≤ 7) ∧ 0 ≤ hour ∧ hour ≤ 47) (iif ((bTalkIn nF nE nP room hour) = -1) (-1000004) (bTalkIn nF nE nP room hour)) (-1000001))) := by
  refine CI_start (own := RX4) (by decide) rfl rfl (Nat.le_of_ble_eq_true rfl) ?_
  intro p e s m args below meth c Q A ls hC hl hP hD hA hS hend
  have hl : lv_has ls 4 [(0, .ref (ha 0)), (1, .int (iI room)), (2, .int (iI hour))] := hl
  obtain ⟨H, hH⟩ : ∃ H : Heap, H = s.heap := ⟨_, rfl⟩
  have hS : va_S A s.heap H [] := by rw [hH]; exact hS
  rw [← hH] at hP
  obtain ⟨locs, hlocs⟩ : ∃ locs : List Loc, locs = [] := ⟨_, rfl⟩
  rw [← hlocs] at hS
  suffices hgo : W p l e r4_at s m args below meth c H locs 0 0 Q (F0 m 0 ls []) by rw [← hH, ← hlocs]; exact hgo
  clear hH hlocs
  have qB := hB.1
  have q12 := hB.2.1
  have q8 := hB.2.2
  refine x_il hC hl 1 dX4_at_0 rfl rfl ?_
  refine x_sI (As := [.int (iI room)]) hC (k4_isRoom l D cs room (by first | assumption | omega)) lk4_75 (sub_none hP hD hS hA) hP hS rfl hl.1 rfl (Nat.le_of_ble_eq_true rfl) ⟨rfl, rfl⟩ ⟨Nat.le_of_ble_eq_true rfl, Nat.le_of_ble_eq_true rfl⟩ ⟨Nat.le_of_ble_eq_true rfl, Nat.le_of_ble_eq_true rfl⟩ dX4_at_1 (fun H locs hP hD hS hHs => ?_)
  refine x_if_eq_b hC 14 dX4_at_4 (by decide) (fun c_4 => ?_) (fun c_4 => ?_)
  · refine x_ldc hC (-1000001) tb_381 (by decide) dX4_at_14 ?_
    exact x_retI (congrArg iI (by first | exact (iif_f (fun h => c_11 h.2)).symm | exact (iif_f (fun h => c_4 h.1)).symm : (-1000001) = iif ((0 ≤ room ∧ room ≤ 7) ∧ 0 ≤ hour ∧ hour ≤ 47) (iif ((bTalkIn nF nE nP room hour) = -1) (-1000004) (bTalkIn nF nE nP room hour)) (-1000001))) hend hP hD hS dX4_at_16
  · refine x_il hC hl 2 dX4_at_7 rfl rfl ?_
    refine x_sI (As := [.int (iI hour)]) hC (k4_isHour l D cs hour (by first | assumption | omega)) lk4_79 (sub_none hP hD hS hA) hP hS rfl hl.1 rfl (Nat.le_of_ble_eq_true rfl) ⟨rfl, rfl⟩ ⟨Nat.le_of_ble_eq_true rfl, Nat.le_of_ble_eq_true rfl⟩ ⟨Nat.le_of_ble_eq_true rfl, Nat.le_of_ble_eq_true rfl⟩ dX4_at_8 (fun H locs hP hD hS hHs => ?_)
    refine x_if_ne_b hC 17 dX4_at_11 (by decide) (fun c_11 => ?_) (fun c_11 => ?_)
    · refine x_al hC hl 0 dX4_at_17 rfl rfl ?_
      refine x_get4 (v := .ref (hn 0)) hC hP 0 rfl 0 (by decide) tb_201 rfl rfl dX4_at_18 ?_
      refine x_il hC hl 1 dX4_at_21 rfl rfl ?_
      refine x_il hC hl 2 dX4_at_22 rfl rfl ?_
      refine x_vI (As := [.int (iI room), .int (iI hour)]) hC (k0_talkIn l D cs hn nO nG nF nE nZ nP nR nC nT room hour (by first | assumption | omega) (by first | assumption | omega) (by first | assumption | omega)) lk4_82 (q0 := 1) (ci := 0) rfl rfl rfl (sub_par0 (ws' := wX ha hn ht hh hs ++ (wB hn cs nO nG nF nE nZ nP nR nC nT)) [1, 2, 3, 4, 5, 6, 7, 8] [0] hP hD hS hA rfl rfl (by decide) rfl rfl rfl) hP hS rfl hl.1 rfl (Nat.le_of_ble_eq_true rfl) ⟨rfl, rfl⟩ ⟨Nat.le_of_ble_eq_true rfl, Nat.le_of_ble_eq_true rfl⟩ ⟨Nat.le_of_ble_eq_true rfl, Nat.le_of_ble_eq_true rfl⟩ dX4_at_23 (fun H locs hP hD hS hHs => ?_)
      have qti := fstI_rg (fun t => nP t = room ∧ bTk nF nE nP t hour) (-1) (20 - (0 : Int)).toNat 0
      have qt2 : -1 ≤ (bTalkIn nF nE nP room hour) ∧ (bTalkIn nF nE nP room hour) < 20 := by unfold bTalkIn; omega
      refine x_is hC [(3, .int (iI (bTalkIn nF nE nP room hour))), (0, .ref (ha 0)), (1, .int (iI room)), (2, .int (iI hour))] hl dX4_at_26 rfl (by decide) rfl (fun ls hl => ?_)
      refine x_il hC hl 0 dX4_at_27 rfl rfl ?_
      refine x_ic hC dX4_at_28 ?_
      refine x_ic_ne hC 37 dX4_at_29 (by decide) (by omega) (by omega) (fun c_29 => ?_) (fun c_29 => ?_)
      · refine x_il hC hl 0 dX4_at_37 rfl rfl ?_
        exact x_retI (congrArg iI (by rw [iif_t ⟨c_4, c_11⟩]; first | exact (iif_t c_29).symm | exact (iif_f c_29).symm : bTalkIn nF nE nP room hour = iif ((0 ≤ room ∧ room ≤ 7) ∧ 0 ≤ hour ∧ hour ≤ 47) (iif ((bTalkIn nF nE nP room hour) = -1) (-1000004) (bTalkIn nF nE nP room hour)) (-1000001))) hend hP hD hS dX4_at_38
      · refine x_ldc hC (-1000004) tb_434 (by decide) dX4_at_32 ?_
        refine x_goto hC 38 dX4_at_34 (by decide) ?_
        exact x_retI (congrArg iI (by rw [iif_t ⟨c_4, c_11⟩]; first | exact (iif_t c_29).symm | exact (iif_f c_29).symm : (-1000004) = iif ((0 ≤ room ∧ room ≤ 7) ∧ 0 ≤ hour ∧ hour ≤ 47) (iif ((bTalkIn nF nE nP room hour) = -1) (-1000004) (bTalkIn nF nE nP room hour)) (-1000001))) hend hP hD hS dX4_at_38
    · refine x_ldc hC (-1000001) tb_381 (by decide) dX4_at_14 ?_
      exact x_retI (congrArg iI (by first | exact (iif_f (fun h => c_11 h.2)).symm | exact (iif_f (fun h => c_4 h.1)).symm : (-1000001) = iif ((0 ≤ room ∧ room ≤ 7) ∧ 0 ≤ hour ∧ hour ≤ 47) (iif ((bTalkIn nF nE nP room hour) = -1) (-1000004) (bTalkIn nF nE nP room hour)) (-1000001))) hend hP hD hS dX4_at_16
abbrev r4_hourOf : Room := { frames := 2, cells := 0, slots := 0, locals := 45 }
set_option maxHeartbeats 4000000 in
set_option maxRecDepth 100000 in
theorem k4_hourOf (l : Launch) (D : va_G) (cs : Nat → ClassId) (ha : Nat → Nat) (hn : Nat → Nat) (ht : Nat → Nat) (hh : Nat → Nat) (hs : Nat → Nat) (nO : Nat → Bool) (nG : Int → Int) (nF : Int → Int) (nE : Int → Int) (nZ : Int → Int) (nP : Int → Int) (nR : Int → Int) (nC : Int → Int) (nT : Int → Nat → Bool) (hour : Int) (what : Int) (hB : IBG nG nF nE nZ nP nR nC) (g_hour : -2147483648 ≤ hour ∧ hour ≤ 2147483647) (g_what : -2147483648 ≤ what ∧ what ≤ 2147483647) : CI l D cs yX4_hourOf cX4_hourOf 3 .int r4_hourOf 0 0 [.ref (ha 0), .int (iI hour), .int (iI what)] (wX ha hn ht hh hs ++ (wB hn cs nO nG nF nE nZ nP nR nC nT)) (wX ha hn ht hh hs ++ (wB hn cs nO nG nF nE nZ nP nR nC nT)) (iif (0 ≤ hour ∧ hour ≤ 47) (iif (what = 0) (iI (bAt nF nE nP hour 20)) (iif (what = 1) (mskI (fun t => nO t.toNat = true ∧ ¬ nT t hour.toNat = true) 8) (iI (-1000001)))) (iI (-1000001))) := by
  refine CI_start (own := RX4) (by decide) rfl rfl (Nat.le_of_ble_eq_true rfl) ?_
  intro p e s m args below meth c Q A ls hC hl hP hD hA hS hend
  have hl : lv_has ls 3 [(0, .ref (ha 0)), (1, .int (iI hour)), (2, .int (iI what))] := hl
  obtain ⟨H, hH⟩ : ∃ H : Heap, H = s.heap := ⟨_, rfl⟩
  have hS : va_S A s.heap H [] := by rw [hH]; exact hS
  rw [← hH] at hP
  obtain ⟨locs, hlocs⟩ : ∃ locs : List Loc, locs = [] := ⟨_, rfl⟩
  rw [← hlocs] at hS
  suffices hgo : W p l e r4_hourOf s m args below meth c H locs 0 0 Q (F0 m 0 ls []) by rw [← hH, ← hlocs]; exact hgo
  clear hH hlocs
  have qB := hB.1
  have q12 := hB.2.1
  have q8 := hB.2.2
  refine x_il hC hl 1 dX4_hourOf_0 rfl rfl ?_
  refine x_sI (As := [.int (iI hour)]) hC (k4_isHour l D cs hour (by first | assumption | omega)) lk4_79 (sub_none hP hD hS hA) hP hS rfl hl.1 rfl (Nat.le_of_ble_eq_true rfl) ⟨rfl, rfl⟩ ⟨Nat.le_of_ble_eq_true rfl, Nat.le_of_ble_eq_true rfl⟩ ⟨Nat.le_of_ble_eq_true rfl, Nat.le_of_ble_eq_true rfl⟩ dX4_hourOf_1 (fun H locs hP hD hS hHs => ?_)
  refine x_if_ne_b hC 10 dX4_hourOf_4 (by decide) (fun c_4 => ?_) (fun c_4 => ?_)
  · refine x_il hC hl 2 dX4_hourOf_10 rfl rfl ?_
    by_cases c_11_0 : what = 0
    · refine x_look (off := 25) hC 36 dX4_hourOf_11 rfl (by rw [c_11_0]; omega) (by rw [c_11_0]; first | done | rfl) (by decide) ?_
      refine x_al hC hl 0 dX4_hourOf_36 rfl rfl ?_
      refine x_get4 (v := .ref (hn 0)) hC hP 0 rfl 0 (by decide) tb_201 rfl rfl dX4_hourOf_37 ?_
      refine x_il hC hl 1 dX4_hourOf_40 rfl rfl ?_
      refine x_vI (As := [.int (iI hour)]) hC (k0_talksAt l D cs hn nO nG nF nE nZ nP nR nC nT hour (by first | assumption | omega) (by first | assumption | omega)) lk4_86 (q0 := 1) (ci := 0) rfl rfl rfl (sub_par0 (ws' := wX ha hn ht hh hs ++ (wB hn cs nO nG nF nE nZ nP nR nC nT)) [1, 2, 3, 4, 5, 6, 7, 8] [0] hP hD hS hA rfl rfl (by decide) rfl rfl rfl) hP hS rfl hl.1 rfl (Nat.le_of_ble_eq_true rfl) ⟨rfl, rfl⟩ ⟨Nat.le_of_ble_eq_true rfl, Nat.le_of_ble_eq_true rfl⟩ ⟨Nat.le_of_ble_eq_true rfl, Nat.le_of_ble_eq_true rfl⟩ dX4_hourOf_41 (fun H locs hP hD hS hHs => ?_)
      have q_41 := bAt_rg nF nE nP hour (n := 20) (by omega)
      exact x_retI ((by rw [iif_t c_4]; first | (rw [iif_t (by omega)]; done) | (rw [iif_f (by omega), iif_t (by omega)]; done) | (rw [iif_f (by omega), iif_f (by omega)]; done) : iI (bAt nF nE nP hour 20) = iif (0 ≤ hour ∧ hour ≤ 47) (iif (what = 0) (iI (bAt nF nE nP hour 20)) (iif (what = 1) (mskI (fun t => nO t.toNat = true ∧ ¬ nT t hour.toNat = true) 8) (iI (-1000001)))) (iI (-1000001)))) hend hP hD hS dX4_hourOf_44
    by_cases c_11_1 : what = 1
    · refine x_look (off := 34) hC 45 dX4_hourOf_11 rfl (by rw [c_11_1]; omega) (by rw [c_11_1]; first | done | rfl) (by decide) ?_
      refine x_al hC hl 0 dX4_hourOf_45 rfl rfl ?_
      refine x_get4 (v := .ref (hn 0)) hC hP 0 rfl 0 (by decide) tb_201 rfl rfl dX4_hourOf_46 ?_
      refine x_il hC hl 1 dX4_hourOf_49 rfl rfl ?_
      refine x_vI (As := [.int (iI hour)]) hC (k0_freeRoomsAt l D cs hn nO nG nF nE nZ nP nR nC nT hour (by first | assumption | omega) (by first | assumption | omega)) lk4_89 (q0 := 1) (ci := 0) rfl rfl rfl (sub_par0 (ws' := wX ha hn ht hh hs ++ (wB hn cs nO nG nF nE nZ nP nR nC nT)) [1, 2, 3, 4, 5, 6, 7, 8] [0] hP hD hS hA rfl rfl (by decide) rfl rfl rfl) hP hS rfl hl.1 rfl (Nat.le_of_ble_eq_true rfl) ⟨rfl, rfl⟩ ⟨Nat.le_of_ble_eq_true rfl, Nat.le_of_ble_eq_true rfl⟩ ⟨Nat.le_of_ble_eq_true rfl, Nat.le_of_ble_eq_true rfl⟩ dX4_hourOf_50 (fun H locs hP hD hS hHs => ?_)
      exact x_retI ((by rw [iif_t c_4]; first | (rw [iif_t (by omega)]; done) | (rw [iif_f (by omega), iif_t (by omega)]; done) | (rw [iif_f (by omega), iif_f (by omega)]; done) : mskI (fun t => nO t.toNat = true ∧ ¬ nT t hour.toNat = true) (8) = iif (0 ≤ hour ∧ hour ≤ 47) (iif (what = 0) (iI (bAt nF nE nP hour 20)) (iif (what = 1) (mskI (fun t => nO t.toNat = true ∧ ¬ nT t hour.toNat = true) 8) (iI (-1000001)))) (iI (-1000001)))) hend hP hD hS dX4_hourOf_53
    refine x_look (off := 43) hC 54 dX4_hourOf_11 rfl (by omega) (by simp [Op.lookupswitch.offset]; grind) (by decide) ?_
    refine x_ldc hC (-1000001) tb_381 (by decide) dX4_hourOf_54 ?_
    exact x_retI ((by rw [iif_t c_4]; first | (rw [iif_t (by omega)]; done) | (rw [iif_f (by omega), iif_t (by omega)]; done) | (rw [iif_f (by omega), iif_f (by omega)]; done) : iI (-1000001) = iif (0 ≤ hour ∧ hour ≤ 47) (iif (what = 0) (iI (bAt nF nE nP hour 20)) (iif (what = 1) (mskI (fun t => nO t.toNat = true ∧ ¬ nT t hour.toNat = true) 8) (iI (-1000001)))) (iI (-1000001)))) hend hP hD hS dX4_hourOf_56
  · refine x_ldc hC (-1000001) tb_381 (by decide) dX4_hourOf_7 ?_
    exact x_retI ((by exact (iif_f c_4).symm : iI (-1000001) = iif (0 ≤ hour ∧ hour ≤ 47) (iif (what = 0) (iI (bAt nF nE nP hour 20)) (iif (what = 1) (mskI (fun t => nO t.toNat = true ∧ ¬ nT t hour.toNat = true) 8) (iI (-1000001)))) (iI (-1000001)))) hend hP hD hS dX4_hourOf_9
abbrev r4_would : Room := { frames := 3, cells := 0, slots := 0, locals := 78 }
set_option maxHeartbeats 4000000 in
set_option maxRecDepth 100000 in
theorem k4_would (l : Launch) (D : va_G) (cs : Nat → ClassId) (ha : Nat → Nat) (hn : Nat → Nat) (ht : Nat → Nat) (hh : Nat → Nat) (hs : Nat → Nat) (nO : Nat → Bool) (nG : Int → Int) (nF : Int → Int) (nE : Int → Int) (nZ : Int → Int) (nP : Int → Int) (nR : Int → Int) (nC : Int → Int) (nT : Int → Nat → Bool) (first : Int) (en : Int) (size : Int) (rule : Int) (hB : IBG nG nF nE nZ nP nR nC) (g_first : -2147483648 ≤ first ∧ first ≤ 2147483647) (g_en : -2147483648 ≤ en ∧ en ≤ 2147483647) (g_size : -2147483648 ≤ size ∧ size ≤ 2147483647) (g_rule : -2147483648 ≤ rule ∧ rule ≤ 2147483647) : CI l D cs yX4_would cX4_would 6 .int r4_would 0 0 [.ref (ha 0), .int (iI first), .int (iI en), .int (iI size), .int (iI rule)] (wX ha hn ht hh hs ++ (wB hn cs nO nG nF nE nZ nP nR nC nT)) (wX ha hn ht hh hs ++ (wB hn cs nO nG nF nE nZ nP nR nC nT)) (iI (iif (((0 ≤ first ∧ first ≤ 47) ∧ (first + 1 ≤ en ∧ en ≤ 48) ∧ (1 ≤ size ∧ size ≤ 9)) ∧ 0 ≤ rule ∧ rule ≤ 3) (iif ((bFor nO nR nC nT first en size rule) = -1) (-1000004) (bFor nO nR nC nT first en size rule)) (-1000001))) := by
  refine CI_start (own := RX4) (by decide) rfl rfl (Nat.le_of_ble_eq_true rfl) ?_
  intro p e s m args below meth c Q A ls hC hl hP hD hA hS hend
  have hl : lv_has ls 6 [(0, .ref (ha 0)), (1, .int (iI first)), (2, .int (iI en)), (3, .int (iI size)), (4, .int (iI rule))] := hl
  obtain ⟨H, hH⟩ : ∃ H : Heap, H = s.heap := ⟨_, rfl⟩
  have hS : va_S A s.heap H [] := by rw [hH]; exact hS
  rw [← hH] at hP
  obtain ⟨locs, hlocs⟩ : ∃ locs : List Loc, locs = [] := ⟨_, rfl⟩
  rw [← hlocs] at hS
  suffices hgo : W p l e r4_would s m args below meth c H locs 0 0 Q (F0 m 0 ls []) by rw [← hH, ← hlocs]; exact hgo
  clear hH hlocs
  have qB := hB.1
  have q12 := hB.2.1
  have q8 := hB.2.2
  refine x_il hC hl 1 dX4_would_0 rfl rfl ?_
  refine x_il hC hl 2 dX4_would_1 rfl rfl ?_
  refine x_il hC hl 3 dX4_would_2 rfl rfl ?_
  refine x_sI (As := [.int (iI first), .int (iI en), .int (iI size)]) hC (k4_isTalk l D cs first en size (by first | assumption | omega) (by first | assumption | omega) (by first | assumption | omega)) lk4_92 (sub_none hP hD hS hA) hP hS rfl hl.1 rfl (Nat.le_of_ble_eq_true rfl) ⟨rfl, rfl⟩ ⟨Nat.le_of_ble_eq_true rfl, Nat.le_of_ble_eq_true rfl⟩ ⟨Nat.le_of_ble_eq_true rfl, Nat.le_of_ble_eq_true rfl⟩ dX4_would_3 (fun H locs hP hD hS hHs => ?_)
  refine x_if_eq_b hC 17 dX4_would_6 (by decide) (fun c_6 => ?_) (fun c_6 => ?_)
  · have qn : ¬ (((0 ≤ first ∧ first ≤ 47) ∧ (first + 1 ≤ en ∧ en ≤ 48) ∧ (1 ≤ size ∧ size ≤ 9)) ∧ 0 ≤ rule ∧ rule ≤ 3) := by omega
    refine x_ldc hC (-1000001) tb_381 (by decide) dX4_would_17 ?_
    exact x_retI (congrArg iI (by exact (iif_f qn).symm : (-1000001) = iif (((0 ≤ first ∧ first ≤ 47) ∧ (first + 1 ≤ en ∧ en ≤ 48) ∧ (1 ≤ size ∧ size ≤ 9)) ∧ 0 ≤ rule ∧ rule ≤ 3) (iif ((bFor nO nR nC nT first en size rule) = -1) (-1000004) (bFor nO nR nC nT first en size rule)) (-1000001))) hend hP hD hS dX4_would_19
  · refine x_ilw hC hl 4 dX4_would_9 rfl ?_
    refine x_sI (As := [.int (iI rule)]) hC (k4_isRule l D cs rule (by first | assumption | omega)) lk4_96 (sub_none hP hD hS hA) hP hS rfl hl.1 rfl (Nat.le_of_ble_eq_true rfl) ⟨rfl, rfl⟩ ⟨Nat.le_of_ble_eq_true rfl, Nat.le_of_ble_eq_true rfl⟩ ⟨Nat.le_of_ble_eq_true rfl, Nat.le_of_ble_eq_true rfl⟩ dX4_would_11 (fun H locs hP hD hS hHs => ?_)
    refine x_if_ne_b hC 20 dX4_would_14 (by decide) (fun c_14 => ?_) (fun c_14 => ?_)
    · have qv : ((0 ≤ first ∧ first ≤ 47) ∧ (first + 1 ≤ en ∧ en ≤ 48) ∧ (1 ≤ size ∧ size ≤ 9)) ∧ 0 ≤ rule ∧ rule ≤ 3 := ⟨c_6, c_14⟩
      refine x_al hC hl 0 dX4_would_20 rfl rfl ?_
      refine x_get4 (v := .ref (hn 0)) hC hP 0 rfl 0 (by decide) tb_201 rfl rfl dX4_would_21 ?_
      refine x_il hC hl 1 dX4_would_24 rfl rfl ?_
      refine x_il hC hl 2 dX4_would_25 rfl rfl ?_
      refine x_il hC hl 3 dX4_would_26 rfl rfl ?_
      refine x_ilw hC hl 4 dX4_would_27 rfl ?_
      refine x_vI (As := [.int (iI first), .int (iI en), .int (iI size), .int (iI rule)]) hC (k0_roomFor l D cs hn nO nG nF nE nZ nP nR nC nT first en size rule (by first | assumption | omega) (by first | assumption | omega) (by first | assumption | omega) (by first | assumption | omega)) lk4_99 (q0 := 1) (ci := 0) rfl rfl rfl (sub_par0 (ws' := wX ha hn ht hh hs ++ (wB hn cs nO nG nF nE nZ nP nR nC nT)) [1, 2, 3, 4, 5, 6, 7, 8] [0] hP hD hS hA rfl rfl (by decide) rfl rfl rfl) hP hS rfl hl.1 rfl (Nat.le_of_ble_eq_true rfl) ⟨rfl, rfl⟩ ⟨Nat.le_of_ble_eq_true rfl, Nat.le_of_ble_eq_true rfl⟩ ⟨Nat.le_of_ble_eq_true rfl, Nat.le_of_ble_eq_true rfl⟩ dX4_would_29 (fun H locs hP hD hS hHs => ?_)
      have q_29 := bFor_rg (by assumption) nO nT (b := first) en size rule (by omega)
      refine x_isw hC [(5, .int (iI (bFor nO nR nC nT first en size rule))), (0, .ref (ha 0)), (1, .int (iI first)), (2, .int (iI en)), (3, .int (iI size)), (4, .int (iI rule))] hl dX4_would_32 (by decide) rfl (fun ls hl => ?_)
      refine x_ilw hC hl 0 dX4_would_34 rfl ?_
      refine x_ic hC dX4_would_36 ?_
      refine x_ic_ne hC 45 dX4_would_37 (by decide) (by omega) (by omega) (fun c_37 => ?_) (fun c_37 => ?_)
      · refine x_ilw hC hl 0 dX4_would_45 rfl ?_
        exact x_retI (congrArg iI (by rw [iif_t qv]; first | exact (iif_t c_37).symm | exact (iif_f c_37).symm : bFor nO nR nC nT first en size rule = iif (((0 ≤ first ∧ first ≤ 47) ∧ (first + 1 ≤ en ∧ en ≤ 48) ∧ (1 ≤ size ∧ size ≤ 9)) ∧ 0 ≤ rule ∧ rule ≤ 3) (iif ((bFor nO nR nC nT first en size rule) = -1) (-1000004) (bFor nO nR nC nT first en size rule)) (-1000001))) hend hP hD hS dX4_would_47
      · refine x_ldc hC (-1000004) tb_434 (by decide) dX4_would_40 ?_
        refine x_goto hC 47 dX4_would_42 (by decide) ?_
        exact x_retI (congrArg iI (by rw [iif_t qv]; first | exact (iif_t c_37).symm | exact (iif_f c_37).symm : (-1000004) = iif (((0 ≤ first ∧ first ≤ 47) ∧ (first + 1 ≤ en ∧ en ≤ 48) ∧ (1 ≤ size ∧ size ≤ 9)) ∧ 0 ≤ rule ∧ rule ≤ 3) (iif ((bFor nO nR nC nT first en size rule) = -1) (-1000004) (bFor nO nR nC nT first en size rule)) (-1000001))) hend hP hD hS dX4_would_47
    · have qn : ¬ (((0 ≤ first ∧ first ≤ 47) ∧ (first + 1 ≤ en ∧ en ≤ 48) ∧ (1 ≤ size ∧ size ≤ 9)) ∧ 0 ≤ rule ∧ rule ≤ 3) := by omega
      refine x_ldc hC (-1000001) tb_381 (by decide) dX4_would_17 ?_
      exact x_retI (congrArg iI (by exact (iif_f qn).symm : (-1000001) = iif (((0 ≤ first ∧ first ≤ 47) ∧ (first + 1 ≤ en ∧ en ≤ 48) ∧ (1 ≤ size ∧ size ≤ 9)) ∧ 0 ≤ rule ∧ rule ≤ 3) (iif ((bFor nO nR nC nT first en size rule) = -1) (-1000004) (bFor nO nR nC nT first en size rule)) (-1000001))) hend hP hD hS dX4_would_19
abbrev r4_known : Room := { frames := 5, cells := 0, slots := 0, locals := 123 }
set_option maxHeartbeats 4000000 in
set_option maxRecDepth 100000 in
theorem k4_known (l : Launch) (D : va_G) (cs : Nat → ClassId) (ha : Nat → Nat) (hn : Nat → Nat) (ht : Nat → Nat) (hh : Nat → Nat) (hs : Nat → Nat) (nO : Nat → Bool) (nG : Int → Int) (nF : Int → Int) (nE : Int → Int) (nZ : Int → Int) (nP : Int → Int) (nR : Int → Int) (nC : Int → Int) (nT : Int → Nat → Bool) (tO : Nat → Bool) (tG : Int → Int) (tF : Int → Int) (tE : Int → Int) (tZ : Int → Int) (tP : Int → Int) (tR : Int → Int) (tC : Int → Int) (tT : Int → Nat → Bool) (rule : Int) (what : Int) (hB : IBG nG nF nE nZ nP nR nC) (g_rule : -2147483648 ≤ rule ∧ rule ≤ 2147483647) (g_what : -2147483648 ≤ what ∧ what ≤ 2147483647) : CI l D cs yX4_known cX4_known 4 .int r4_known 0 0 [.ref (ha 0), .int (iI rule), .int (iI what)] (wX ha hn ht hh hs ++ (wB hn cs nO nG nF nE nZ nP nR nC nT ++ (wB ht cs tO tG tF tE tZ tP tR tC tT))) (wX ha hn ht hh hs ++ (wB hn cs nO nG nF nE nZ nP nR nC nT ++ (wB ht cs (iif ((0 ≤ rule ∧ rule ≤ 3) ∧ 0 ≤ what ∧ what ≤ 2) ((bAnew nF nE nZ nR nC nG nP nT rule).2.1) tO) (iif ((0 ≤ rule ∧ rule ≤ 3) ∧ 0 ≤ what ∧ what ≤ 2) ((bAnew nF nE nZ nR nC nG nP nT rule).2.2.1) tG) (iif ((0 ≤ rule ∧ rule ≤ 3) ∧ 0 ≤ what ∧ what ≤ 2) (nF) tF) (iif ((0 ≤ rule ∧ rule ≤ 3) ∧ 0 ≤ what ∧ what ≤ 2) (nE) tE) (iif ((0 ≤ rule ∧ rule ≤ 3) ∧ 0 ≤ what ∧ what ≤ 2) (nZ) tZ) (iif ((0 ≤ rule ∧ rule ≤ 3) ∧ 0 ≤ what ∧ what ≤ 2) ((bAnew nF nE nZ nR nC nG nP nT rule).2.2.2.1) tP) (iif ((0 ≤ rule ∧ rule ≤ 3) ∧ 0 ≤ what ∧ what ≤ 2) (nR) tR) (iif ((0 ≤ rule ∧ rule ≤ 3) ∧ 0 ≤ what ∧ what ≤ 2) (nC) tC) (iif ((0 ≤ rule ∧ rule ≤ 3) ∧ 0 ≤ what ∧ what ≤ 2) ((bAnew nF nE nZ nR nC nG nP nT rule).2.2.2.2) tT)))) (iI (iif ((0 ≤ rule ∧ rule ≤ 3) ∧ 0 ≤ what ∧ what ≤ 2) (iif (bAnV nF nE nZ nR nC nG nP nT rule < 0 ∨ what = 0) (bAnV nF nE nZ nR nC nG nP nT rule) (iif (what = 1) ((cntN (bAnew nF nE nZ nR nC nG nP nT rule).2.1 8 : Nat) : Int) (bElse (bAnew nF nE nZ nR nC nG nP nT rule).2.2.2.1 nP 20))) (-1000001))) := by
  refine CI_start (own := RX4) (by decide) rfl rfl (Nat.le_of_ble_eq_true rfl) ?_
  intro p e s m args below meth c Q A ls hC hl hP hD hA hS hend
  have hl : lv_has ls 4 [(0, .ref (ha 0)), (1, .int (iI rule)), (2, .int (iI what))] := hl
  obtain ⟨H, hH⟩ : ∃ H : Heap, H = s.heap := ⟨_, rfl⟩
  have hS : va_S A s.heap H [] := by rw [hH]; exact hS
  rw [← hH] at hP
  obtain ⟨locs, hlocs⟩ : ∃ locs : List Loc, locs = [] := ⟨_, rfl⟩
  rw [← hlocs] at hS
  suffices hgo : W p l e r4_known s m args below meth c H locs 0 0 Q (F0 m 0 ls []) by rw [← hH, ← hlocs]; exact hgo
  clear hH hlocs
  have qB := hB.1
  have q12 := hB.2.1
  have q8 := hB.2.2
  refine x_il hC hl 1 dX4_known_0 rfl rfl ?_
  refine x_sI (As := [.int (iI rule)]) hC (k4_isRule l D cs rule (by first | assumption | omega)) lk4_96 (sub_none hP hD hS hA) hP hS rfl hl.1 rfl (Nat.le_of_ble_eq_true rfl) ⟨rfl, rfl⟩ ⟨Nat.le_of_ble_eq_true rfl, Nat.le_of_ble_eq_true rfl⟩ ⟨Nat.le_of_ble_eq_true rfl, Nat.le_of_ble_eq_true rfl⟩ dX4_known_1 (fun H locs hP hD hS hHs => ?_)
  refine x_if_eq_b hC 16 dX4_known_4 (by decide) (fun c_4 => ?_) (fun c_4 => ?_)
  · have qn : ¬ ((0 ≤ rule ∧ rule ≤ 3) ∧ 0 ≤ what ∧ what ≤ 2) := by omega
    refine x_ldc hC (-1000001) tb_381 (by decide) dX4_known_16 ?_
    have ew : (wX ha hn ht hh hs ++ (wB hn cs nO nG nF nE nZ nP nR nC nT ++ (wB ht cs tO tG tF tE tZ tP tR tC tT))) = (wX ha hn ht hh hs ++ (wB hn cs nO nG nF nE nZ nP nR nC nT ++ (wB ht cs (iif ((0 ≤ rule ∧ rule ≤ 3) ∧ 0 ≤ what ∧ what ≤ 2) ((bAnew nF nE nZ nR nC nG nP nT rule).2.1) tO) (iif ((0 ≤ rule ∧ rule ≤ 3) ∧ 0 ≤ what ∧ what ≤ 2) ((bAnew nF nE nZ nR nC nG nP nT rule).2.2.1) tG) (iif ((0 ≤ rule ∧ rule ≤ 3) ∧ 0 ≤ what ∧ what ≤ 2) (nF) tF) (iif ((0 ≤ rule ∧ rule ≤ 3) ∧ 0 ≤ what ∧ what ≤ 2) (nE) tE) (iif ((0 ≤ rule ∧ rule ≤ 3) ∧ 0 ≤ what ∧ what ≤ 2) (nZ) tZ) (iif ((0 ≤ rule ∧ rule ≤ 3) ∧ 0 ≤ what ∧ what ≤ 2) ((bAnew nF nE nZ nR nC nG nP nT rule).2.2.2.1) tP) (iif ((0 ≤ rule ∧ rule ≤ 3) ∧ 0 ≤ what ∧ what ≤ 2) (nR) tR) (iif ((0 ≤ rule ∧ rule ≤ 3) ∧ 0 ≤ what ∧ what ≤ 2) (nC) tC) (iif ((0 ≤ rule ∧ rule ≤ 3) ∧ 0 ≤ what ∧ what ≤ 2) ((bAnew nF nE nZ nR nC nG nP nT rule).2.2.2.2) tT)))) := (appc rfl (appc rfl (wBc (by first | exact (iif_t qv).symm | exact (iif_f qn).symm : tO = iif ((0 ≤ rule ∧ rule ≤ 3) ∧ 0 ≤ what ∧ what ≤ 2) ((bAnew nF nE nZ nR nC nG nP nT rule).2.1) tO) (by first | exact (iif_t qv).symm | exact (iif_f qn).symm : tG = iif ((0 ≤ rule ∧ rule ≤ 3) ∧ 0 ≤ what ∧ what ≤ 2) ((bAnew nF nE nZ nR nC nG nP nT rule).2.2.1) tG) (by first | exact (iif_t qv).symm | exact (iif_f qn).symm : tF = iif ((0 ≤ rule ∧ rule ≤ 3) ∧ 0 ≤ what ∧ what ≤ 2) (nF) tF) (by first | exact (iif_t qv).symm | exact (iif_f qn).symm : tE = iif ((0 ≤ rule ∧ rule ≤ 3) ∧ 0 ≤ what ∧ what ≤ 2) (nE) tE) (by first | exact (iif_t qv).symm | exact (iif_f qn).symm : tZ = iif ((0 ≤ rule ∧ rule ≤ 3) ∧ 0 ≤ what ∧ what ≤ 2) (nZ) tZ) (by first | exact (iif_t qv).symm | exact (iif_f qn).symm : tP = iif ((0 ≤ rule ∧ rule ≤ 3) ∧ 0 ≤ what ∧ what ≤ 2) ((bAnew nF nE nZ nR nC nG nP nT rule).2.2.2.1) tP) (by first | exact (iif_t qv).symm | exact (iif_f qn).symm : tR = iif ((0 ≤ rule ∧ rule ≤ 3) ∧ 0 ≤ what ∧ what ≤ 2) (nR) tR) (by first | exact (iif_t qv).symm | exact (iif_f qn).symm : tC = iif ((0 ≤ rule ∧ rule ≤ 3) ∧ 0 ≤ what ∧ what ≤ 2) (nC) tC) (by first | exact (iif_t qv).symm | exact (iif_f qn).symm : tT = iif ((0 ≤ rule ∧ rule ≤ 3) ∧ 0 ≤ what ∧ what ≤ 2) ((bAnew nF nE nZ nR nC nG nP nT rule).2.2.2.2) tT))))
    have hP := vPe hP ew
    have hD := vDe hD ew
    exact x_retI (congrArg iI (by exact (iif_f qn).symm : (-1000001) = iif ((0 ≤ rule ∧ rule ≤ 3) ∧ 0 ≤ what ∧ what ≤ 2) (iif (bAnV nF nE nZ nR nC nG nP nT rule < 0 ∨ what = 0) (bAnV nF nE nZ nR nC nG nP nT rule) (iif (what = 1) ((cntN (bAnew nF nE nZ nR nC nG nP nT rule).2.1 8 : Nat) : Int) (bElse (bAnew nF nE nZ nR nC nG nP nT rule).2.2.2.1 nP 20))) (-1000001))) hend hP hD hS dX4_known_18
  · refine x_il hC hl 2 dX4_known_7 rfl rfl ?_
    refine x_if_lt hC 16 dX4_known_8 (by decide) (by omega) (fun c_8 => ?_) (fun c_8 => ?_)
    · have qn : ¬ ((0 ≤ rule ∧ rule ≤ 3) ∧ 0 ≤ what ∧ what ≤ 2) := by omega
      refine x_ldc hC (-1000001) tb_381 (by decide) dX4_known_16 ?_
      have ew_2 : (wX ha hn ht hh hs ++ (wB hn cs nO nG nF nE nZ nP nR nC nT ++ (wB ht cs tO tG tF tE tZ tP tR tC tT))) = (wX ha hn ht hh hs ++ (wB hn cs nO nG nF nE nZ nP nR nC nT ++ (wB ht cs (iif ((0 ≤ rule ∧ rule ≤ 3) ∧ 0 ≤ what ∧ what ≤ 2) ((bAnew nF nE nZ nR nC nG nP nT rule).2.1) tO) (iif ((0 ≤ rule ∧ rule ≤ 3) ∧ 0 ≤ what ∧ what ≤ 2) ((bAnew nF nE nZ nR nC nG nP nT rule).2.2.1) tG) (iif ((0 ≤ rule ∧ rule ≤ 3) ∧ 0 ≤ what ∧ what ≤ 2) (nF) tF) (iif ((0 ≤ rule ∧ rule ≤ 3) ∧ 0 ≤ what ∧ what ≤ 2) (nE) tE) (iif ((0 ≤ rule ∧ rule ≤ 3) ∧ 0 ≤ what ∧ what ≤ 2) (nZ) tZ) (iif ((0 ≤ rule ∧ rule ≤ 3) ∧ 0 ≤ what ∧ what ≤ 2) ((bAnew nF nE nZ nR nC nG nP nT rule).2.2.2.1) tP) (iif ((0 ≤ rule ∧ rule ≤ 3) ∧ 0 ≤ what ∧ what ≤ 2) (nR) tR) (iif ((0 ≤ rule ∧ rule ≤ 3) ∧ 0 ≤ what ∧ what ≤ 2) (nC) tC) (iif ((0 ≤ rule ∧ rule ≤ 3) ∧ 0 ≤ what ∧ what ≤ 2) ((bAnew nF nE nZ nR nC nG nP nT rule).2.2.2.2) tT)))) := (appc rfl (appc rfl (wBc (by first | exact (iif_t qv).symm | exact (iif_f qn).symm : tO = iif ((0 ≤ rule ∧ rule ≤ 3) ∧ 0 ≤ what ∧ what ≤ 2) ((bAnew nF nE nZ nR nC nG nP nT rule).2.1) tO) (by first | exact (iif_t qv).symm | exact (iif_f qn).symm : tG = iif ((0 ≤ rule ∧ rule ≤ 3) ∧ 0 ≤ what ∧ what ≤ 2) ((bAnew nF nE nZ nR nC nG nP nT rule).2.2.1) tG) (by first | exact (iif_t qv).symm | exact (iif_f qn).symm : tF = iif ((0 ≤ rule ∧ rule ≤ 3) ∧ 0 ≤ what ∧ what ≤ 2) (nF) tF) (by first | exact (iif_t qv).symm | exact (iif_f qn).symm : tE = iif ((0 ≤ rule ∧ rule ≤ 3) ∧ 0 ≤ what ∧ what ≤ 2) (nE) tE) (by first | exact (iif_t qv).symm | exact (iif_f qn).symm : tZ = iif ((0 ≤ rule ∧ rule ≤ 3) ∧ 0 ≤ what ∧ what ≤ 2) (nZ) tZ) (by first | exact (iif_t qv).symm | exact (iif_f qn).symm : tP = iif ((0 ≤ rule ∧ rule ≤ 3) ∧ 0 ≤ what ∧ what ≤ 2) ((bAnew nF nE nZ nR nC nG nP nT rule).2.2.2.1) tP) (by first | exact (iif_t qv).symm | exact (iif_f qn).symm : tR = iif ((0 ≤ rule ∧ rule ≤ 3) ∧ 0 ≤ what ∧ what ≤ 2) (nR) tR) (by first | exact (iif_t qv).symm | exact (iif_f qn).symm : tC = iif ((0 ≤ rule ∧ rule ≤ 3) ∧ 0 ≤ what ∧ what ≤ 2) (nC) tC) (by first | exact (iif_t qv).symm | exact (iif_f qn).symm : tT = iif ((0 ≤ rule ∧ rule ≤ 3) ∧ 0 ≤ what ∧ what ≤ 2) ((bAnew nF nE nZ nR nC nG nP nT rule).2.2.2.2) tT))))
      have hP := vPe hP ew_2
      have hD := vDe hD ew_2
      exact x_retI (congrArg iI (by exact (iif_f qn).symm : (-1000001) = iif ((0 ≤ rule ∧ rule ≤ 3) ∧ 0 ≤ what ∧ what ≤ 2) (iif (bAnV nF nE nZ nR nC nG nP nT rule < 0 ∨ what = 0) (bAnV nF nE nZ nR nC nG nP nT rule) (iif (what = 1) ((cntN (bAnew nF nE nZ nR nC nG nP nT rule).2.1 8 : Nat) : Int) (bElse (bAnew nF nE nZ nR nC nG nP nT rule).2.2.2.1 nP 20))) (-1000001))) hend hP hD hS dX4_known_18
    · refine x_il hC hl 2 dX4_known_11 rfl rfl ?_
      refine x_ic hC dX4_known_12 ?_
      refine x_ic_le hC 19 dX4_known_13 (by decide) (by omega) (by omega) (fun c_13 => ?_) (fun c_13 => ?_)
      · have qv : (0 ≤ rule ∧ rule ≤ 3) ∧ 0 ≤ what ∧ what ≤ 2 := by omega
        refine x_al hC hl 0 dX4_known_19 rfl rfl ?_
        refine x_il hC hl 1 dX4_known_20 rfl rfl ?_
        refine x_vI (As := [.int (iI rule)]) hC (k4_tryAnew l D cs ha hn ht hh hs nO nG nF nE nZ nP nR nC nT tO tG tF tE tZ tP tR tC tT rule (by first | assumption | omega) (by first | assumption | omega)) lk4_62 (q0 := 0) (ci := 4) rfl rfl rfl (sub_all hP hD hS hA) hP hS rfl hl.1 rfl (Nat.le_of_ble_eq_true rfl) ⟨rfl, rfl⟩ ⟨Nat.le_of_ble_eq_true rfl, Nat.le_of_ble_eq_true rfl⟩ ⟨Nat.le_of_ble_eq_true rfl, Nat.le_of_ble_eq_true rfl⟩ dX4_known_21 (fun H locs hP hD hS hHs => ?_)
        have hP : va_P D vwCl (wX ha hn ht hh hs ++ (wB hn cs nO nG nF nE nZ nP nR nC nT ++ (wB ht cs ((bAnew nF nE nZ nR nC nG nP nT rule).2.1) ((bAnew nF nE nZ nR nC nG nP nT rule).2.2.1) nF nE nZ ((bAnew nF nE nZ nR nC nG nP nT rule).2.2.2.1) nR nC ((bAnew nF nE nZ nR nC nG nP nT rule).2.2.2.2)))) H := hP
        have hD : va_D A (wX ha hn ht hh hs ++ (wB hn cs nO nG nF nE nZ nP nR nC nT ++ (wB ht cs ((bAnew nF nE nZ nR nC nG nP nT rule).2.1) ((bAnew nF nE nZ nR nC nG nP nT rule).2.2.1) nF nE nZ ((bAnew nF nE nZ nR nC nG nP nT rule).2.2.2.1) nR nC ((bAnew nF nE nZ nR nC nG nP nT rule).2.2.2.2)))) := hD
        have q_21 := bAnV_rg (F := nF) (E := nE) (Z := nZ) (R := nR) (C := nC) (G := nG) (P := nP) nT rule (by first | assumption | exact hB.1)
        refine x_is hC [(3, .int (iI (bAnV nF nE nZ nR nC nG nP nT rule))), (0, .ref (ha 0)), (1, .int (iI rule)), (2, .int (iI what))] hl dX4_known_24 rfl (by decide) rfl (fun ls hl => ?_)
        refine x_il hC hl 0 dX4_known_25 rfl rfl ?_
        refine x_if_lt hC 33 dX4_known_26 (by decide) (by omega) (fun c_26 => ?_) (fun c_26 => ?_)
        · refine x_il hC hl 0 dX4_known_33 rfl rfl ?_
          have ew_3 : (wX ha hn ht hh hs ++ (wB hn cs nO nG nF nE nZ nP nR nC nT ++ (wB ht cs ((bAnew nF nE nZ nR nC nG nP nT rule).2.1) ((bAnew nF nE nZ nR nC nG nP nT rule).2.2.1) nF nE nZ ((bAnew nF nE nZ nR nC nG nP nT rule).2.2.2.1) nR nC ((bAnew nF nE nZ nR nC nG nP nT rule).2.2.2.2)))) = (wX ha hn ht hh hs ++ (wB hn cs nO nG nF nE nZ nP nR nC nT ++ (wB ht cs (iif ((0 ≤ rule ∧ rule ≤ 3) ∧ 0 ≤ what ∧ what ≤ 2) ((bAnew nF nE nZ nR nC nG nP nT rule).2.1) tO) (iif ((0 ≤ rule ∧ rule ≤ 3) ∧ 0 ≤ what ∧ what ≤ 2) ((bAnew nF nE nZ nR nC nG nP nT rule).2.2.1) tG) (iif ((0 ≤ rule ∧ rule ≤ 3) ∧ 0 ≤ what ∧ what ≤ 2) (nF) tF) (iif ((0 ≤ rule ∧ rule ≤ 3) ∧ 0 ≤ what ∧ what ≤ 2) (nE) tE) (iif ((0 ≤ rule ∧ rule ≤ 3) ∧ 0 ≤ what ∧ what ≤ 2) (nZ) tZ) (iif ((0 ≤ rule ∧ rule ≤ 3) ∧ 0 ≤ what ∧ what ≤ 2) ((bAnew nF nE nZ nR nC nG nP nT rule).2.2.2.1) tP) (iif ((0 ≤ rule ∧ rule ≤ 3) ∧ 0 ≤ what ∧ what ≤ 2) (nR) tR) (iif ((0 ≤ rule ∧ rule ≤ 3) ∧ 0 ≤ what ∧ what ≤ 2) (nC) tC) (iif ((0 ≤ rule ∧ rule ≤ 3) ∧ 0 ≤ what ∧ what ≤ 2) ((bAnew nF nE nZ nR nC nG nP nT rule).2.2.2.2) tT)))) := (appc rfl (appc rfl (wBc (by first | exact (iif_t qv).symm | exact (iif_f qn).symm : (bAnew nF nE nZ nR nC nG nP nT rule).2.1 = iif ((0 ≤ rule ∧ rule ≤ 3) ∧ 0 ≤ what ∧ what ≤ 2) ((bAnew nF nE nZ nR nC nG nP nT rule).2.1) tO) (by first | exact (iif_t qv).symm | exact (iif_f qn).symm : (bAnew nF nE nZ nR nC nG nP nT rule).2.2.1 = iif ((0 ≤ rule ∧ rule ≤ 3) ∧ 0 ≤ what ∧ what ≤ 2) ((bAnew nF nE nZ nR nC nG nP nT rule).2.2.1) tG) (by first | exact (iif_t qv).symm | exact (iif_f qn).symm : nF = iif ((0 ≤ rule ∧ rule ≤ 3) ∧ 0 ≤ what ∧ what ≤ 2) (nF) tF) (by first | exact (iif_t qv).symm | exact (iif_f qn).symm : nE = iif ((0 ≤ rule ∧ rule ≤ 3) ∧ 0 ≤ what ∧ what ≤ 2) (nE) tE) (by first | exact (iif_t qv).symm | exact (iif_f qn).symm : nZ = iif ((0 ≤ rule ∧ rule ≤ 3) ∧ 0 ≤ what ∧ what ≤ 2) (nZ) tZ) (by first | exact (iif_t qv).symm | exact (iif_f qn).symm : (bAnew nF nE nZ nR nC nG nP nT rule).2.2.2.1 = iif ((0 ≤ rule ∧ rule ≤ 3) ∧ 0 ≤ what ∧ what ≤ 2) ((bAnew nF nE nZ nR nC nG nP nT rule).2.2.2.1) tP) (by first | exact (iif_t qv).symm | exact (iif_f qn).symm : nR = iif ((0 ≤ rule ∧ rule ≤ 3) ∧ 0 ≤ what ∧ what ≤ 2) (nR) tR) (by first | exact (iif_t qv).symm | exact (iif_f qn).symm : nC = iif ((0 ≤ rule ∧ rule ≤ 3) ∧ 0 ≤ what ∧ what ≤ 2) (nC) tC) (by first | exact (iif_t qv).symm | exact (iif_f qn).symm : (bAnew nF nE nZ nR nC nG nP nT rule).2.2.2.2 = iif ((0 ≤ rule ∧ rule ≤ 3) ∧ 0 ≤ what ∧ what ≤ 2) ((bAnew nF nE nZ nR nC nG nP nT rule).2.2.2.2) tT))))
          have hP := vPe hP ew_3
          have hD := vDe hD ew_3
          exact x_retI (congrArg iI (by rw [iif_t qv]; exact (iif_t (by omega)).symm : bAnV nF nE nZ nR nC nG nP nT rule = iif ((0 ≤ rule ∧ rule ≤ 3) ∧ 0 ≤ what ∧ what ≤ 2) (iif (bAnV nF nE nZ nR nC nG nP nT rule < 0 ∨ what = 0) (bAnV nF nE nZ nR nC nG nP nT rule) (iif (what = 1) ((cntN (bAnew nF nE nZ nR nC nG nP nT rule).2.1 8 : Nat) : Int) (bElse (bAnew nF nE nZ nR nC nG nP nT rule).2.2.2.1 nP 20))) (-1000001))) hend hP hD hS dX4_known_34
        · refine x_il hC hl 3 dX4_known_29 rfl rfl ?_
          refine x_if_ne hC 35 dX4_known_30 (by decide) (by omega) (fun c_30 => ?_) (fun c_30 => ?_)
          · refine x_il hC hl 3 dX4_known_35 rfl rfl ?_
            refine x_ic hC dX4_known_36 ?_
            refine x_ic_ne hC 50 dX4_known_37 (by decide) (by omega) (by omega) (fun c_37 => ?_) (fun c_37 => ?_)
            · have qI := bAnew_IB (G := nG) nT rule qB
              refine x_al hC hl 1 dX4_known_50 rfl rfl ?_
              refine x_get4 (v := .ref (ht 0)) hC hP 0 rfl 1 (by decide) tb_202 rfl rfl dX4_known_51 ?_
              refine x_al hC hl 1 dX4_known_54 rfl rfl ?_
              refine x_get4 (v := .ref (hn 0)) hC hP 0 rfl 0 (by decide) tb_201 rfl rfl dX4_known_55 ?_
              refine x_vI (As := [.ref (hn 0)]) hC (k0_placedElsewhereThan l D cs ht hn ((bAnew nF nE nZ nR nC nG nP nT rule).2.1) ((bAnew nF nE nZ nR nC nG nP nT rule).2.2.1) nF nE nZ ((bAnew nF nE nZ nR nC nG nP nT rule).2.2.2.1) nR nC ((bAnew nF nE nZ nR nC nG nP nT rule).2.2.2.2) nO nG nF nE nZ nP nR nC nT (qI) (qB)) lk4_106 (q0 := 9) (ci := 0) rfl rfl rfl (sub_par0 (ws' := wX ha hn ht hh hs ++ (wB hn cs nO nG nF nE nZ nP nR nC nT ++ (wB ht cs ((bAnew nF nE nZ nR nC nG nP nT rule).2.1) ((bAnew nF nE nZ nR nC nG nP nT rule).2.2.1) nF nE nZ ((bAnew nF nE nZ nR nC nG nP nT rule).2.2.2.1) nR nC ((bAnew nF nE nZ nR nC nG nP nT rule).2.2.2.2)))) [9, 10, 11, 12, 13, 14, 15, 16, 1, 2, 3, 4, 5, 6, 7, 8] [0] hP hD hS hA rfl rfl (by decide) rfl rfl rfl) hP hS rfl hl.1 rfl (Nat.le_of_ble_eq_true rfl) ⟨rfl, rfl⟩ ⟨Nat.le_of_ble_eq_true rfl, Nat.le_of_ble_eq_true rfl⟩ ⟨Nat.le_of_ble_eq_true rfl, Nat.le_of_ble_eq_true rfl⟩ dX4_known_58 (fun H locs hP hD hS hHs => ?_)
              have ew_4 : (wX ha hn ht hh hs ++ (wB hn cs nO nG nF nE nZ nP nR nC nT ++ (wB ht cs ((bAnew nF nE nZ nR nC nG nP nT rule).2.1) ((bAnew nF nE nZ nR nC nG nP nT rule).2.2.1) nF nE nZ ((bAnew nF nE nZ nR nC nG nP nT rule).2.2.2.1) nR nC ((bAnew nF nE nZ nR nC nG nP nT rule).2.2.2.2)))) = (wX ha hn ht hh hs ++ (wB hn cs nO nG nF nE nZ nP nR nC nT ++ (wB ht cs (iif ((0 ≤ rule ∧ rule ≤ 3) ∧ 0 ≤ what ∧ what ≤ 2) ((bAnew nF nE nZ nR nC nG nP nT rule).2.1) tO) (iif ((0 ≤ rule ∧ rule ≤ 3) ∧ 0 ≤ what ∧ what ≤ 2) ((bAnew nF nE nZ nR nC nG nP nT rule).2.2.1) tG) (iif ((0 ≤ rule ∧ rule ≤ 3) ∧ 0 ≤ what ∧ what ≤ 2) (nF) tF) (iif ((0 ≤ rule ∧ rule ≤ 3) ∧ 0 ≤ what ∧ what ≤ 2) (nE) tE) (iif ((0 ≤ rule ∧ rule ≤ 3) ∧ 0 ≤ what ∧ what ≤ 2) (nZ) tZ) (iif ((0 ≤ rule ∧ rule ≤ 3) ∧ 0 ≤ what ∧ what ≤ 2) ((bAnew nF nE nZ nR nC nG nP nT rule).2.2.2.1) tP) (iif ((0 ≤ rule ∧ rule ≤ 3) ∧ 0 ≤ what ∧ what ≤ 2) (nR) tR) (iif ((0 ≤ rule ∧ rule ≤ 3) ∧ 0 ≤ what ∧ what ≤ 2) (nC) tC) (iif ((0 ≤ rule ∧ rule ≤ 3) ∧ 0 ≤ what ∧ what ≤ 2) ((bAnew nF nE nZ nR nC nG nP nT rule).2.2.2.2) tT)))) := (appc rfl (appc rfl (wBc (by first | exact (iif_t qv).symm | exact (iif_f qn).symm : (bAnew nF nE nZ nR nC nG nP nT rule).2.1 = iif ((0 ≤ rule ∧ rule ≤ 3) ∧ 0 ≤ what ∧ what ≤ 2) ((bAnew nF nE nZ nR nC nG nP nT rule).2.1) tO) (by first | exact (iif_t qv).symm | exact (iif_f qn).symm : (bAnew nF nE nZ nR nC nG nP nT rule).2.2.1 = iif ((0 ≤ rule ∧ rule ≤ 3) ∧ 0 ≤ what ∧ what ≤ 2) ((bAnew nF nE nZ nR nC nG nP nT rule).2.2.1) tG) (by first | exact (iif_t qv).symm | exact (iif_f qn).symm : nF = iif ((0 ≤ rule ∧ rule ≤ 3) ∧ 0 ≤ what ∧ what ≤ 2) (nF) tF) (by first | exact (iif_t qv).symm | exact (iif_f qn).symm : nE = iif ((0 ≤ rule ∧ rule ≤ 3) ∧ 0 ≤ what ∧ what ≤ 2) (nE) tE) (by first | exact (iif_t qv).symm | exact (iif_f qn).symm : nZ = iif ((0 ≤ rule ∧ rule ≤ 3) ∧ 0 ≤ what ∧ what ≤ 2) (nZ) tZ) (by first | exact (iif_t qv).symm | exact (iif_f qn).symm : (bAnew nF nE nZ nR nC nG nP nT rule).2.2.2.1 = iif ((0 ≤ rule ∧ rule ≤ 3) ∧ 0 ≤ what ∧ what ≤ 2) ((bAnew nF nE nZ nR nC nG nP nT rule).2.2.2.1) tP) (by first | exact (iif_t qv).symm | exact (iif_f qn).symm : nR = iif ((0 ≤ rule ∧ rule ≤ 3) ∧ 0 ≤ what ∧ what ≤ 2) (nR) tR) (by first | exact (iif_t qv).symm | exact (iif_f qn).symm : nC = iif ((0 ≤ rule ∧ rule ≤ 3) ∧ 0 ≤ what ∧ what ≤ 2) (nC) tC) (by first | exact (iif_t qv).symm | exact (iif_f qn).symm : (bAnew nF nE nZ nR nC nG nP nT rule).2.2.2.2 = iif ((0 ≤ rule ∧ rule ≤ 3) ∧ 0 ≤ what ∧ what ≤ 2) ((bAnew nF nE nZ nR nC nG nP nT rule).2.2.2.2) tT))))
              have hP := vPe hP ew_4
              have hD := vDe hD ew_4
              exact x_retI (congrArg iI (by rw [iif_t qv, iif_f (by omega)]; first | exact (iif_t c_37).symm | exact (iif_f c_37).symm : bElse ((bAnew nF nE nZ nR nC nG nP nT rule).2.2.2.1) nP 20 = iif ((0 ≤ rule ∧ rule ≤ 3) ∧ 0 ≤ what ∧ what ≤ 2) (iif (bAnV nF nE nZ nR nC nG nP nT rule < 0 ∨ what = 0) (bAnV nF nE nZ nR nC nG nP nT rule) (iif (what = 1) ((cntN (bAnew nF nE nZ nR nC nG nP nT rule).2.1 8 : Nat) : Int) (bElse (bAnew nF nE nZ nR nC nG nP nT rule).2.2.2.1 nP 20))) (-1000001))) hend hP hD hS dX4_known_61
            · refine x_al hC hl 1 dX4_known_40 rfl rfl ?_
              refine x_get4 (v := .ref (ht 0)) hC hP 0 rfl 1 (by decide) tb_202 rfl rfl dX4_known_41 ?_
              refine x_vI (As := []) hC (k0_openRooms l D cs ht ((bAnew nF nE nZ nR nC nG nP nT rule).2.1) ((bAnew nF nE nZ nR nC nG nP nT rule).2.2.1) nF nE nZ ((bAnew nF nE nZ nR nC nG nP nT rule).2.2.2.1) nR nC ((bAnew nF nE nZ nR nC nG nP nT rule).2.2.2.2) ) lk4_103 (q0 := 9) (ci := 0) rfl rfl rfl (sub_par0 (ws' := wX ha hn ht hh hs ++ (wB hn cs nO nG nF nE nZ nP nR nC nT ++ (wB ht cs ((bAnew nF nE nZ nR nC nG nP nT rule).2.1) ((bAnew nF nE nZ nR nC nG nP nT rule).2.2.1) nF nE nZ ((bAnew nF nE nZ nR nC nG nP nT rule).2.2.2.1) nR nC ((bAnew nF nE nZ nR nC nG nP nT rule).2.2.2.2)))) [9, 10, 11, 12, 13, 14, 15, 16] [0, 1, 2, 3, 4, 5, 6, 7, 8] hP hD hS hA rfl rfl (by decide) rfl rfl rfl) hP hS rfl hl.1 rfl (Nat.le_of_ble_eq_true rfl) ⟨rfl, rfl⟩ ⟨Nat.le_of_ble_eq_true rfl, Nat.le_of_ble_eq_true rfl⟩ ⟨Nat.le_of_ble_eq_true rfl, Nat.le_of_ble_eq_true rfl⟩ dX4_known_44 (fun H locs hP hD hS hHs => ?_)
              have q_44 := cntN_le ((bAnew nF nE nZ nR nC nG nP nT rule).2.1) 8
              refine x_goto hC 61 dX4_known_47 (by decide) ?_
              have ew_5 : (wX ha hn ht hh hs ++ (wB hn cs nO nG nF nE nZ nP nR nC nT ++ (wB ht cs ((bAnew nF nE nZ nR nC nG nP nT rule).2.1) ((bAnew nF nE nZ nR nC nG nP nT rule).2.2.1) nF nE nZ ((bAnew nF nE nZ nR nC nG nP nT rule).2.2.2.1) nR nC ((bAnew nF nE nZ nR nC nG nP nT rule).2.2.2.2)))) = (wX ha hn ht hh hs ++ (wB hn cs nO nG nF nE nZ nP nR nC nT ++ (wB ht cs (iif ((0 ≤ rule ∧ rule ≤ 3) ∧ 0 ≤ what ∧ what ≤ 2) ((bAnew nF nE nZ nR nC nG nP nT rule).2.1) tO) (iif ((0 ≤ rule ∧ rule ≤ 3) ∧ 0 ≤ what ∧ what ≤ 2) ((bAnew nF nE nZ nR nC nG nP nT rule).2.2.1) tG) (iif ((0 ≤ rule ∧ rule ≤ 3) ∧ 0 ≤ what ∧ what ≤ 2) (nF) tF) (iif ((0 ≤ rule ∧ rule ≤ 3) ∧ 0 ≤ what ∧ what ≤ 2) (nE) tE) (iif ((0 ≤ rule ∧ rule ≤ 3) ∧ 0 ≤ what ∧ what ≤ 2) (nZ) tZ) (iif ((0 ≤ rule ∧ rule ≤ 3) ∧ 0 ≤ what ∧ what ≤ 2) ((bAnew nF nE nZ nR nC nG nP nT rule).2.2.2.1) tP) (iif ((0 ≤ rule ∧ rule ≤ 3) ∧ 0 ≤ what ∧ what ≤ 2) (nR) tR) (iif ((0 ≤ rule ∧ rule ≤ 3) ∧ 0 ≤ what ∧ what ≤ 2) (nC) tC) (iif ((0 ≤ rule ∧ rule ≤ 3) ∧ 0 ≤ what ∧ what ≤ 2) ((bAnew nF nE nZ nR nC nG nP nT rule).2.2.2.2) tT)))) := (appc rfl (appc rfl (wBc (by first | exact (iif_t qv).symm | exact (iif_f qn).symm : (bAnew nF nE nZ nR nC nG nP nT rule).2.1 = iif ((0 ≤ rule ∧ rule ≤ 3) ∧ 0 ≤ what ∧ what ≤ 2) ((bAnew nF nE nZ nR nC nG nP nT rule).2.1) tO) (by first | exact (iif_t qv).symm | exact (iif_f qn).symm : (bAnew nF nE nZ nR nC nG nP nT rule).2.2.1 = iif ((0 ≤ rule ∧ rule ≤ 3) ∧ 0 ≤ what ∧ what ≤ 2) ((bAnew nF nE nZ nR nC nG nP nT rule).2.2.1) tG) (by first | exact (iif_t qv).symm | exact (iif_f qn).symm : nF = iif ((0 ≤ rule ∧ rule ≤ 3) ∧ 0 ≤ what ∧ what ≤ 2) (nF) tF) (by first | exact (iif_t qv).symm | exact (iif_f qn).symm : nE = iif ((0 ≤ rule ∧ rule ≤ 3) ∧ 0 ≤ what ∧ what ≤ 2) (nE) tE) (by first | exact (iif_t qv).symm | exact (iif_f qn).symm : nZ = iif ((0 ≤ rule ∧ rule ≤ 3) ∧ 0 ≤ what ∧ what ≤ 2) (nZ) tZ) (by first | exact (iif_t qv).symm | exact (iif_f qn).symm : (bAnew nF nE nZ nR nC nG nP nT rule).2.2.2.1 = iif ((0 ≤ rule ∧ rule ≤ 3) ∧ 0 ≤ what ∧ what ≤ 2) ((bAnew nF nE nZ nR nC nG nP nT rule).2.2.2.1) tP) (by first | exact (iif_t qv).symm | exact (iif_f qn).symm : nR = iif ((0 ≤ rule ∧ rule ≤ 3) ∧ 0 ≤ what ∧ what ≤ 2) (nR) tR) (by first | exact (iif_t qv).symm | exact (iif_f qn).symm : nC = iif ((0 ≤ rule ∧ rule ≤ 3) ∧ 0 ≤ what ∧ what ≤ 2) (nC) tC) (by first | exact (iif_t qv).symm | exact (iif_f qn).symm : (bAnew nF nE nZ nR nC nG nP nT rule).2.2.2.2 = iif ((0 ≤ rule ∧ rule ≤ 3) ∧ 0 ≤ what ∧ what ≤ 2) ((bAnew nF nE nZ nR nC nG nP nT rule).2.2.2.2) tT))))
              have hP := vPe hP ew_5
              have hD := vDe hD ew_5
              exact x_retI (congrArg iI (by rw [iif_t qv, iif_f (by omega)]; first | exact (iif_t c_37).symm | exact (iif_f c_37).symm : ((cntN ((bAnew nF nE nZ nR nC nG nP nT rule).2.1) 8 : Nat) : Int) = iif ((0 ≤ rule ∧ rule ≤ 3) ∧ 0 ≤ what ∧ what ≤ 2) (iif (bAnV nF nE nZ nR nC nG nP nT rule < 0 ∨ what = 0) (bAnV nF nE nZ nR nC nG nP nT rule) (iif (what = 1) ((cntN (bAnew nF nE nZ nR nC nG nP nT rule).2.1 8 : Nat) : Int) (bElse (bAnew nF nE nZ nR nC nG nP nT rule).2.2.2.1 nP 20))) (-1000001))) hend hP hD hS dX4_known_61
          · refine x_il hC hl 0 dX4_known_33 rfl rfl ?_
            have ew_6 : (wX ha hn ht hh hs ++ (wB hn cs nO nG nF nE nZ nP nR nC nT ++ (wB ht cs ((bAnew nF nE nZ nR nC nG nP nT rule).2.1) ((bAnew nF nE nZ nR nC nG nP nT rule).2.2.1) nF nE nZ ((bAnew nF nE nZ nR nC nG nP nT rule).2.2.2.1) nR nC ((bAnew nF nE nZ nR nC nG nP nT rule).2.2.2.2)))) = (wX ha hn ht hh hs ++ (wB hn cs nO nG nF nE nZ nP nR nC nT ++ (wB ht cs (iif ((0 ≤ rule ∧ rule ≤ 3) ∧ 0 ≤ what ∧ what ≤ 2) ((bAnew nF nE nZ nR nC nG nP nT rule).2.1) tO) (iif ((0 ≤ rule ∧ rule ≤ 3) ∧ 0 ≤ what ∧ what ≤ 2) ((bAnew nF nE nZ nR nC nG nP nT rule).2.2.1) tG) (iif ((0 ≤ rule ∧ rule ≤ 3) ∧ 0 ≤ what ∧ what ≤ 2) (nF) tF) (iif ((0 ≤ rule ∧ rule ≤ 3) ∧ 0 ≤ what ∧ what ≤ 2) (nE) tE) (iif ((0 ≤ rule ∧ rule ≤ 3) ∧ 0 ≤ what ∧ what ≤ 2) (nZ) tZ) (iif ((0 ≤ rule ∧ rule ≤ 3) ∧ 0 ≤ what ∧ what ≤ 2) ((bAnew nF nE nZ nR nC nG nP nT rule).2.2.2.1) tP) (iif ((0 ≤ rule ∧ rule ≤ 3) ∧ 0 ≤ what ∧ what ≤ 2) (nR) tR) (iif ((0 ≤ rule ∧ rule ≤ 3) ∧ 0 ≤ what ∧ what ≤ 2) (nC) tC) (iif ((0 ≤ rule ∧ rule ≤ 3) ∧ 0 ≤ what ∧ what ≤ 2) ((bAnew nF nE nZ nR nC nG nP nT rule).2.2.2.2) tT)))) := (appc rfl (appc rfl (wBc (by first | exact (iif_t qv).symm | exact (iif_f qn).symm : (bAnew nF nE nZ nR nC nG nP nT rule).2.1 = iif ((0 ≤ rule ∧ rule ≤ 3) ∧ 0 ≤ what ∧ what ≤ 2) ((bAnew nF nE nZ nR nC nG nP nT rule).2.1) tO) (by first | exact (iif_t qv).symm | exact (iif_f qn).symm : (bAnew nF nE nZ nR nC nG nP nT rule).2.2.1 = iif ((0 ≤ rule ∧ rule ≤ 3) ∧ 0 ≤ what ∧ what ≤ 2) ((bAnew nF nE nZ nR nC nG nP nT rule).2.2.1) tG) (by first | exact (iif_t qv).symm | exact (iif_f qn).symm : nF = iif ((0 ≤ rule ∧ rule ≤ 3) ∧ 0 ≤ what ∧ what ≤ 2) (nF) tF) (by first | exact (iif_t qv).symm | exact (iif_f qn).symm : nE = iif ((0 ≤ rule ∧ rule ≤ 3) ∧ 0 ≤ what ∧ what ≤ 2) (nE) tE) (by first | exact (iif_t qv).symm | exact (iif_f qn).symm : nZ = iif ((0 ≤ rule ∧ rule ≤ 3) ∧ 0 ≤ what ∧ what ≤ 2) (nZ) tZ) (by first | exact (iif_t qv).symm | exact (iif_f qn).symm : (bAnew nF nE nZ nR nC nG nP nT rule).2.2.2.1 = iif ((0 ≤ rule ∧ rule ≤ 3) ∧ 0 ≤ what ∧ what ≤ 2) ((bAnew nF nE nZ nR nC nG nP nT rule).2.2.2.1) tP) (by first | exact (iif_t qv).symm | exact (iif_f qn).symm : nR = iif ((0 ≤ rule ∧ rule ≤ 3) ∧ 0 ≤ what ∧ what ≤ 2) (nR) tR) (by first | exact (iif_t qv).symm | exact (iif_f qn).symm : nC = iif ((0 ≤ rule ∧ rule ≤ 3) ∧ 0 ≤ what ∧ what ≤ 2) (nC) tC) (by first | exact (iif_t qv).symm | exact (iif_f qn).symm : (bAnew nF nE nZ nR nC nG nP nT rule).2.2.2.2 = iif ((0 ≤ rule ∧ rule ≤ 3) ∧ 0 ≤ what ∧ what ≤ 2) ((bAnew nF nE nZ nR nC nG nP nT rule).2.2.2.2) tT))))
            have hP := vPe hP ew_6
            have hD := vDe hD ew_6
            exact x_retI (congrArg iI (by rw [iif_t qv]; exact (iif_t (by omega)).symm : bAnV nF nE nZ nR nC nG nP nT rule = iif ((0 ≤ rule ∧ rule ≤ 3) ∧ 0 ≤ what ∧ what ≤ 2) (iif (bAnV nF nE nZ nR nC nG nP nT rule < 0 ∨ what = 0) (bAnV nF nE nZ nR nC nG nP nT rule) (iif (what = 1) ((cntN (bAnew nF nE nZ nR nC nG nP nT rule).2.1 8 : Nat) : Int) (bElse (bAnew nF nE nZ nR nC nG nP nT rule).2.2.2.1 nP 20))) (-1000001))) hend hP hD hS dX4_known_34
      · have qn : ¬ ((0 ≤ rule ∧ rule ≤ 3) ∧ 0 ≤ what ∧ what ≤ 2) := by omega
        refine x_ldc hC (-1000001) tb_381 (by decide) dX4_known_16 ?_
        have ew_7 : (wX ha hn ht hh hs ++ (wB hn cs nO nG nF nE nZ nP nR nC nT ++ (wB ht cs tO tG tF tE tZ tP tR tC tT))) = (wX ha hn ht hh hs ++ (wB hn cs nO nG nF nE nZ nP nR nC nT ++ (wB ht cs (iif ((0 ≤ rule ∧ rule ≤ 3) ∧ 0 ≤ what ∧ what ≤ 2) ((bAnew nF nE nZ nR nC nG nP nT rule).2.1) tO) (iif ((0 ≤ rule ∧ rule ≤ 3) ∧ 0 ≤ what ∧ what ≤ 2) ((bAnew nF nE nZ nR nC nG nP nT rule).2.2.1) tG) (iif ((0 ≤ rule ∧ rule ≤ 3) ∧ 0 ≤ what ∧ what ≤ 2) (nF) tF) (iif ((0 ≤ rule ∧ rule ≤ 3) ∧ 0 ≤ what ∧ what ≤ 2) (nE) tE) (iif ((0 ≤ rule ∧ rule ≤ 3) ∧ 0 ≤ what ∧ what ≤ 2) (nZ) tZ) (iif ((0 ≤ rule ∧ rule ≤ 3) ∧ 0 ≤ what ∧ what ≤ 2) ((bAnew nF nE nZ nR nC nG nP nT rule).2.2.2.1) tP) (iif ((0 ≤ rule ∧ rule ≤ 3) ∧ 0 ≤ what ∧ what ≤ 2) (nR) tR) (iif ((0 ≤ rule ∧ rule ≤ 3) ∧ 0 ≤ what ∧ what ≤ 2) (nC) tC) (iif ((0 ≤ rule ∧ rule ≤ 3) ∧ 0 ≤ what ∧ what ≤ 2) ((bAnew nF nE nZ nR nC nG nP nT rule).2.2.2.2) tT)))) := (appc rfl (appc rfl (wBc (by first | exact (iif_t qv).symm | exact (iif_f qn).symm : tO = iif ((0 ≤ rule ∧ rule ≤ 3) ∧ 0 ≤ what ∧ what ≤ 2) ((bAnew nF nE nZ nR nC nG nP nT rule).2.1) tO) (by first | exact (iif_t qv).symm | exact (iif_f qn).symm : tG = iif ((0 ≤ rule ∧ rule ≤ 3) ∧ 0 ≤ what ∧ what ≤ 2) ((bAnew nF nE nZ nR nC nG nP nT rule).2.2.1) tG) (by first | exact (iif_t qv).symm | exact (iif_f qn).symm : tF = iif ((0 ≤ rule ∧ rule ≤ 3) ∧ 0 ≤ what ∧ what ≤ 2) (nF) tF) (by first | exact (iif_t qv).symm | exact (iif_f qn).symm : tE = iif ((0 ≤ rule ∧ rule ≤ 3) ∧ 0 ≤ what ∧ what ≤ 2) (nE) tE) (by first | exact (iif_t qv).symm | exact (iif_f qn).symm : tZ = iif ((0 ≤ rule ∧ rule ≤ 3) ∧ 0 ≤ what ∧ what ≤ 2) (nZ) tZ) (by first | exact (iif_t qv).symm | exact (iif_f qn).symm : tP = iif ((0 ≤ rule ∧ rule ≤ 3) ∧ 0 ≤ what ∧ what ≤ 2) ((bAnew nF nE nZ nR nC nG nP nT rule).2.2.2.1) tP) (by first | exact (iif_t qv).symm | exact (iif_f qn).symm : tR = iif ((0 ≤ rule ∧ rule ≤ 3) ∧ 0 ≤ what ∧ what ≤ 2) (nR) tR) (by first | exact (iif_t qv).symm | exact (iif_f qn).symm : tC = iif ((0 ≤ rule ∧ rule ≤ 3) ∧ 0 ≤ what ∧ what ≤ 2) (nC) tC) (by first | exact (iif_t qv).symm | exact (iif_f qn).symm : tT = iif ((0 ≤ rule ∧ rule ≤ 3) ∧ 0 ≤ what ∧ what ≤ 2) ((bAnew nF nE nZ nR nC nG nP nT rule).2.2.2.2) tT))))
        have hP := vPe hP ew_7
        have hD := vDe hD ew_7
        exact x_retI (congrArg iI (by exact (iif_f qn).symm : (-1000001) = iif ((0 ≤ rule ∧ rule ≤ 3) ∧ 0 ≤ what ∧ what ≤ 2) (iif (bAnV nF nE nZ nR nC nG nP nT rule < 0 ∨ what = 0) (bAnV nF nE nZ nR nC nG nP nT rule) (iif (what = 1) ((cntN (bAnew nF nE nZ nR nC nG nP nT rule).2.1 8 : Nat) : Int) (bElse (bAnew nF nE nZ nR nC nG nP nT rule).2.2.2.1 nP 20))) (-1000001))) hend hP hD hS dX4_known_18
abbrev r4_unknowing : Room := { frames := 5, cells := 0, slots := 0, locals := 123 }
set_option maxHeartbeats 4000000 in
set_option maxRecDepth 100000 in
theorem k4_unknowing (l : Launch) (D : va_G) (cs : Nat → ClassId) (ha : Nat → Nat) (hn : Nat → Nat) (ht : Nat → Nat) (hh : Nat → Nat) (hs : Nat → Nat) (nO : Nat → Bool) (nG : Int → Int) (nF : Int → Int) (nE : Int → Int) (nZ : Int → Int) (nP : Int → Int) (nR : Int → Int) (nC : Int → Int) (nT : Int → Nat → Bool) (tO : Nat → Bool) (tG : Int → Int) (tF : Int → Int) (tE : Int → Int) (tZ : Int → Int) (tP : Int → Int) (tR : Int → Int) (tC : Int → Int) (tT : Int → Nat → Bool) (hB : IBG nG nF nE nZ nP nR nC) : CI l D cs yX4_unknowing cX4_unknowing 2 .int r4_unknowing 0 0 [.ref (ha 0)] (wX ha hn ht hh hs ++ (wB hn cs nO nG nF nE nZ nP nR nC nT ++ (wB ht cs tO tG tF tE tZ tP tR tC tT))) (wX ha hn ht hh hs ++ (wB hn cs nO nG nF nE nZ nP nR nC nT ++ (wB ht cs ((bAnew nF nE nZ nR nC nG nP nT ((nG 12))).2.1) ((bAnew nF nE nZ nR nC nG nP nT ((nG 12))).2.2.1) nF nE nZ ((bAnew nF nE nZ nR nC nG nP nT ((nG 12))).2.2.2.1) nR nC ((bAnew nF nE nZ nR nC nG nP nT ((nG 12))).2.2.2.2)))) (iI (iif (bAnV nF nE nZ nR nC nG nP nT ((nG 12)) < 0) (bAnV nF nE nZ nR nC nG nP nT ((nG 12))) ((nG 11) - bAnV nF nE nZ nR nC nG nP nT ((nG 12)) + 10000))) := by
  refine CI_start (own := RX4) (by decide) rfl rfl (Nat.le_of_ble_eq_true rfl) ?_
  intro p e s m args below meth c Q A ls hC hl hP hD hA hS hend
  have hl : lv_has ls 2 [(0, .ref (ha 0))] := hl
  obtain ⟨H, hH⟩ : ∃ H : Heap, H = s.heap := ⟨_, rfl⟩
  have hS : va_S A s.heap H [] := by rw [hH]; exact hS
  rw [← hH] at hP
  obtain ⟨locs, hlocs⟩ : ∃ locs : List Loc, locs = [] := ⟨_, rfl⟩
  rw [← hlocs] at hS
  suffices hgo : W p l e r4_unknowing s m args below meth c H locs 0 0 Q (F0 m 0 ls []) by rw [← hH, ← hlocs]; exact hgo
  clear hH hlocs
  have qB := hB.1
  have q12 := hB.2.1
  have q8 := hB.2.2
  refine x_al hC hl 0 dX4_unknowing_0 rfl rfl ?_
  refine x_al hC hl 0 dX4_unknowing_1 rfl rfl ?_
  refine x_get4 (v := .ref (hn 0)) hC hP 0 rfl 0 (by decide) tb_201 rfl rfl dX4_unknowing_2 ?_
  refine x_vI (As := []) (val := iI (nG 12)) hC (k0_ruleOfNow l D cs hn nO nG nF nE nZ nP nR nC nT ) lk4_58 (q0 := 1) (ci := 0) rfl rfl rfl (sub_par0 (ws' := wX ha hn ht hh hs ++ (wB hn cs nO nG nF nE nZ nP nR nC nT ++ (wB ht cs tO tG tF tE tZ tP tR tC tT))) [1, 2, 3, 4, 5, 6, 7, 8] [0, 9, 10, 11, 12, 13, 14, 15, 16] hP hD hS hA rfl rfl (by decide) rfl rfl rfl) hP hS rfl hl.1 rfl (Nat.le_of_ble_eq_true rfl) ⟨rfl, rfl⟩ ⟨Nat.le_of_ble_eq_true rfl, Nat.le_of_ble_eq_true rfl⟩ ⟨Nat.le_of_ble_eq_true rfl, Nat.le_of_ble_eq_true rfl⟩ dX4_unknowing_5 (fun H locs hP hD hS hHs => ?_)
  refine x_vI (As := [.int (iI (nG 12))]) hC (k4_tryAnew l D cs ha hn ht hh hs nO nG nF nE nZ nP nR nC nT tO tG tF tE tZ tP tR tC tT (nG 12) (by first | assumption | omega) (by first | assumption | omega)) lk4_62 (q0 := 0) (ci := 4) rfl rfl rfl (sub_all hP hD hS hA) hP hS rfl hl.1 rfl (Nat.le_of_ble_eq_true rfl) ⟨rfl, rfl⟩ ⟨Nat.le_of_ble_eq_true rfl, Nat.le_of_ble_eq_true rfl⟩ ⟨Nat.le_of_ble_eq_true rfl, Nat.le_of_ble_eq_true rfl⟩ dX4_unknowing_8 (fun H locs hP hD hS hHs => ?_)
  have hP : va_P D vwCl (wX ha hn ht hh hs ++ (wB hn cs nO nG nF nE nZ nP nR nC nT ++ (wB ht cs ((bAnew nF nE nZ nR nC nG nP nT (nG 12)).2.1) ((bAnew nF nE nZ nR nC nG nP nT (nG 12)).2.2.1) nF nE nZ ((bAnew nF nE nZ nR nC nG nP nT (nG 12)).2.2.2.1) nR nC ((bAnew nF nE nZ nR nC nG nP nT (nG 12)).2.2.2.2)))) H := hP
  have hD : va_D A (wX ha hn ht hh hs ++ (wB hn cs nO nG nF nE nZ nP nR nC nT ++ (wB ht cs ((bAnew nF nE nZ nR nC nG nP nT (nG 12)).2.1) ((bAnew nF nE nZ nR nC nG nP nT (nG 12)).2.2.1) nF nE nZ ((bAnew nF nE nZ nR nC nG nP nT (nG 12)).2.2.2.1) nR nC ((bAnew nF nE nZ nR nC nG nP nT (nG 12)).2.2.2.2)))) := hD
  have q_8 := bAnV_rg (F := nF) (E := nE) (Z := nZ) (R := nR) (C := nC) (G := nG) (P := nP) nT (nG 12) (by first | assumption | exact hB.1)
  refine x_is hC [(1, .int (iI (bAnV nF nE nZ nR nC nG nP nT (nG 12)))), (0, .ref (ha 0))] hl dX4_unknowing_11 rfl (by decide) rfl (fun ls hl => ?_)
  refine x_il hC hl 0 dX4_unknowing_12 rfl rfl ?_
  refine x_if_ge hC 20 dX4_unknowing_13 (by decide) (by omega) (fun c_13 => ?_) (fun c_13 => ?_)
  · refine x_al hC hl 1 dX4_unknowing_20 rfl rfl ?_
    refine x_get4 (v := .ref (hn 0)) hC hP 0 rfl 0 (by decide) tb_201 rfl rfl dX4_unknowing_21 ?_
    refine x_vI (As := []) (val := iI (nG 11)) hC (k0_paidSoFar l D cs hn nO nG nF nE nZ nP nR nC nT ) lk4_110 (q0 := 1) (ci := 0) rfl rfl rfl (sub_par0 (ws' := wX ha hn ht hh hs ++ (wB hn cs nO nG nF nE nZ nP nR nC nT ++ (wB ht cs ((bAnew nF nE nZ nR nC nG nP nT (nG 12)).2.1) ((bAnew nF nE nZ nR nC nG nP nT (nG 12)).2.2.1) nF nE nZ ((bAnew nF nE nZ nR nC nG nP nT (nG 12)).2.2.2.1) nR nC ((bAnew nF nE nZ nR nC nG nP nT (nG 12)).2.2.2.2)))) [1, 2, 3, 4, 5, 6, 7, 8] [0, 9, 10, 11, 12, 13, 14, 15, 16] hP hD hS hA rfl rfl (by decide) rfl rfl rfl) hP hS rfl hl.1 rfl (Nat.le_of_ble_eq_true rfl) ⟨rfl, rfl⟩ ⟨Nat.le_of_ble_eq_true rfl, Nat.le_of_ble_eq_true rfl⟩ ⟨Nat.le_of_ble_eq_true rfl, Nat.le_of_ble_eq_true rfl⟩ dX4_unknowing_24 (fun H locs hP hD hS hHs => ?_)
    refine x_il hC hl 0 dX4_unknowing_27 rfl rfl ?_
    refine x_isub hC dX4_unknowing_28 ?_
    refine x_si hC dX4_unknowing_29 (by decide) ?_
    refine x_iadd hC dX4_unknowing_32 ?_
    exact x_retI (congrArg iI (by first | exact (iif_t (by omega)).symm | exact (iif_f (by omega)).symm : ((nG 11) - (bAnV nF nE nZ nR nC nG nP nT (nG 12))) + 10000 = iif (bAnV nF nE nZ nR nC nG nP nT ((nG 12)) < 0) (bAnV nF nE nZ nR nC nG nP nT ((nG 12))) ((nG 11) - bAnV nF nE nZ nR nC nG nP nT ((nG 12)) + 10000))) hend hP hD hS dX4_unknowing_33
  · refine x_il hC hl 0 dX4_unknowing_16 rfl rfl ?_
    refine x_goto hC 33 dX4_unknowing_17 (by decide) ?_
    exact x_retI (congrArg iI (by first | exact (iif_t (by omega)).symm | exact (iif_f (by omega)).symm : bAnV nF nE nZ nR nC nG nP nT (nG 12) = iif (bAnV nF nE nZ nR nC nG nP nT ((nG 12)) < 0) (bAnV nF nE nZ nR nC nG nP nT ((nG 12))) ((nG 11) - bAnV nF nE nZ nR nC nG nP nT ((nG 12)) + 10000))) hend hP hD hS dX4_unknowing_33
