theorem lk4_33 : LkV RX4 33 yX0_copyFrom cX0_copyFrom 2 none 1 := ⟨tb_221, tb_218, tb_219, tb_220, tb_72, by decide +kernel⟩
theorem lk4_58 : LkV RX4 58 yX0_ruleOfNow cX0_ruleOfNow 1 (some .int) 0 := ⟨tb_357, tb_354, tb_355, tb_356, tb_72, by decide +kernel⟩
theorem lk4_62 : LkV RX4 62 yX4_tryAnew cX4_tryAnew 2 (some .int) 1 := ⟨tb_361, tb_358, tb_360, tb_10, tb_71, by decide +kernel⟩
theorem lk4_69 : LkV RX4 69 yX0_ofTalk cX0_ofTalk 4 (some .int) 2 := ⟨tb_389, tb_386, tb_387, tb_388, tb_72, by decide +kernel⟩
theorem lk4_72 : LkV RX4 72 yX0_ofRoom cX0_ofRoom 3 (some .int) 2 := ⟨tb_405, tb_402, tb_403, tb_404, tb_72, by decide +kernel⟩
theorem lk4_75 : LkS RX4 75 yX4_isRoom cX4_isRoom 1 (some .boolean) 1 := ⟨tb_274, tb_425, tb_273, tb_71, by decide +kernel⟩
theorem lk4_82 : LkV RX4 82 yX0_talkIn cX0_talkIn 4 (some .int) 2 := ⟨tb_429, tb_426, tb_427, tb_428, tb_72, by decide +kernel⟩
theorem lk4_86 : LkV RX4 86 yX0_talksAt cX0_talksAt 4 (some .int) 1 := ⟨tb_442, tb_439, tb_440, tb_441, tb_72, by decide +kernel⟩
theorem lk4_89 : LkV RX4 89 yX0_freeRoomsAt cX0_freeRoomsAt 4 (some .int) 1 := ⟨tb_446, tb_443, tb_444, tb_445, tb_72, by decide +kernel⟩
theorem lk4_92 : LkS RX4 92 yX4_isTalk cX4_isTalk 3 (some .boolean) 3 := ⟨tb_231, tb_451, tb_230, tb_71, by decide +kernel⟩
theorem lk4_96 : LkS RX4 96 yX4_isRule cX4_isRule 1 (some .boolean) 1 := ⟨tb_380, tb_452, tb_379, tb_71, by decide +kernel⟩
theorem lk4_99 : LkV RX4 99 yX0_roomFor cX0_roomFor 11 (some .int) 4 := ⟨tb_242, tb_453, tb_240, tb_241, tb_72, by decide +kernel⟩
theorem lk4_103 : LkV RX4 103 yX0_openRooms cX0_openRooms 1 (some .int) 0 := ⟨tb_343, tb_458, tb_341, tb_342, tb_72, by decide +kernel⟩
theorem lk4_106 : LkV RX4 106 yX0_placedElsewhereThan cX0_placedElsewhereThan 4 (some .int) 1 := ⟨tb_462, tb_459, tb_460, tb_461, tb_72, by decide +kernel⟩
theorem lk4_110 : LkV RX4 110 yX0_paidSoFar cX0_paidSoFar 1 (some .int) 0 := ⟨tb_470, tb_467, tb_468, tb_469, tb_72, by decide +kernel⟩
theorem lk4_151 : LkV RX4 151 yX0_tellAnew cX0_tellAnew 5 (some .int) 1 := ⟨tb_365, tb_362, tb_363, tb_364, tb_72, by decide +kernel⟩
theorem lk4_154 : LkV RX4 154 yX0_emptyOut cX0_emptyOut 3 (some .boolean) 1 := ⟨tb_494, tb_491, tb_492, tb_493, tb_72, by decide +kernel⟩
abbrev r4_tryAnew : Room := { frames := 4, cells := 0, slots := 0, locals := 102 }
set_option maxHeartbeats 4000000 in
set_option maxRecDepth 100000 in
theorem k4_tryAnew (l : Launch) (D : va_G) (cs : Nat → ClassId) (ha : Nat → Nat) (hn : Nat → Nat) (ht : Nat → Nat) (hh : Nat → Nat) (hs : Nat → Nat) (nO : Nat → Bool) (nG : Int → Int) (nF : Int → Int) (nE : Int → Int) (nZ : Int → Int) (nP : Int → Int) (nR : Int → Int) (nC : Int → Int) (nT : Int → Nat → Bool) (tO : Nat → Bool) (tG : Int → Int) (tF : Int → Int) (tE : Int → Int) (tZ : Int → Int) (tP : Int → Int) (tR : Int → Int) (tC : Int → Int) (tT : Int → Nat → Bool) (rule : Int) (hB : IBG nG nF nE nZ nP nR nC) (h3 : 0 ≤ rule ∧ rule ≤ 3) : CI l D cs yX4_tryAnew cX4_tryAnew 2 .int r4_tryAnew 0 0 [.ref (ha 0), .int (iI rule)] (wX ha hn ht hh hs ++ (wB hn cs nO nG nF nE nZ nP nR nC nT ++ (wB ht cs tO tG tF tE tZ tP tR tC tT))) (wX ha hn ht hh hs ++ (wB hn cs nO nG nF nE nZ nP nR nC nT ++ (wB ht cs ((bAnew nF nE nZ nR nC nG nP nT rule).2.1) ((bAnew nF nE nZ nR nC nG nP nT rule).2.2.1) nF nE nZ ((bAnew nF nE nZ nR nC nG nP nT rule).2.2.2.1) nR nC ((bAnew nF nE nZ nR nC nG nP nT rule).2.2.2.2)))) (iI (bAnV nF nE nZ nR nC nG nP nT rule)) := by
  refine CI_start (own := RX4) (by decide) rfl rfl (Nat.le_of_ble_eq_true rfl) ?_
  intro p e s m args below meth c Q A ls hC hl hP hD hA hS hend
  have hl : lv_has ls 2 [(0, .ref (ha 0)), (1, .int (iI rule))] := hl
  obtain ⟨H, hH⟩ : ∃ H : Heap, H = s.heap := ⟨_, rfl⟩
  have hS : va_S A s.heap H [] := by rw [hH]; exact hS
  rw [← hH] at hP
  obtain ⟨locs, hlocs⟩ : ∃ locs : List Loc, locs = [] := ⟨_, rfl⟩
  rw [← hlocs] at hS
  suffices hgo : W p l e r4_tryAnew s m args below meth c H locs 0 0 Q (F0 m 0 ls []) by rw [← hH, ← hlocs]; exact hgo
  clear hH hlocs
  have qB := hB.1
  have q12 := hB.2.1
  have q8 := hB.2.2
  refine x_al hC hl 0 dX4_tryAnew_0 rfl rfl ?_
  refine x_get4 (v := .ref (ht 0)) hC hP 0 rfl 1 (by decide) tb_202 rfl rfl dX4_tryAnew_1 ?_
  refine x_al hC hl 0 dX4_tryAnew_4 rfl rfl ?_
  refine x_get4 (v := .ref (hn 0)) hC hP 0 rfl 0 (by decide) tb_201 rfl rfl dX4_tryAnew_5 ?_
  refine x_vV (As := [.ref (hn 0)]) hC (k0_copyFrom l D cs ht hn tO tG tF tE tZ tP tR tC tT nO nG nF nE nZ nP nR nC nT ) lk4_33 (q0 := 9) (ci := 0) rfl rfl rfl (sub_par0 (ws' := wX ha hn ht hh hs ++ (wB hn cs nO nG nF nE nZ nP nR nC nT ++ (wB ht cs nO nG nF nE nZ nP nR nC nT))) [9, 10, 11, 12, 13, 14, 15, 16, 1, 2, 3, 4, 5, 6, 7, 8] [0] hP hD hS hA (mapE rfl (mapE rfl (mapE rfl (mapE rfl (mapE rfl (mapE rfl (mapE rfl (mapE rfl (mapE rfl (mapE rfl (mapE rfl (mapE rfl (mapE rfl (mapE rfl (mapE rfl (mapE rfl mapN)))))))))))))))) (mapE rfl (mapE rfl (mapE rfl (mapE rfl (mapE rfl (mapE rfl (mapE rfl (mapE rfl (mapE rfl (mapE rfl (mapE rfl (mapE rfl (mapE rfl (mapE rfl (mapE rfl (mapE rfl mapN)))))))))))))))) (by decide) (lenE 17 rfl rfl) (mapG rfl rfl mapM) rfl) hP hS rfl hl.1 rfl (Nat.le_of_ble_eq_true rfl) ⟨rfl, rfl⟩ ⟨Nat.le_of_ble_eq_true rfl, Nat.le_of_ble_eq_true rfl⟩ ⟨Nat.le_of_ble_eq_true rfl, Nat.le_of_ble_eq_true rfl⟩ dX4_tryAnew_8 (fun H locs hP hD hS hHs => ?_)
  have hP : va_P D vwCl (wX ha hn ht hh hs ++ (wB hn cs nO nG nF nE nZ nP nR nC nT ++ (wB ht cs nO nG nF nE nZ nP nR nC nT))) H := hP
  have hD : va_D A (wX ha hn ht hh hs ++ (wB hn cs nO nG nF nE nZ nP nR nC nT ++ (wB ht cs nO nG nF nE nZ nP nR nC nT))) := hD
  refine x_al hC hl 0 dX4_tryAnew_11 rfl rfl ?_
  refine x_get4 (v := .ref (ht 0)) hC hP 0 rfl 1 (by decide) tb_202 rfl rfl dX4_tryAnew_12 ?_
  refine x_il hC hl 1 dX4_tryAnew_15 rfl rfl ?_
  refine x_vI (As := [.int (iI rule)]) hC (k0_tellAnew l D cs ht nO nG nF nE nZ nP nR nC nT rule (by first | assumption | omega) (by first | assumption | omega)) lk4_151 (q0 := 9) (ci := 0) rfl rfl rfl (sub_par0 (ws' := wX ha hn ht hh hs ++ (wB hn cs nO nG nF nE nZ nP nR nC nT ++ (wB ht cs ((bAnew nF nE nZ nR nC nG nP nT rule).2.1) ((bAnew nF nE nZ nR nC nG nP nT rule).2.2.1) nF nE nZ ((bAnew nF nE nZ nR nC nG nP nT rule).2.2.2.1) nR nC ((bAnew nF nE nZ nR nC nG nP nT rule).2.2.2.2)))) [9, 10, 11, 12, 13, 14, 15, 16] [0, 1, 2, 3, 4, 5, 6, 7, 8] hP hD hS hA (mapE rfl (mapE rfl (mapE rfl (mapE rfl (mapE rfl (mapE rfl (mapE rfl (mapE rfl mapN)))))))) (mapE rfl (mapE rfl (mapE rfl (mapE rfl (mapE rfl (mapE rfl (mapE rfl (mapE rfl mapN)))))))) (by decide) (lenE 17 rfl rfl) (mapG rfl rfl (mapG rfl rfl (mapG rfl rfl (mapG rfl rfl (mapG rfl rfl (mapG rfl rfl (mapG rfl rfl (mapG rfl rfl (mapG rfl rfl mapM))))))))) rfl) hP hS rfl hl.1 rfl (Nat.le_of_ble_eq_true rfl) ⟨rfl, rfl⟩ ⟨Nat.le_of_ble_eq_true rfl, Nat.le_of_ble_eq_true rfl⟩ ⟨Nat.le_of_ble_eq_true rfl, Nat.le_of_ble_eq_true rfl⟩ dX4_tryAnew_16 (fun H locs hP hD hS hHs => ?_)
  have hP : va_P D vwCl (wX ha hn ht hh hs ++ (wB hn cs nO nG nF nE nZ nP nR nC nT ++ (wB ht cs ((bAnew nF nE nZ nR nC nG nP nT rule).2.1) ((bAnew nF nE nZ nR nC nG nP nT rule).2.2.1) nF nE nZ ((bAnew nF nE nZ nR nC nG nP nT rule).2.2.2.1) nR nC ((bAnew nF nE nZ nR nC nG nP nT rule).2.2.2.2)))) H := hP
  have hD : va_D A (wX ha hn ht hh hs ++ (wB hn cs nO nG nF nE nZ nP nR nC nT ++ (wB ht cs ((bAnew nF nE nZ nR nC nG nP nT rule).2.1) ((bAnew nF nE nZ nR nC nG nP nT rule).2.2.1) nF nE nZ ((bAnew nF nE nZ nR nC nG nP nT rule).2.2.2.1) nR nC ((bAnew nF nE nZ nR nC nG nP nT rule).2.2.2.2)))) := hD
  exact x_retI (congrArg iI (by unfold bAnV; with_reducible rfl : iif (bAnew nF nE nZ nR nC nG nP nT rule).1 ((bAnew nF nE nZ nR nC nG nP nT rule).2.2.1 11) (-1000002) = bAnV nF nE nZ nR nC nG nP nT rule)) hend hP hD hS dX4_tryAnew_19
