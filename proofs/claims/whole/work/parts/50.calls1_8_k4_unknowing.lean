abbrev r4_unknowing : Room := { frames := 5, cells := 0, slots := 0, locals := 123 }
set_option maxHeartbeats 4000000 in
set_option maxRecDepth 100000 in
theorem k4_unknowing (l : Launch) (D : va_G) (cs : Nat → ClassId) (ha : Nat → Nat) (hn : Nat → Nat) (ht : Nat → Nat) (hh : Nat → Nat) (hs : Nat → Nat) (nO : Nat → Bool) (nG : Int → Int) (nF : Int → Int) (nE : Int → Int) (nZ : Int → Int) (nP : Int → Int) (nR : Int → Int) (nC : Int → Int) (nT : Int → Nat → Bool) (tO : Nat → Bool) (tG : Int → Int) (tF : Int → Int) (tE : Int → Int) (tZ : Int → Int) (tP : Int → Int) (tR : Int → Int) (tC : Int → Int) (tT : Int → Nat → Bool) (hB : IBG nG nF nE nZ nP nR nC) : CI l D cs yX4_unknowing cX4_unknowing 2 .int r4_unknowing 0 0 [.ref (ha 0)] (wX ha hn ht hh hs ++ (wB hn cs nO nG nF nE nZ nP nR nC nT ++ (wB ht cs tO tG tF tE tZ tP tR tC tT))) (wX ha hn ht hh hs ++ (wB hn cs nO nG nF nE nZ nP nR nC nT ++ (wB ht cs ((bAnew nF nE nZ nR nC nG nP nT ((nG 12))).2.1) ((bAnew nF nE nZ nR nC nG nP nT ((nG 12))).2.2.1) nF nE nZ ((bAnew nF nE nZ nR nC nG nP nT ((nG 12))).2.2.2.1) nR nC ((bAnew nF nE nZ nR nC nG nP nT ((nG 12))).2.2.2.2)))) (iI (iif (bAnV nF nE nZ nR nC nG nP nT ((nG 12)) < 0) (bAnV nF nE nZ nR nC nG nP nT ((nG 12))) ((nG 11) - bAnV nF nE nZ nR nC nG nP nT ((nG 12)) + 10000))) := by
  refine CI_start (own := RX4) (by decide) rfl rfl (Nat.le_of_ble_eq_true rfl) ?_
  intro p e s m args below meth c Q A ls hC hl hP hD hA hS hend
  have hl : lv_has ls 2 [(0, .ref (ha 0))] := hl
  obtain ⟨H, hH⟩ : ∃ H : Heap, H = s.heap := ⟨_, rfl⟩
  have hS : va_S A s.heap H [] := by rw [hH]; exact hS
  rw [← hH] at hP
  obtain ⟨locs, hlocs⟩ : ∃ locs : List Loc, locs = [] := ⟨_, rfl⟩
  rw [← hlocs] at hS
  suffices hgo : W p l e r4_unknowing s m args below meth c H locs 0 0 Q (F0 m 0 ls []) by rw [← hH, ← hlocs]; exact hgo
  clear hH hlocs
  have qB := hB.1
  have q12 := hB.2.1
  have q8 := hB.2.2
  refine x_al hC hl 0 dX4_unknowing_0 rfl rfl ?_
  refine x_al hC hl 0 dX4_unknowing_1 rfl rfl ?_
  refine x_get4 (v := .ref (hn 0)) hC hP 0 rfl 0 (by decide) tb_201 rfl rfl dX4_unknowing_2 ?_
  refine x_vI (As := []) (val := iI (nG 12)) hC (k0_ruleOfNow l D cs hn nO nG nF nE nZ nP nR nC nT ) lk4_58 (q0 := 1) (ci := 0) rfl rfl rfl (sub_par0 (ws' := wX ha hn ht hh hs ++ (wB hn cs nO nG nF nE nZ nP nR nC nT ++ (wB ht cs tO tG tF tE tZ tP tR tC tT))) [1, 2, 3, 4, 5, 6, 7, 8] [0, 9, 10, 11, 12, 13, 14, 15, 16] hP hD hS hA (mapE rfl (mapE rfl (mapE rfl (mapE rfl (mapE rfl (mapE rfl (mapE rfl (mapE rfl mapN)))))))) (mapE rfl (mapE rfl (mapE rfl (mapE rfl (mapE rfl (mapE rfl (mapE rfl (mapE rfl mapN)))))))) (by decide) (lenE 17 rfl rfl) (mapG rfl rfl (mapG rfl rfl (mapG rfl rfl (mapG rfl rfl (mapG rfl rfl (mapG rfl rfl (mapG rfl rfl (mapG rfl rfl (mapG rfl rfl mapM))))))))) rfl) hP hS rfl hl.1 rfl (Nat.le_of_ble_eq_true rfl) ⟨rfl, rfl⟩ ⟨Nat.le_of_ble_eq_true rfl, Nat.le_of_ble_eq_true rfl⟩ ⟨Nat.le_of_ble_eq_true rfl, Nat.le_of_ble_eq_true rfl⟩ dX4_unknowing_5 (fun H locs hP hD hS hHs => ?_)
  refine x_vI (As := [.int (iI (nG 12))]) hC (k4_tryAnew l D cs ha hn ht hh hs nO nG nF nE nZ nP nR nC nT tO tG tF tE tZ tP tR tC tT (nG 12) (by first | assumption | omega) (by first | assumption | omega)) lk4_62 (q0 := 0) (ci := 4) rfl rfl rfl (sub_all hP hD hS hA) hP hS rfl hl.1 rfl (Nat.le_of_ble_eq_true rfl) ⟨rfl, rfl⟩ ⟨Nat.le_of_ble_eq_true rfl, Nat.le_of_ble_eq_true rfl⟩ ⟨Nat.le_of_ble_eq_true rfl, Nat.le_of_ble_eq_true rfl⟩ dX4_unknowing_8 (fun H locs hP hD hS hHs => ?_)
  have hP : va_P D vwCl (wX ha hn ht hh hs ++ (wB hn cs nO nG nF nE nZ nP nR nC nT ++ (wB ht cs ((bAnew nF nE nZ nR nC nG nP nT (nG 12)).2.1) ((bAnew nF nE nZ nR nC nG nP nT (nG 12)).2.2.1) nF nE nZ ((bAnew nF nE nZ nR nC nG nP nT (nG 12)).2.2.2.1) nR nC ((bAnew nF nE nZ nR nC nG nP nT (nG 12)).2.2.2.2)))) H := hP
  have hD : va_D A (wX ha hn ht hh hs ++ (wB hn cs nO nG nF nE nZ nP nR nC nT ++ (wB ht cs ((bAnew nF nE nZ nR nC nG nP nT (nG 12)).2.1) ((bAnew nF nE nZ nR nC nG nP nT (nG 12)).2.2.1) nF nE nZ ((bAnew nF nE nZ nR nC nG nP nT (nG 12)).2.2.2.1) nR nC ((bAnew nF nE nZ nR nC nG nP nT (nG 12)).2.2.2.2)))) := hD
  have q_8 := bAnV_rg (F := nF) (E := nE) (Z := nZ) (R := nR) (C := nC) (G := nG) (P := nP) nT (nG 12) (by first | assumption | exact hB.1)
  refine x_is hC [(1, .int (iI (bAnV nF nE nZ nR nC nG nP nT (nG 12)))), (0, .ref (ha 0))] hl dX4_unknowing_11 rfl (by decide) rfl (fun ls hl => ?_)
  refine x_il hC hl 0 dX4_unknowing_12 rfl rfl ?_
  refine x_if_ge hC 20 dX4_unknowing_13 (by decide) (by omega) (fun c_13 => ?_) (fun c_13 => ?_)
  · refine x_al hC hl 1 dX4_unknowing_20 rfl rfl ?_
    refine x_get4 (v := .ref (hn 0)) hC hP 0 rfl 0 (by decide) tb_201 rfl rfl dX4_unknowing_21 ?_
    refine x_vI (As := []) (val := iI (nG 11)) hC (k0_paidSoFar l D cs hn nO nG nF nE nZ nP nR nC nT ) lk4_110 (q0 := 1) (ci := 0) rfl rfl rfl (sub_par0 (ws' := wX ha hn ht hh hs ++ (wB hn cs nO nG nF nE nZ nP nR nC nT ++ (wB ht cs ((bAnew nF nE nZ nR nC nG nP nT (nG 12)).2.1) ((bAnew nF nE nZ nR nC nG nP nT (nG 12)).2.2.1) nF nE nZ ((bAnew nF nE nZ nR nC nG nP nT (nG 12)).2.2.2.1) nR nC ((bAnew nF nE nZ nR nC nG nP nT (nG 12)).2.2.2.2)))) [1, 2, 3, 4, 5, 6, 7, 8] [0, 9, 10, 11, 12, 13, 14, 15, 16] hP hD hS hA (mapE rfl (mapE rfl (mapE rfl (mapE rfl (mapE rfl (mapE rfl (mapE rfl (mapE rfl mapN)))))))) (mapE rfl (mapE rfl (mapE rfl (mapE rfl (mapE rfl (mapE rfl (mapE rfl (mapE rfl mapN)))))))) (by decide) (lenE 17 rfl rfl) (mapG rfl rfl (mapG rfl rfl (mapG rfl rfl (mapG rfl rfl (mapG rfl rfl (mapG rfl rfl (mapG rfl rfl (mapG rfl rfl (mapG rfl rfl mapM))))))))) rfl) hP hS rfl hl.1 rfl (Nat.le_of_ble_eq_true rfl) ⟨rfl, rfl⟩ ⟨Nat.le_of_ble_eq_true rfl, Nat.le_of_ble_eq_true rfl⟩ ⟨Nat.le_of_ble_eq_true rfl, Nat.le_of_ble_eq_true rfl⟩ dX4_unknowing_24 (fun H locs hP hD hS hHs => ?_)
    refine x_il hC hl 0 dX4_unknowing_27 rfl rfl ?_
    refine x_isub hC dX4_unknowing_28 ?_
    refine x_si hC dX4_unknowing_29 (by decide) ?_
    refine x_iadd hC dX4_unknowing_32 ?_
    exact x_retI (congrArg iI (by first | exact (iif_t (by omega)).symm | exact (iif_f (by omega)).symm : ((nG 11) - (bAnV nF nE nZ nR nC nG nP nT (nG 12))) + 10000 = iif (bAnV nF nE nZ nR nC nG nP nT ((nG 12)) < 0) (bAnV nF nE nZ nR nC nG nP nT ((nG 12))) ((nG 11) - bAnV nF nE nZ nR nC nG nP nT ((nG 12)) + 10000))) hend hP hD hS dX4_unknowing_33
  · refine x_il hC hl 0 dX4_unknowing_16 rfl rfl ?_
    refine x_goto hC 33 dX4_unknowing_17 (by decide) ?_
    exact x_retI (congrArg iI (by first | exact (iif_t (by omega)).symm | exact (iif_f (by omega)).symm : bAnV nF nE nZ nR nC nG nP nT (nG 12) = iif (bAnV nF nE nZ nR nC nG nP nT ((nG 12)) < 0) (bAnV nF nE nZ nR nC nG nP nT ((nG 12))) ((nG 11) - bAnV nF nE nZ nR nC nG nP nT ((nG 12)) + 10000))) hend hP hD hS dX4_unknowing_33
