abbrev r4_share : Room := { frames := 5, cells := 0, slots := 0, locals := 123 }
set_option maxHeartbeats 4000000 in
set_option maxRecDepth 100000 in
theorem k4_share (l : Launch) (D : va_G) (cs : Nat → ClassId) (ha : Nat → Nat) (hn : Nat → Nat) (ht : Nat → Nat) (hh : Nat → Nat) (hs : Nat → Nat) (nO : Nat → Bool) (nG : Int → Int) (nQ : Int → Int) (nE : Int → Int) (nZ : Int → Int) (nP : Int → Int) (nR : Int → Int) (nC : Int → Int) (nT : Int → Nat → Bool) (tO : Nat → Bool) (tG : Int → Int) (tF : Int → Int) (tE : Int → Int) (tZ : Int → Int) (tP : Int → Int) (tR : Int → Int) (tC : Int → Int) (tT : Int → Nat → Bool) (FE FT : Nat) (hFE : 1 ≤ FE ∧ FE ≤ 254) (hFT : FT < 8388608) (hFx : 0 < (bAnV nQ nE nZ nR nC nG nP nT (nG 12)) → Jvm.FP.fdiv (Jvm.FP.i2f (iI (nG 11))) (Jvm.FP.i2f (iI (bAnV nQ nE nZ nR nC nG nP nT (nG 12)))) = nF FE FT) (hB : IBG nG nQ nE nZ nP nR nC) : CI l D cs yX4_share cX4_share 2 .int r4_share 0 0 [.ref (ha 0)] (wX ha hn ht hh hs ++ (wB hn cs nO nG nQ nE nZ nP nR nC nT ++ (wB ht cs tO tG tF tE tZ tP tR tC tT))) (wX ha hn ht hh hs ++ (wB hn cs nO nG nQ nE nZ nP nR nC nT ++ (wB ht cs ((bAnew nQ nE nZ nR nC nG nP nT ((nG 12))).2.1) ((bAnew nQ nE nZ nR nC nG nP nT ((nG 12))).2.2.1) nQ nE nZ ((bAnew nQ nE nZ nR nC nG nP nT ((nG 12))).2.2.2.1) nR nC ((bAnew nQ nE nZ nR nC nG nP nT ((nG 12))).2.2.2.2)))) (iI (iif ((bAnV nQ nE nZ nR nC nG nP nT (nG 12)) < 0) (bAnV nQ nE nZ nR nC nG nP nT (nG 12)) (iif ((bAnV nQ nE nZ nR nC nG nP nT (nG 12)) = 0) (-1000004) ((FE : Int) * 8388608 + FT)))) := by
  refine CI_start (own := RX4) (by decide) rfl rfl (Nat.le_of_ble_eq_true rfl) ?_
  intro p e s m args below meth c Q A ls hC hl hP hD hA hS hend
  have hl : lv_has ls 2 [(0, .ref (ha 0))] := hl
  obtain ⟨H, hH⟩ : ∃ H : Heap, H = s.heap := ⟨_, rfl⟩
  have hS : va_S A s.heap H [] := by rw [hH]; exact hS
  rw [← hH] at hP
  obtain ⟨locs, hlocs⟩ : ∃ locs : List Loc, locs = [] := ⟨_, rfl⟩
  rw [← hlocs] at hS
  suffices hgo : W p l e r4_share s m args below meth c H locs 0 0 Q (F0 m 0 ls []) by rw [← hH, ← hlocs]; exact hgo
  clear hH hlocs
  have qB := hB.1
  have q12 := hB.2.1
  have q8 := hB.2.2
  refine x_al hC hl 0 dX4_share_0 rfl rfl ?_
  refine x_al hC hl 0 dX4_share_1 rfl rfl ?_
  refine x_get4 (v := .ref (hn 0)) hC hP 0 rfl 0 (by decide) tb_201 rfl rfl dX4_share_2 ?_
  refine x_vI (As := []) (val := iI (nG 12)) hC (k0_ruleOfNow l D cs hn nO nG nQ nE nZ nP nR nC nT ) lk4_58 (q0 := 1) (ci := 0) rfl rfl rfl (sub_par0 (ws' := wX ha hn ht hh hs ++ (wB hn cs nO nG nQ nE nZ nP nR nC nT ++ (wB ht cs tO tG tF tE tZ tP tR tC tT))) [1, 2, 3, 4, 5, 6, 7, 8] [0, 9, 10, 11, 12, 13, 14, 15, 16] hP hD hS hA (mapE rfl (mapE rfl (mapE rfl (mapE rfl (mapE rfl (mapE rfl (mapE rfl (mapE rfl mapN)))))))) (mapE rfl (mapE rfl (mapE rfl (mapE rfl (mapE rfl (mapE rfl (mapE rfl (mapE rfl mapN)))))))) (by decide) (lenE 17 rfl rfl) (mapG rfl rfl (mapG rfl rfl (mapG rfl rfl (mapG rfl rfl (mapG rfl rfl (mapG rfl rfl (mapG rfl rfl (mapG rfl rfl (mapG rfl rfl mapM))))))))) rfl) hP hS rfl hl.1 rfl (Nat.le_of_ble_eq_true rfl) ⟨rfl, rfl⟩ ⟨Nat.le_of_ble_eq_true rfl, Nat.le_of_ble_eq_true rfl⟩ ⟨Nat.le_of_ble_eq_true rfl, Nat.le_of_ble_eq_true rfl⟩ dX4_share_5 (fun H locs hP hD hS hHs => ?_)
  refine x_vI (As := [.int (iI (nG 12))]) hC (k4_tryAnew l D cs ha hn ht hh hs nO nG nQ nE nZ nP nR nC nT tO tG tF tE tZ tP tR tC tT (nG 12) (by first | assumption | omega) (by first | assumption | omega)) lk4_62 (q0 := 0) (ci := 4) rfl rfl rfl (sub_all hP hD hS hA) hP hS rfl hl.1 rfl (Nat.le_of_ble_eq_true rfl) ⟨rfl, rfl⟩ ⟨Nat.le_of_ble_eq_true rfl, Nat.le_of_ble_eq_true rfl⟩ ⟨Nat.le_of_ble_eq_true rfl, Nat.le_of_ble_eq_true rfl⟩ dX4_share_8 (fun H locs hP hD hS hHs => ?_)
  have hP : va_P D vwCl (wX ha hn ht hh hs ++ (wB hn cs nO nG nQ nE nZ nP nR nC nT ++ (wB ht cs ((bAnew nQ nE nZ nR nC nG nP nT (nG 12)).2.1) ((bAnew nQ nE nZ nR nC nG nP nT (nG 12)).2.2.1) nQ nE nZ ((bAnew nQ nE nZ nR nC nG nP nT (nG 12)).2.2.2.1) nR nC ((bAnew nQ nE nZ nR nC nG nP nT (nG 12)).2.2.2.2)))) H := hP
  have hD : va_D A (wX ha hn ht hh hs ++ (wB hn cs nO nG nQ nE nZ nP nR nC nT ++ (wB ht cs ((bAnew nQ nE nZ nR nC nG nP nT (nG 12)).2.1) ((bAnew nQ nE nZ nR nC nG nP nT (nG 12)).2.2.1) nQ nE nZ ((bAnew nQ nE nZ nR nC nG nP nT (nG 12)).2.2.2.1) nR nC ((bAnew nQ nE nZ nR nC nG nP nT (nG 12)).2.2.2.2)))) := hD
  have q_8 := bAnV_rg (F := nQ) (E := nE) (Z := nZ) (R := nR) (C := nC) (G := nG) (P := nP) nT (nG 12) (by first | assumption | exact hB.1)
  refine x_is hC [(1, .int (iI (bAnV nQ nE nZ nR nC nG nP nT (nG 12)))), (0, .ref (ha 0))] hl dX4_share_11 rfl (by decide) rfl (fun ls hl => ?_)
  refine x_il hC hl 0 dX4_share_12 rfl rfl ?_
  refine x_if_ge hC 18 dX4_share_13 (by decide) (by omega) (fun c_13 => ?_) (fun c_13 => ?_)
  · refine x_il hC hl 0 dX4_share_18 rfl rfl ?_
    refine x_if_ne hC 25 dX4_share_19 (by decide) (by omega) (fun c_19 => ?_) (fun c_19 => ?_)
    · refine x_al hC hl 1 dX4_share_25 rfl rfl ?_
      refine x_get4 (v := .ref (hn 0)) hC hP 0 rfl 0 (by decide) tb_201 rfl rfl dX4_share_26 ?_
      refine x_vI (As := []) (val := iI (nG 11)) hC (k0_paidSoFar l D cs hn nO nG nQ nE nZ nP nR nC nT ) lk4_110 (q0 := 1) (ci := 0) rfl rfl rfl (sub_par0 (ws' := wX ha hn ht hh hs ++ (wB hn cs nO nG nQ nE nZ nP nR nC nT ++ (wB ht cs ((bAnew nQ nE nZ nR nC nG nP nT (nG 12)).2.1) ((bAnew nQ nE nZ nR nC nG nP nT (nG 12)).2.2.1) nQ nE nZ ((bAnew nQ nE nZ nR nC nG nP nT (nG 12)).2.2.2.1) nR nC ((bAnew nQ nE nZ nR nC nG nP nT (nG 12)).2.2.2.2)))) [1, 2, 3, 4, 5, 6, 7, 8] [0, 9, 10, 11, 12, 13, 14, 15, 16] hP hD hS hA (mapE rfl (mapE rfl (mapE rfl (mapE rfl (mapE rfl (mapE rfl (mapE rfl (mapE rfl mapN)))))))) (mapE rfl (mapE rfl (mapE rfl (mapE rfl (mapE rfl (mapE rfl (mapE rfl (mapE rfl mapN)))))))) (by decide) (lenE 17 rfl rfl) (mapG rfl rfl (mapG rfl rfl (mapG rfl rfl (mapG rfl rfl (mapG rfl rfl (mapG rfl rfl (mapG rfl rfl (mapG rfl rfl (mapG rfl rfl mapM))))))))) rfl) hP hS rfl hl.1 rfl (Nat.le_of_ble_eq_true rfl) ⟨rfl, rfl⟩ ⟨Nat.le_of_ble_eq_true rfl, Nat.le_of_ble_eq_true rfl⟩ ⟨Nat.le_of_ble_eq_true rfl, Nat.le_of_ble_eq_true rfl⟩ dX4_share_29 (fun H locs hP hD hS hHs => ?_)
      refine lv_i2f hC.1 hC.2.1 dX4_share_32 ?_
      refine x_il hC hl 0 dX4_share_33 rfl rfl ?_
      refine lv_i2f hC.1 hC.2.1 dX4_share_34 ?_
      have hx := hFx (by omega)
      refine lv_fdiv hC.1 hC.2.1 dX4_share_35 (by rw [hx]; exact n32_fin (nF_val hFE.1 hFE.2 hFT)) ?_
      rw [hx]
      refine x_sI (As := [.float (nF FE FT)]) hC (k4_bitsOf l D cs FE FT hFE hFT) lk4_113 (sub_none hP hD hS hA) hP hS rfl hl.1 rfl (Nat.le_of_ble_eq_true rfl) ⟨rfl, rfl⟩ ⟨Nat.le_of_ble_eq_true rfl, Nat.le_of_ble_eq_true rfl⟩ ⟨Nat.le_of_ble_eq_true rfl, Nat.le_of_ble_eq_true rfl⟩ dX4_share_36 (fun H locs hP hD hS hHs => ?_)
      exact x_retI (congrArg iI (by rw [iif_f (by omega), iif_f c_19] : (FE : Int) * 8388608 + FT = iif ((bAnV nQ nE nZ nR nC nG nP nT (nG 12)) < 0) (bAnV nQ nE nZ nR nC nG nP nT (nG 12)) (iif ((bAnV nQ nE nZ nR nC nG nP nT (nG 12)) = 0) (-1000004) ((FE : Int) * 8388608 + FT)))) hend hP hD hS dX4_share_39
    · refine x_ldc hC (-1000004) tb_434 (by decide) dX4_share_22 ?_
      exact x_retI (congrArg iI (by rw [iif_f (by omega), iif_t c_19] : (-1000004 : Int) = iif ((bAnV nQ nE nZ nR nC nG nP nT (nG 12)) < 0) (bAnV nQ nE nZ nR nC nG nP nT (nG 12)) (iif ((bAnV nQ nE nZ nR nC nG nP nT (nG 12)) = 0) (-1000004) ((FE : Int) * 8388608 + FT)))) hend hP hD hS dX4_share_24
  · refine x_il hC hl 0 dX4_share_16 rfl rfl ?_
    exact x_retI (congrArg iI (by rw [iif_t c_13] : (bAnV nQ nE nZ nR nC nG nP nT (nG 12)) = iif ((bAnV nQ nE nZ nR nC nG nP nT (nG 12)) < 0) (bAnV nQ nE nZ nR nC nG nP nT (nG 12)) (iif ((bAnV nQ nE nZ nR nC nG nP nT (nG 12)) = 0) (-1000004) ((FE : Int) * 8388608 + FT)))) hend hP hD hS dX4_share_17

abbrev r5_share : Room := { frames := 6, cells := 0, slots := 0, locals := 145 }
set_option maxHeartbeats 4000000 in
set_option maxRecDepth 100000 in
theorem k5_share (l : Launch) (D : va_G) (cs : Nat → ClassId) (h : Nat → Nat) (mF : Int → Int) (mS : Int → Int) (mA : Int → Int) (mV : Int → Int) (mT : Int → Int) (mB : Int → Int) (FE FT : Nat) (hFE : 1 ≤ FE ∧ FE ≤ 254) (hFT : FT < 8388608) (hFx : ¬ mPr mS (mS 0) = -1000002 → ¬ mTalks mS (mS 1) = 0 → Jvm.FP.fdiv (Jvm.FP.i2f (iI (mS 3))) (Jvm.FP.i2f (iI (mPr mS (mS 0)))) = nF FE FT) (hI : IM mS) : CI l D cs yX5_share cX5_share 2 .int r5_share 0 0 [.ref (h 0)] (wM h cs mF mS mA mV mT mB) (wM h cs (mAnF mS mA (u1 mF 0 0) mB (mS 0)) mS (mCopy mS mA) mV mT ((mAn mS mA (u1 mF 0 0) mB (mS 0)).2.2.2)) (iI (iif (mPr mS (mS 0) = -1000002) (-1000002) (iif (mTalks mS (mS 1) = 0) (-1000004) ((FE : Int) * 8388608 + FT)))) := by
  refine CI_start (own := RX5) (by decide) rfl rfl (Nat.le_of_ble_eq_true rfl) ?_
  intro p e s m args below meth c Q A ls hC hl hP hD hA hS hend
  have hl : lv_has ls 2 [(0, .ref (h 0))] := hl
  obtain ⟨H, hH⟩ : ∃ H : Heap, H = s.heap := ⟨_, rfl⟩
  have hS : va_S A s.heap H [] := by rw [hH]; exact hS
  rw [← hH] at hP
  obtain ⟨locs, hlocs⟩ : ∃ locs : List Loc, locs = [] := ⟨_, rfl⟩
  rw [← hlocs] at hS
  suffices hgo : W p l e r5_share s m args below meth c H locs 0 0 Q (F0 m 0 ls []) by rw [← hH, ← hlocs]; exact hgo
  clear hH hlocs
  obtain ⟨z0, z1, -⟩ := id hI
  have qp := mPr_rg hI (mS 0)
  refine x_al hC hl 0 dX5_share_0 rfl rfl ?_
  refine x_ic hC dX5_share_1 ?_
  refine x_put5_0 hC hP hD hS 0 rfl tb_619 dX5_share_2 (fun H locs hP hD hS => ?_)
  have hP : va_P D vwCl (wM h cs (u1 mF 0 0) mS mA mV mT mB) H := hP
  have hD : va_D A (wM h cs (u1 mF 0 0) mS mA mV mT mB) := hD
  refine x_al hC hl 0 dX5_share_5 rfl rfl ?_
  refine x_al hC hl 0 dX5_share_6 rfl rfl ?_
  refine x_get5 (v := .ref (h 1)) hC hP 0 rfl 1 (by decide) tb_620 rfl rfl dX5_share_7 ?_
  refine x_ic hC dX5_share_10 ?_
  refine x_iald hC hP 1 rfl (by omega) (by decide) dX5_share_11 ?_
  refine x_vI (As := [.int (iI (mS 0))]) hC (k5_priceBy l D cs h (u1 mF 0 0) mS mA mV mT mB (mS 0) (by first | assumption | omega) (by first | assumption | omega)) lk5_134 (q0 := 0) (ci := 5) rfl rfl rfl (sub_all hP hD hS hA) hP hS rfl hl.1 rfl (Nat.le_of_ble_eq_true rfl) ⟨rfl, rfl⟩ ⟨Nat.le_of_ble_eq_true rfl, Nat.le_of_ble_eq_true rfl⟩ ⟨Nat.le_of_ble_eq_true rfl, Nat.le_of_ble_eq_true rfl⟩ dX5_share_12 (fun H locs hP hD hS hHs => ?_)
  have hP : va_P D vwCl (wM h cs (mAnF mS mA (u1 mF 0 0) mB (mS 0)) mS (mCopy mS mA) mV mT ((mAn mS mA (u1 mF 0 0) mB (mS 0)).2.2.2)) H := hP
  have hD : va_D A (wM h cs (mAnF mS mA (u1 mF 0 0) mB (mS 0)) mS (mCopy mS mA) mV mT ((mAn mS mA (u1 mF 0 0) mB (mS 0)).2.2.2)) := hD
  refine x_top (iI (mPr mS (mS 0))) (congrArg iI (by exact mPrice_c hI _ _ _ _ : mPrice mS mA (u1 mF 0 0) mB (mS 0) = mPr mS (mS 0))) ?_
  refine x_is hC [(1, .int (iI (mPr mS (mS 0)))), (0, .ref (h 0))] hl dX5_share_15 rfl (by decide) rfl (fun ls hl => ?_)
  refine x_il hC hl 0 dX5_share_16 rfl rfl ?_
  refine x_ldc hC (-1000002) tb_720 (by decide) dX5_share_17 ?_
  refine x_ic_eq hC 29 dX5_share_19 (by decide) (by omega) (by omega) (fun c_19 => ?_) (fun c_19 => ?_)
  · refine x_il hC hl 0 dX5_share_29 rfl rfl ?_
    refine x_ldc hC (-1000002) tb_720 (by decide) dX5_share_30 ?_
    refine x_ic_ne hC 39 dX5_share_32 (by decide) (by omega) (by omega) (fun c_32 => absurd c_19 c_32) (fun c_32 => ?_)
    refine x_il hC hl 0 dX5_share_35 rfl rfl ?_
    refine x_goto hC 41 dX5_share_36 (by decide) ?_
    exact x_retI (congrArg iI (by rw [iif_t c_19]; exact c_19 : mPr mS (mS 0) = iif (mPr mS (mS 0) = -1000002) (-1000002) (iif (mTalks mS (mS 1) = 0) (-1000004) ((FE : Int) * 8388608 + FT)))) hend hP hD hS dX5_share_41
  · refine x_al hC hl 1 dX5_share_22 rfl rfl ?_
    refine x_vI (As := []) hC (k5_talks l D cs h (mAnF mS mA (u1 mF 0 0) mB (mS 0)) mS (mCopy mS mA) mV mT ((mAn mS mA (u1 mF 0 0) mB (mS 0)).2.2.2) hI) lk5_158 (q0 := 0) (ci := 5) rfl rfl rfl (sub_all hP hD hS hA) hP hS rfl hl.1 rfl (Nat.le_of_ble_eq_true rfl) ⟨rfl, rfl⟩ ⟨Nat.le_of_ble_eq_true rfl, Nat.le_of_ble_eq_true rfl⟩ ⟨Nat.le_of_ble_eq_true rfl, Nat.le_of_ble_eq_true rfl⟩ dX5_share_23 (fun H locs hP hD hS hHs => ?_)
    have qt := mTalks_rg mS (n := mS 1) (by omega)
    refine x_if_ne hC 42 dX5_share_26 (by decide) (by omega) (fun c_26 => ?_) (fun c_26 => ?_)
    · refine x_al hC hl 1 dX5_share_42 rfl rfl ?_
      refine x_get5 (v := .ref (h 1)) hC hP 0 rfl 1 (by decide) tb_620 rfl rfl dX5_share_43 ?_
      refine x_ic hC dX5_share_46 ?_
      refine x_iald hC hP 1 rfl (by omega) (by decide) dX5_share_47 ?_
      refine lv_i2f hC.1 hC.2.1 dX5_share_48 ?_
      refine x_il hC hl 0 dX5_share_49 rfl rfl ?_
      refine lv_i2f hC.1 hC.2.1 dX5_share_50 ?_
      have hx := hFx c_19 c_26
      refine lv_fdiv hC.1 hC.2.1 dX5_share_51 (by rw [hx]; exact n32_fin (nF_val hFE.1 hFE.2 hFT)) ?_
      rw [hx]
      refine x_sI (As := [.float (nF FE FT)]) hC (k8_bits l D cs (nF FE FT) FE FT rfl hFE hFT) lk5_161 (sub_none hP hD hS hA) hP hS rfl hl.1 rfl (Nat.le_of_ble_eq_true rfl) ⟨rfl, rfl⟩ ⟨Nat.le_of_ble_eq_true rfl, Nat.le_of_ble_eq_true rfl⟩ ⟨Nat.le_of_ble_eq_true rfl, Nat.le_of_ble_eq_true rfl⟩ dX5_share_52 (fun H locs hP hD hS hHs => ?_)
      exact x_retI (congrArg iI (by rw [iif_f c_19, iif_f c_26] : (FE : Int) * 8388608 + FT = iif (mPr mS (mS 0) = -1000002) (-1000002) (iif (mTalks mS (mS 1) = 0) (-1000004) ((FE : Int) * 8388608 + FT)))) hend hP hD hS dX5_share_55
    · refine x_il hC hl 0 dX5_share_29 rfl rfl ?_
      refine x_ldc hC (-1000002) tb_720 (by decide) dX5_share_30 ?_
      refine x_ic_ne hC 39 dX5_share_32 (by decide) (by omega) (by omega) (fun c_32 => ?_) (fun c_32 => absurd c_32 c_19)
      refine x_ldc hC (-1000004) tb_836 (by decide) dX5_share_39 ?_
      exact x_retI (congrArg iI (by rw [iif_f c_19, iif_t c_26] : (-1000004 : Int) = iif (mPr mS (mS 0) = -1000002) (-1000002) (iif (mTalks mS (mS 1) = 0) (-1000004) ((FE : Int) * 8388608 + FT)))) hend hP hD hS dX5_share_41
