theorem lk5_134 : LkV RX5 134 yX5_priceBy cX5_priceBy 3 (some .int) 1 := ⟨tb_788, tb_785, tb_787, tb_48, tb_76, by decide +kernel⟩
theorem lk5_158 : LkV RX5 158 yX5_talks cX5_talks 3 (some .int) 0 := ⟨tb_872, tb_869, tb_871, tb_59, tb_76, by decide +kernel⟩
theorem lk5_170 : LkV RX5 170 yX5_empties cX5_empties 5 (some .boolean) 1 := ⟨tb_894, tb_891, tb_893, tb_60, tb_76, by decide +kernel⟩
theorem lk5_173 : LkV RX5 173 yX5_fewest cX5_fewest 3 (some .int) 0 := ⟨tb_906, tb_903, tb_905, tb_62, tb_76, by decide +kernel⟩
theorem lk5_176 : LkV RX5 176 yX5_hoursTaken cX5_hoursTaken 3 (some .int) 0 := ⟨tb_910, tb_907, tb_909, tb_63, tb_76, by decide +kernel⟩
theorem lk5_216 : LkV RX5 216 yX5_reads cX5_reads 2 (some .int) 0 := ⟨tb_930, tb_927, tb_929, tb_64, tb_76, by decide +kernel⟩
/-! the reference's calls, those that tell anew or read texts -/
theorem mRecF_k (F : Int → Int) {j : Int} (h : ¬ j = 4) : mRecF F j = F j := by
  unfold mRecF iif
  split
  · rw [u1_n h, u1_n h]
  · rw [u1_n h]
theorem mRecF_4 (F : Int → Int) : mRecF F 4 = iif (F 4 = 4) 4 (F 4 + 1) := by
  unfold mRecF iif
  split
  · rw [u1_s]; omega
  · rw [u1_s]
noncomputable def zB (S F A B : Int → Int) (n : Int) : (Int → Int) × (Int → Int) × (Int → Int) := fI (fun r x => (mAnF S x.2.1 x.1 x.2.2 r, mCopy S x.2.1, (mAn S x.2.1 x.1 x.2.2 r).2.2.2)) (F, A, B) n
theorem zB_s (S F A B : Int → Int) {i : Int} (h : 0 ≤ i) : zB S F A B (i + 1) = (mAnF S (zB S F A B i).2.1 (zB S F A B i).1 (zB S F A B i).2.2 i, mCopy S (zB S F A B i).2.1, (mAn S (zB S F A B i).2.1 (zB S F A B i).1 (zB S F A B i).2.2 i).2.2.2) := fI_s h
theorem zB_k (S F A B : Int → Int) {n j : Int} (h0 : 0 ≤ n) (hj : ¬ j = 10 ∧ ¬ j = 8 ∧ ¬ j = 9) : (zB S F A B n).1 j = F j := by
  refine fI_ind (fun _ (x : (Int → Int) × (Int → Int) × (Int → Int)) => x.1 j = F j) rfl (fun i x hi hin hx => ?_) h0
  show mAnF S x.2.1 x.1 x.2.2 i j = F j
  rw [mAnF_k _ _ _ _ _ hj]
  exact hx
noncomputable def zE (S A : Int → Int) (n : Int) : Int → Int := fI (fun r a => iif (mskI (fun t => S (29 + 4 * t + 3) = r) (S 1) = 0) a (mCopy S a)) A n
theorem zE_s (S A : Int → Int) {i : Int} (h : 0 ≤ i) : zE S A (i + 1) = iif (mskI (fun t => S (29 + 4 * t + 3) = i) (S 1) = 0) (zE S A i) (mCopy S (zE S A i)) := fI_s h

abbrev r5_anew : Room := { frames := 6, cells := 0, slots := 0, locals := 145 }
set_option maxHeartbeats 4000000 in
set_option maxRecDepth 100000 in
theorem k5_anew (l : Launch) (D : va_G) (cs : Nat → ClassId) (h : Nat → Nat) (mF : Int → Int) (mS : Int → Int) (mA : Int → Int) (mV : Int → Int) (mT : Int → Int) (mB : Int → Int) (hI : IM mS) (h4 : 0 ≤ (mF 4) ∧ (mF 4) ≤ 4) : CI l D cs yX5_anew cX5_anew 1 .int r5_anew 0 0 [.ref (h 0)] (wM h cs mF mS mA mV mT mB) (wM h cs (iif (mPr mS (mS 0) = -1000002) (mAnF mS mA (u1 mF 0 0) mB (mS 0)) (mAnF mS (mCopy mS mA) (mRecF (mAnF mS mA (u1 mF 0 0) mB (mS 0))) (mAn mS mA (u1 mF 0 0) mB (mS 0)).2.2.2 (mS 0))) (iif (mPr mS (mS 0) = -1000002) mS (u1 (mC mS (mS 0)).2.2.1 3 (mPr mS (mS 0)))) (iif (mPr mS (mS 0) = -1000002) (mCopy mS mA) (mCopy mS (mCopy mS mA))) (iif (mPr mS (mS 0) = -1000002) mV (mRecV (mAnF mS mA (u1 mF 0 0) mB (mS 0)) mS mV)) mT (iif (mPr mS (mS 0) = -1000002) (mAn mS mA (u1 mF 0 0) mB (mS 0)).2.2.2 (mAn mS (mCopy mS mA) (mRecF (mAnF mS mA (u1 mF 0 0) mB (mS 0))) (mAn mS mA (u1 mF 0 0) mB (mS 0)).2.2.2 (mS 0)).2.2.2)) (iI (mPr mS (mS 0))) := by
  refine CI_start (own := RX5) (by decide) rfl rfl (Nat.le_of_ble_eq_true rfl) ?_
  intro p e s m args below meth c Q A ls hC hl hP hD hA hS hend
  have hl : lv_has ls 1 [(0, .ref (h 0))] := hl
  obtain ⟨H, hH⟩ : ∃ H : Heap, H = s.heap := ⟨_, rfl⟩
  have hS : va_S A s.heap H [] := by rw [hH]; exact hS
  rw [← hH] at hP
  obtain ⟨locs, hlocs⟩ : ∃ locs : List Loc, locs = [] := ⟨_, rfl⟩
  rw [← hlocs] at hS
  suffices hgo : W p l e r5_anew s m args below meth c H locs 0 0 Q (F0 m 0 ls []) by rw [← hH, ← hlocs]; exact hgo
  clear hH hlocs
  obtain ⟨z0, z1, -⟩ := id hI
  have qp := mPr_rg hI (mS 0)
  refine x_al hC hl 0 dX5_anew_0 rfl rfl ?_
  refine x_ic hC dX5_anew_1 ?_
  refine x_put5_0 hC hP hD hS 0 rfl tb_619 dX5_anew_2 (fun H locs hP hD hS => ?_)
  have hP : va_P D vwCl (wM h cs (u1 mF 0 0) mS mA mV mT mB) H := hP
  have hD : va_D A (wM h cs (u1 mF 0 0) mS mA mV mT mB) := hD
  refine x_al hC hl 0 dX5_anew_5 rfl rfl ?_
  refine x_al hC hl 0 dX5_anew_6 rfl rfl ?_
  refine x_get5 (v := .ref (h 1)) hC hP 0 rfl 1 (by decide) tb_620 rfl rfl dX5_anew_7 ?_
  refine x_ic hC dX5_anew_10 ?_
  refine x_iald hC hP 1 rfl (by omega) (by decide) dX5_anew_11 ?_
  refine x_vI (As := [.int (iI (mS 0))]) hC (k5_priceBy l D cs h (u1 mF 0 0) mS mA mV mT mB (mS 0) (by first | assumption | omega) (by first | assumption | omega)) lk5_134 (q0 := 0) (ci := 5) rfl rfl rfl (sub_all hP hD hS hA) hP hS rfl hl.1 rfl (Nat.le_of_ble_eq_true rfl) ⟨rfl, rfl⟩ ⟨Nat.le_of_ble_eq_true rfl, Nat.le_of_ble_eq_true rfl⟩ ⟨Nat.le_of_ble_eq_true rfl, Nat.le_of_ble_eq_true rfl⟩ dX5_anew_12 (fun H locs hP hD hS hHs => ?_)
  have hP : va_P D vwCl (wM h cs (mAnF mS mA (u1 mF 0 0) mB (mS 0)) mS (mCopy mS mA) mV mT ((mAn mS mA (u1 mF 0 0) mB (mS 0)).2.2.2)) H := hP
  have hD : va_D A (wM h cs (mAnF mS mA (u1 mF 0 0) mB (mS 0)) mS (mCopy mS mA) mV mT ((mAn mS mA (u1 mF 0 0) mB (mS 0)).2.2.2)) := hD
  refine x_top (iI (mPr mS (mS 0))) (congrArg iI (by exact mPrice_c hI _ _ _ _ : mPrice mS mA (u1 mF 0 0) mB (mS 0) = mPr mS (mS 0))) ?_
  refine x_ldc hC (-1000002) tb_720 (by decide) dX5_anew_15 ?_
  refine x_ic_ne hC 23 dX5_anew_17 (by decide) (by omega) (by omega) (fun c_17 => ?_) (fun c_17 => ?_)
  · have hok : (mC mS (mS 0)).1 := Classical.not_not.mp (fun q => c_17 (qp.2.2.mpr q))
    have h4b : 0 ≤ ((mAnF mS mA (u1 mF 0 0) mB (mS 0))) 4 ∧ ((mAnF mS mA (u1 mF 0 0) mB (mS 0))) 4 ≤ 4 := by rw [mAnF_k _ _ _ _ _ (by omega)]; exact h4
    refine x_al hC hl 0 dX5_anew_23 rfl rfl ?_
    refine x_vV (As := []) hC (k5_records l D cs h (mAnF mS mA (u1 mF 0 0) mB (mS 0)) mS (mCopy mS mA) mV mT ((mAn mS mA (u1 mF 0 0) mB (mS 0)).2.2.2) (by show 0 ≤ ((mAnF mS mA (u1 mF 0 0) mB (mS 0)) 4) ∧ ((mAnF mS mA (u1 mF 0 0) mB (mS 0)) 4) ≤ 4; first | assumption | omega)) lk5_81 (q0 := 0) (ci := 5) rfl rfl rfl (sub_all hP hD hS hA) hP hS rfl hl.1 rfl (Nat.le_of_ble_eq_true rfl) ⟨rfl, rfl⟩ ⟨Nat.le_of_ble_eq_true rfl, Nat.le_of_ble_eq_true rfl⟩ ⟨Nat.le_of_ble_eq_true rfl, Nat.le_of_ble_eq_true rfl⟩ dX5_anew_24 (fun H locs hP hD hS hHs => ?_)
    have hP : va_P D vwCl (wM h cs (mRecF (mAnF mS mA (u1 mF 0 0) mB (mS 0))) mS (mCopy mS mA) (mRecV (mAnF mS mA (u1 mF 0 0) mB (mS 0)) mS mV) mT ((mAn mS mA (u1 mF 0 0) mB (mS 0)).2.2.2)) H := hP
    have hD : va_D A (wM h cs (mRecF (mAnF mS mA (u1 mF 0 0) mB (mS 0))) mS (mCopy mS mA) (mRecV (mAnF mS mA (u1 mF 0 0) mB (mS 0)) mS mV) mT ((mAn mS mA (u1 mF 0 0) mB (mS 0)).2.2.2)) := hD
    refine x_al hC hl 0 dX5_anew_27 rfl rfl ?_
    refine x_al hC hl 0 dX5_anew_28 rfl rfl ?_
    refine x_get5 (v := .ref (h 1)) hC hP 0 rfl 1 (by decide) tb_620 rfl rfl dX5_anew_29 ?_
    refine x_ic hC dX5_anew_32 ?_
    refine x_iald hC hP 1 rfl (by omega) (by decide) dX5_anew_33 ?_
    refine x_vI (As := [.int (iI (mS 0))]) hC (k5_tellsAnew l D cs h (mRecF (mAnF mS mA (u1 mF 0 0) mB (mS 0))) mS (mCopy mS mA) (mRecV (mAnF mS mA (u1 mF 0 0) mB (mS 0)) mS mV) mT ((mAn mS mA (u1 mF 0 0) mB (mS 0)).2.2.2) (mS 0) (by first | assumption | omega) (by first | assumption | omega)) lk5_128 (q0 := 0) (ci := 5) rfl rfl rfl (sub_all hP hD hS hA) hP hS rfl hl.1 rfl (Nat.le_of_ble_eq_true rfl) ⟨rfl, rfl⟩ ⟨Nat.le_of_ble_eq_true rfl, Nat.le_of_ble_eq_true rfl⟩ ⟨Nat.le_of_ble_eq_true rfl, Nat.le_of_ble_eq_true rfl⟩ dX5_anew_34 (fun H locs hP hD hS hHs => ?_)
    have hP : va_P D vwCl (wM h cs (mAnF mS (mCopy mS mA) (mRecF (mAnF mS mA (u1 mF 0 0) mB (mS 0))) ((mAn mS mA (u1 mF 0 0) mB (mS 0)).2.2.2) (mS 0)) ((mAn mS (mCopy mS mA) (mRecF (mAnF mS mA (u1 mF 0 0) mB (mS 0))) ((mAn mS mA (u1 mF 0 0) mB (mS 0)).2.2.2) (mS 0)).2.2.1) (mCopy mS (mCopy mS mA)) (mRecV (mAnF mS mA (u1 mF 0 0) mB (mS 0)) mS mV) mT ((mAn mS (mCopy mS mA) (mRecF (mAnF mS mA (u1 mF 0 0) mB (mS 0))) ((mAn mS mA (u1 mF 0 0) mB (mS 0)).2.2.2) (mS 0)).2.2.2)) H := hP
    have hD : va_D A (wM h cs (mAnF mS (mCopy mS mA) (mRecF (mAnF mS mA (u1 mF 0 0) mB (mS 0))) ((mAn mS mA (u1 mF 0 0) mB (mS 0)).2.2.2) (mS 0)) ((mAn mS (mCopy mS mA) (mRecF (mAnF mS mA (u1 mF 0 0) mB (mS 0))) ((mAn mS mA (u1 mF 0 0) mB (mS 0)).2.2.2) (mS 0)).2.2.1) (mCopy mS (mCopy mS mA)) (mRecV (mAnF mS mA (u1 mF 0 0) mB (mS 0)) mS mV) mT ((mAn mS (mCopy mS mA) (mRecF (mAnF mS mA (u1 mF 0 0) mB (mS 0))) ((mAn mS mA (u1 mF 0 0) mB (mS 0)).2.2.2) (mS 0)).2.2.2)) := hD
    refine x_pop hC dX5_anew_37 rfl ?_
    refine x_al hC hl 0 dX5_anew_38 rfl rfl ?_
    refine x_get5 (v := .ref (h 1)) hC hP 0 rfl 1 (by decide) tb_620 rfl rfl dX5_anew_39 ?_
    refine x_ic hC dX5_anew_42 ?_
    refine x_al hC hl 0 dX5_anew_43 rfl rfl ?_
    refine x_get5 (v := .int (iI ((mAnF mS (mCopy mS mA) (mRecF (mAnF mS mA (u1 mF 0 0) mB (mS 0))) ((mAn mS mA (u1 mF 0 0) mB (mS 0)).2.2.2) (mS 0)) 8))) hC hP 0 rfl 8 (by decide) tb_627 rfl rfl dX5_anew_44 ?_
    refine x_top (iI (mPr mS (mS 0))) (congrArg iI (by exact mAnF_8 hI _ _ _ _ hok : (mAnF mS (mCopy mS mA) (mRecF (mAnF mS mA (u1 mF 0 0) mB (mS 0))) ((mAn mS mA (u1 mF 0 0) mB (mS 0)).2.2.2) (mS 0)) 8 = mPr mS (mS 0))) ?_
    refine x_iast hC hP hD hS 1 rfl (by omega) (by decide) dX5_anew_47 (fun H locs hP hD hS => ?_)
    have hP : va_P D vwCl (wM h cs (mAnF mS (mCopy mS mA) (mRecF (mAnF mS mA (u1 mF 0 0) mB (mS 0))) ((mAn mS mA (u1 mF 0 0) mB (mS 0)).2.2.2) (mS 0)) (u1 ((mAn mS (mCopy mS mA) (mRecF (mAnF mS mA (u1 mF 0 0) mB (mS 0))) ((mAn mS mA (u1 mF 0 0) mB (mS 0)).2.2.2) (mS 0)).2.2.1) 3 (mPr mS (mS 0))) (mCopy mS (mCopy mS mA)) (mRecV (mAnF mS mA (u1 mF 0 0) mB (mS 0)) mS mV) mT ((mAn mS (mCopy mS mA) (mRecF (mAnF mS mA (u1 mF 0 0) mB (mS 0))) ((mAn mS mA (u1 mF 0 0) mB (mS 0)).2.2.2) (mS 0)).2.2.2)) H := hP
    have hD : va_D A (wM h cs (mAnF mS (mCopy mS mA) (mRecF (mAnF mS mA (u1 mF 0 0) mB (mS 0))) ((mAn mS mA (u1 mF 0 0) mB (mS 0)).2.2.2) (mS 0)) (u1 ((mAn mS (mCopy mS mA) (mRecF (mAnF mS mA (u1 mF 0 0) mB (mS 0))) ((mAn mS mA (u1 mF 0 0) mB (mS 0)).2.2.2) (mS 0)).2.2.1) 3 (mPr mS (mS 0))) (mCopy mS (mCopy mS mA)) (mRecV (mAnF mS mA (u1 mF 0 0) mB (mS 0)) mS mV) mT ((mAn mS (mCopy mS mA) (mRecF (mAnF mS mA (u1 mF 0 0) mB (mS 0))) ((mAn mS mA (u1 mF 0 0) mB (mS 0)).2.2.2) (mS 0)).2.2.2)) := hD
    refine x_al hC hl 0 dX5_anew_48 rfl rfl ?_
    refine x_get5 (v := .int (iI ((mAnF mS (mCopy mS mA) (mRecF (mAnF mS mA (u1 mF 0 0) mB (mS 0))) ((mAn mS mA (u1 mF 0 0) mB (mS 0)).2.2.2) (mS 0)) 8))) hC hP 0 rfl 8 (by decide) tb_627 rfl rfl dX5_anew_49 ?_
    refine x_top (iI (mPr mS (mS 0))) (congrArg iI (by exact mAnF_8 hI _ _ _ _ hok : (mAnF mS (mCopy mS mA) (mRecF (mAnF mS mA (u1 mF 0 0) mB (mS 0))) ((mAn mS mA (u1 mF 0 0) mB (mS 0)).2.2.2) (mS 0)) 8 = mPr mS (mS 0))) ?_
    have ew : (wM h cs (mAnF mS (mCopy mS mA) (mRecF (mAnF mS mA (u1 mF 0 0) mB (mS 0))) ((mAn mS mA (u1 mF 0 0) mB (mS 0)).2.2.2) (mS 0)) (u1 ((mAn mS (mCopy mS mA) (mRecF (mAnF mS mA (u1 mF 0 0) mB (mS 0))) ((mAn mS mA (u1 mF 0 0) mB (mS 0)).2.2.2) (mS 0)).2.2.1) 3 (mPr mS (mS 0))) (mCopy mS (mCopy mS mA)) (mRecV (mAnF mS mA (u1 mF 0 0) mB (mS 0)) mS mV) mT ((mAn mS (mCopy mS mA) (mRecF (mAnF mS mA (u1 mF 0 0) mB (mS 0))) ((mAn mS mA (u1 mF 0 0) mB (mS 0)).2.2.2) (mS 0)).2.2.2)) = (wM h cs (iif (mPr mS (mS 0) = -1000002) (mAnF mS mA (u1 mF 0 0) mB (mS 0)) (mAnF mS (mCopy mS mA) (mRecF (mAnF mS mA (u1 mF 0 0) mB (mS 0))) (mAn mS mA (u1 mF 0 0) mB (mS 0)).2.2.2 (mS 0))) (iif (mPr mS (mS 0) = -1000002) mS (u1 (mC mS (mS 0)).2.2.1 3 (mPr mS (mS 0)))) (iif (mPr mS (mS 0) = -1000002) (mCopy mS mA) (mCopy mS (mCopy mS mA))) (iif (mPr mS (mS 0) = -1000002) mV (mRecV (mAnF mS mA (u1 mF 0 0) mB (mS 0)) mS mV)) mT (iif (mPr mS (mS 0) = -1000002) (mAn mS mA (u1 mF 0 0) mB (mS 0)).2.2.2 (mAn mS (mCopy mS mA) (mRecF (mAnF mS mA (u1 mF 0 0) mB (mS 0))) (mAn mS mA (u1 mF 0 0) mB (mS 0)).2.2.2 (mS 0)).2.2.2)) := (wMc (by first | exact (iif_t c_17).symm | exact (iif_f c_17).symm : mAnF mS (mCopy mS mA) (mRecF (mAnF mS mA (u1 mF 0 0) mB (mS 0))) ((mAn mS mA (u1 mF 0 0) mB (mS 0)).2.2.2) (mS 0) = iif (mPr mS (mS 0) = -1000002) (mAnF mS mA (u1 mF 0 0) mB (mS 0)) (mAnF mS (mCopy mS mA) (mRecF (mAnF mS mA (u1 mF 0 0) mB (mS 0))) (mAn mS mA (u1 mF 0 0) mB (mS 0)).2.2.2 (mS 0))) (by rw [(mAn_c hI _ _ _ _).2.1]; exact (iif_f c_17).symm : u1 ((mAn mS (mCopy mS mA) (mRecF (mAnF mS mA (u1 mF 0 0) mB (mS 0))) ((mAn mS mA (u1 mF 0 0) mB (mS 0)).2.2.2) (mS 0)).2.2.1) 3 (mPr mS (mS 0)) = iif (mPr mS (mS 0) = -1000002) mS (u1 (mC mS (mS 0)).2.2.1 3 (mPr mS (mS 0)))) (by first | exact (iif_t c_17).symm | exact (iif_f c_17).symm : mCopy mS (mCopy mS mA) = iif (mPr mS (mS 0) = -1000002) (mCopy mS mA) (mCopy mS (mCopy mS mA))) (by first | exact (iif_t c_17).symm | exact (iif_f c_17).symm : mRecV (mAnF mS mA (u1 mF 0 0) mB (mS 0)) mS mV = iif (mPr mS (mS 0) = -1000002) mV (mRecV (mAnF mS mA (u1 mF 0 0) mB (mS 0)) mS mV)) rfl (by first | exact (iif_t c_17).symm | exact (iif_f c_17).symm : (mAn mS (mCopy mS mA) (mRecF (mAnF mS mA (u1 mF 0 0) mB (mS 0))) ((mAn mS mA (u1 mF 0 0) mB (mS 0)).2.2.2) (mS 0)).2.2.2 = iif (mPr mS (mS 0) = -1000002) (mAn mS mA (u1 mF 0 0) mB (mS 0)).2.2.2 (mAn mS (mCopy mS mA) (mRecF (mAnF mS mA (u1 mF 0 0) mB (mS 0))) (mAn mS mA (u1 mF 0 0) mB (mS 0)).2.2.2 (mS 0)).2.2.2))
    have hP := vPe hP ew
    have hD := vDe hD ew
    exact x_retI (rfl) hend hP hD hS dX5_anew_52
  · refine x_ldc hC (-1000002) tb_720 (by decide) dX5_anew_20 ?_
    have ew_2 : (wM h cs (mAnF mS mA (u1 mF 0 0) mB (mS 0)) mS (mCopy mS mA) mV mT ((mAn mS mA (u1 mF 0 0) mB (mS 0)).2.2.2)) = (wM h cs (iif (mPr mS (mS 0) = -1000002) (mAnF mS mA (u1 mF 0 0) mB (mS 0)) (mAnF mS (mCopy mS mA) (mRecF (mAnF mS mA (u1 mF 0 0) mB (mS 0))) (mAn mS mA (u1 mF 0 0) mB (mS 0)).2.2.2 (mS 0))) (iif (mPr mS (mS 0) = -1000002) mS (u1 (mC mS (mS 0)).2.2.1 3 (mPr mS (mS 0)))) (iif (mPr mS (mS 0) = -1000002) (mCopy mS mA) (mCopy mS (mCopy mS mA))) (iif (mPr mS (mS 0) = -1000002) mV (mRecV (mAnF mS mA (u1 mF 0 0) mB (mS 0)) mS mV)) mT (iif (mPr mS (mS 0) = -1000002) (mAn mS mA (u1 mF 0 0) mB (mS 0)).2.2.2 (mAn mS (mCopy mS mA) (mRecF (mAnF mS mA (u1 mF 0 0) mB (mS 0))) (mAn mS mA (u1 mF 0 0) mB (mS 0)).2.2.2 (mS 0)).2.2.2)) := (wMc (by first | exact (iif_t c_17).symm | exact (iif_f c_17).symm : mAnF mS mA (u1 mF 0 0) mB (mS 0) = iif (mPr mS (mS 0) = -1000002) (mAnF mS mA (u1 mF 0 0) mB (mS 0)) (mAnF mS (mCopy mS mA) (mRecF (mAnF mS mA (u1 mF 0 0) mB (mS 0))) (mAn mS mA (u1 mF 0 0) mB (mS 0)).2.2.2 (mS 0))) (by first | exact (iif_t c_17).symm | exact (iif_f c_17).symm : mS = iif (mPr mS (mS 0) = -1000002) mS (u1 (mC mS (mS 0)).2.2.1 3 (mPr mS (mS 0)))) (by first | exact (iif_t c_17).symm | exact (iif_f c_17).symm : mCopy mS mA = iif (mPr mS (mS 0) = -1000002) (mCopy mS mA) (mCopy mS (mCopy mS mA))) (by first | exact (iif_t c_17).symm | exact (iif_f c_17).symm : mV = iif (mPr mS (mS 0) = -1000002) mV (mRecV (mAnF mS mA (u1 mF 0 0) mB (mS 0)) mS mV)) rfl (by first | exact (iif_t c_17).symm | exact (iif_f c_17).symm : (mAn mS mA (u1 mF 0 0) mB (mS 0)).2.2.2 = iif (mPr mS (mS 0) = -1000002) (mAn mS mA (u1 mF 0 0) mB (mS 0)).2.2.2 (mAn mS (mCopy mS mA) (mRecF (mAnF mS mA (u1 mF 0 0) mB (mS 0))) (mAn mS mA (u1 mF 0 0) mB (mS 0)).2.2.2 (mS 0)).2.2.2))
    have hP := vPe hP ew_2
    have hD := vDe hD ew_2
    exact x_retI (congrArg iI (by first | rfl | omega : (-1000002) = mPr mS (mS 0))) hend hP hD hS dX5_anew_22
abbrev r5_known : Room := { frames := 6, cells := 0, slots := 0, locals := 145 }
set_option maxHeartbeats 4000000 in
set_option maxRecDepth 100000 in
theorem k5_known (l : Launch) (D : va_G) (cs : Nat → ClassId) (h : Nat → Nat) (mF : Int → Int) (mS : Int → Int) (mA : Int → Int) (mV : Int → Int) (mT : Int → Int) (mB : Int → Int) (rule : Int) (what : Int) (hI : IM mS) (g_rule : -2147483648 ≤ rule ∧ rule ≤ 2147483647) (g_what : -2147483648 ≤ what ∧ what ≤ 2147483647) : CI l D cs yX5_known cX5_known 4 .int r5_known 0 0 [.ref (h 0), .int (iI rule), .int (iI what)] (wM h cs mF mS mA mV mT mB) (wM h cs (iif ((0 ≤ rule ∧ rule ≤ 3) ∧ 0 ≤ what ∧ what ≤ 2) (mAnF mS mA (u1 mF 0 0) mB rule) (u1 mF 0 0)) mS (iif ((0 ≤ rule ∧ rule ≤ 3) ∧ 0 ≤ what ∧ what ≤ 2) (mCopy mS mA) mA) mV mT (iif ((0 ≤ rule ∧ rule ≤ 3) ∧ 0 ≤ what ∧ what ≤ 2) (mAn mS mA (u1 mF 0 0) mB rule).2.2.2 mB)) (iI (iif ((0 ≤ rule ∧ rule ≤ 3) ∧ 0 ≤ what ∧ what ≤ 2) (iif (mPr mS rule = -1000002 ∨ what = 0) (mPr mS rule) (iif (what = 1) ((mC mS rule).2.2.1 2 - mS 2) ((mC mS rule).2.1 10))) (-1000001))) := by
  refine CI_start (own := RX5) (by decide) rfl rfl (Nat.le_of_ble_eq_true rfl) ?_
  intro p e s m args below meth c Q A ls hC hl hP hD hA hS hend
  have hl : lv_has ls 4 [(0, .ref (h 0)), (1, .int (iI rule)), (2, .int (iI what))] := hl
  obtain ⟨H, hH⟩ : ∃ H : Heap, H = s.heap := ⟨_, rfl⟩
  have hS : va_S A s.heap H [] := by rw [hH]; exact hS
  rw [← hH] at hP
  obtain ⟨locs, hlocs⟩ : ∃ locs : List Loc, locs = [] := ⟨_, rfl⟩
  rw [← hlocs] at hS
  suffices hgo : W p l e r5_known s m args below meth c H locs 0 0 Q (F0 m 0 ls []) by rw [← hH, ← hlocs]; exact hgo
  clear hH hlocs
  obtain ⟨z0, z1, -⟩ := id hI
  have qp := mPr_rg hI rule
  refine x_al hC hl 0 dX5_known_0 rfl rfl ?_
  refine x_ic hC dX5_known_1 ?_
  refine x_put5_0 hC hP hD hS 0 rfl tb_619 dX5_known_2 (fun H locs hP hD hS => ?_)
  have hP : va_P D vwCl (wM h cs (u1 mF 0 0) mS mA mV mT mB) H := hP
  have hD : va_D A (wM h cs (u1 mF 0 0) mS mA mV mT mB) := hD
  refine x_il hC hl 1 dX5_known_5 rfl rfl ?_
  refine x_ic hC dX5_known_6 ?_
  refine x_ic hC dX5_known_7 ?_
  refine x_sI (As := [.int (iI rule), .int (iI 0), .int (iI 3)]) hC (k5_in l D cs rule 0 3 (by first | assumption | omega) (by first | assumption | omega) (by first | assumption | omega)) lk5_30 (sub_none hP hD hS hA) hP hS rfl hl.1 rfl (Nat.le_of_ble_eq_true rfl) ⟨rfl, rfl⟩ ⟨Nat.le_of_ble_eq_true rfl, Nat.le_of_ble_eq_true rfl⟩ ⟨Nat.le_of_ble_eq_true rfl, Nat.le_of_ble_eq_true rfl⟩ dX5_known_8 (fun H locs hP hD hS hHs => ?_)
  refine x_if_eq_b hC 23 dX5_known_11 (by decide) (fun c_11 => ?_) (fun c_11 => ?_)
  · refine x_ldc hC (-1000001) tb_683 (by decide) dX5_known_23 ?_
    have ew : (wM h cs (u1 mF 0 0) mS mA mV mT mB) = (wM h cs (iif ((0 ≤ rule ∧ rule ≤ 3) ∧ 0 ≤ what ∧ what ≤ 2) (mAnF mS mA (u1 mF 0 0) mB rule) (u1 mF 0 0)) mS (iif ((0 ≤ rule ∧ rule ≤ 3) ∧ 0 ≤ what ∧ what ≤ 2) (mCopy mS mA) mA) mV mT (iif ((0 ≤ rule ∧ rule ≤ 3) ∧ 0 ≤ what ∧ what ≤ 2) (mAn mS mA (u1 mF 0 0) mB rule).2.2.2 mB)) := (wMc (by first | exact (iif_t ⟨c_11, c_20⟩).symm | exact (iif_f (fun h => c_20 h.2)).symm | exact (iif_f (fun h => c_11 h.1)).symm : u1 mF 0 0 = iif ((0 ≤ rule ∧ rule ≤ 3) ∧ 0 ≤ what ∧ what ≤ 2) (mAnF mS mA (u1 mF 0 0) mB rule) (u1 mF 0 0)) rfl (by first | exact (iif_t ⟨c_11, c_20⟩).symm | exact (iif_f (fun h => c_20 h.2)).symm | exact (iif_f (fun h => c_11 h.1)).symm : mA = iif ((0 ≤ rule ∧ rule ≤ 3) ∧ 0 ≤ what ∧ what ≤ 2) (mCopy mS mA) mA) rfl rfl (by first | exact (iif_t ⟨c_11, c_20⟩).symm | exact (iif_f (fun h => c_20 h.2)).symm | exact (iif_f (fun h => c_11 h.1)).symm : mB = iif ((0 ≤ rule ∧ rule ≤ 3) ∧ 0 ≤ what ∧ what ≤ 2) (mAn mS mA (u1 mF 0 0) mB rule).2.2.2 mB))
    have hP := vPe hP ew
    have hD := vDe hD ew
    exact x_retI (congrArg iI (by first | exact (iif_f (fun h => c_20 h.2)).symm | exact (iif_f (fun h => c_11 h.1)).symm : (-1000001) = iif ((0 ≤ rule ∧ rule ≤ 3) ∧ 0 ≤ what ∧ what ≤ 2) (iif (mPr mS rule = -1000002 ∨ what = 0) (mPr mS rule) (iif (what = 1) ((mC mS rule).2.2.1 2 - mS 2) ((mC mS rule).2.1 10))) (-1000001))) hend hP hD hS dX5_known_25
  · refine x_il hC hl 2 dX5_known_14 rfl rfl ?_
    refine x_ic hC dX5_known_15 ?_
    refine x_ic hC dX5_known_16 ?_
    refine x_sI (As := [.int (iI what), .int (iI 0), .int (iI 2)]) hC (k5_in l D cs what 0 2 (by first | assumption | omega) (by first | assumption | omega) (by first | assumption | omega)) lk5_30 (sub_none hP hD hS hA) hP hS rfl hl.1 rfl (Nat.le_of_ble_eq_true rfl) ⟨rfl, rfl⟩ ⟨Nat.le_of_ble_eq_true rfl, Nat.le_of_ble_eq_true rfl⟩ ⟨Nat.le_of_ble_eq_true rfl, Nat.le_of_ble_eq_true rfl⟩ dX5_known_17 (fun H locs hP hD hS hHs => ?_)
    refine x_if_ne_b hC 26 dX5_known_20 (by decide) (fun c_20 => ?_) (fun c_20 => ?_)
    · refine x_al hC hl 0 dX5_known_26 rfl rfl ?_
      refine x_il hC hl 1 dX5_known_27 rfl rfl ?_
      refine x_vI (As := [.int (iI rule)]) hC (k5_priceBy l D cs h (u1 mF 0 0) mS mA mV mT mB rule (by first | assumption | omega) (by first | assumption | omega)) lk5_134 (q0 := 0) (ci := 5) rfl rfl rfl (sub_all hP hD hS hA) hP hS rfl hl.1 rfl (Nat.le_of_ble_eq_true rfl) ⟨rfl, rfl⟩ ⟨Nat.le_of_ble_eq_true rfl, Nat.le_of_ble_eq_true rfl⟩ ⟨Nat.le_of_ble_eq_true rfl, Nat.le_of_ble_eq_true rfl⟩ dX5_known_28 (fun H locs hP hD hS hHs => ?_)
      have hP : va_P D vwCl (wM h cs (mAnF mS mA (u1 mF 0 0) mB rule) mS (mCopy mS mA) mV mT ((mAn mS mA (u1 mF 0 0) mB rule).2.2.2)) H := hP
      have hD : va_D A (wM h cs (mAnF mS mA (u1 mF 0 0) mB rule) mS (mCopy mS mA) mV mT ((mAn mS mA (u1 mF 0 0) mB rule).2.2.2)) := hD
      refine x_top (iI (mPr mS rule)) (congrArg iI (by exact mPrice_c hI _ _ _ _ : mPrice mS mA (u1 mF 0 0) mB rule = mPr mS rule)) ?_
      refine x_is hC [(3, .int (iI (mPr mS rule))), (0, .ref (h 0)), (1, .int (iI rule)), (2, .int (iI what))] hl dX5_known_31 rfl (by decide) rfl (fun ls hl => ?_)
      refine x_il hC hl 0 dX5_known_32 rfl rfl ?_
      refine x_ldc hC (-1000002) tb_720 (by decide) dX5_known_33 ?_
      refine x_ic_eq hC 42 dX5_known_35 (by decide) (by omega) (by omega) (fun c_35 => ?_) (fun c_35 => ?_)
      · refine x_il hC hl 0 dX5_known_42 rfl rfl ?_
        refine x_goto hC 62 dX5_known_43 (by decide) ?_
        have ew_2 : (wM h cs (mAnF mS mA (u1 mF 0 0) mB rule) mS (mCopy mS mA) mV mT ((mAn mS mA (u1 mF 0 0) mB rule).2.2.2)) = (wM h cs (iif ((0 ≤ rule ∧ rule ≤ 3) ∧ 0 ≤ what ∧ what ≤ 2) (mAnF mS mA (u1 mF 0 0) mB rule) (u1 mF 0 0)) mS (iif ((0 ≤ rule ∧ rule ≤ 3) ∧ 0 ≤ what ∧ what ≤ 2) (mCopy mS mA) mA) mV mT (iif ((0 ≤ rule ∧ rule ≤ 3) ∧ 0 ≤ what ∧ what ≤ 2) (mAn mS mA (u1 mF 0 0) mB rule).2.2.2 mB)) := (wMc (by first | exact (iif_t ⟨c_11, c_20⟩).symm | exact (iif_f (fun h => c_20 h.2)).symm | exact (iif_f (fun h => c_11 h.1)).symm : mAnF mS mA (u1 mF 0 0) mB rule = iif ((0 ≤ rule ∧ rule ≤ 3) ∧ 0 ≤ what ∧ what ≤ 2) (mAnF mS mA (u1 mF 0 0) mB rule) (u1 mF 0 0)) rfl (by first | exact (iif_t ⟨c_11, c_20⟩).symm | exact (iif_f (fun h => c_20 h.2)).symm | exact (iif_f (fun h => c_11 h.1)).symm : mCopy mS mA = iif ((0 ≤ rule ∧ rule ≤ 3) ∧ 0 ≤ what ∧ what ≤ 2) (mCopy mS mA) mA) rfl rfl (by first | exact (iif_t ⟨c_11, c_20⟩).symm | exact (iif_f (fun h => c_20 h.2)).symm | exact (iif_f (fun h => c_11 h.1)).symm : (mAn mS mA (u1 mF 0 0) mB rule).2.2.2 = iif ((0 ≤ rule ∧ rule ≤ 3) ∧ 0 ≤ what ∧ what ≤ 2) (mAn mS mA (u1 mF 0 0) mB rule).2.2.2 mB))
        have hP := vPe hP ew_2
        have hD := vDe hD ew_2
        exact x_retI (congrArg iI (by rw [iif_t ⟨c_11, c_20⟩]; first | exact (iif_t (Or.inl c_35)).symm | exact (iif_t (Or.inr c_39)).symm | (rw [iif_f (by omega)]; first | exact (mAnF_9 hI _ _ _ _ (Classical.not_not.mp (fun q => c_35 (qp.2.2.mpr q)))).trans (iif_t c_48).symm | exact (mAnF_10 hI _ _ _ _ (Classical.not_not.mp (fun q => c_35 (qp.2.2.mpr q)))).trans (iif_f c_48).symm) : mPr mS rule = iif ((0 ≤ rule ∧ rule ≤ 3) ∧ 0 ≤ what ∧ what ≤ 2) (iif (mPr mS rule = -1000002 ∨ what = 0) (mPr mS rule) (iif (what = 1) ((mC mS rule).2.2.1 2 - mS 2) ((mC mS rule).2.1 10))) (-1000001))) hend hP hD hS dX5_known_62
      · refine x_il hC hl 3 dX5_known_38 rfl rfl ?_
        refine x_if_ne hC 46 dX5_known_39 (by decide) (by omega) (fun c_39 => ?_) (fun c_39 => ?_)
        · refine x_il hC hl 3 dX5_known_46 rfl rfl ?_
          refine x_ic hC dX5_known_47 ?_
          refine x_ic_ne hC 58 dX5_known_48 (by decide) (by omega) (by omega) (fun c_48 => ?_) (fun c_48 => ?_)
          · refine x_al hC hl 1 dX5_known_58 rfl rfl ?_
            refine x_get5 (v := .int (iI ((mAnF mS mA (u1 mF 0 0) mB rule) 10))) hC hP 0 rfl 10 (by decide) tb_629 rfl rfl dX5_known_59 ?_
            have ew_3 : (wM h cs (mAnF mS mA (u1 mF 0 0) mB rule) mS (mCopy mS mA) mV mT ((mAn mS mA (u1 mF 0 0) mB rule).2.2.2)) = (wM h cs (iif ((0 ≤ rule ∧ rule ≤ 3) ∧ 0 ≤ what ∧ what ≤ 2) (mAnF mS mA (u1 mF 0 0) mB rule) (u1 mF 0 0)) mS (iif ((0 ≤ rule ∧ rule ≤ 3) ∧ 0 ≤ what ∧ what ≤ 2) (mCopy mS mA) mA) mV mT (iif ((0 ≤ rule ∧ rule ≤ 3) ∧ 0 ≤ what ∧ what ≤ 2) (mAn mS mA (u1 mF 0 0) mB rule).2.2.2 mB)) := (wMc (by first | exact (iif_t ⟨c_11, c_20⟩).symm | exact (iif_f (fun h => c_20 h.2)).symm | exact (iif_f (fun h => c_11 h.1)).symm : mAnF mS mA (u1 mF 0 0) mB rule = iif ((0 ≤ rule ∧ rule ≤ 3) ∧ 0 ≤ what ∧ what ≤ 2) (mAnF mS mA (u1 mF 0 0) mB rule) (u1 mF 0 0)) rfl (by first | exact (iif_t ⟨c_11, c_20⟩).symm | exact (iif_f (fun h => c_20 h.2)).symm | exact (iif_f (fun h => c_11 h.1)).symm : mCopy mS mA = iif ((0 ≤ rule ∧ rule ≤ 3) ∧ 0 ≤ what ∧ what ≤ 2) (mCopy mS mA) mA) rfl rfl (by first | exact (iif_t ⟨c_11, c_20⟩).symm | exact (iif_f (fun h => c_20 h.2)).symm | exact (iif_f (fun h => c_11 h.1)).symm : (mAn mS mA (u1 mF 0 0) mB rule).2.2.2 = iif ((0 ≤ rule ∧ rule ≤ 3) ∧ 0 ≤ what ∧ what ≤ 2) (mAn mS mA (u1 mF 0 0) mB rule).2.2.2 mB))
            have hP := vPe hP ew_3
            have hD := vDe hD ew_3
            exact x_retI (congrArg iI (by rw [iif_t ⟨c_11, c_20⟩]; first | exact (iif_t (Or.inl c_35)).symm | exact (iif_t (Or.inr c_39)).symm | (rw [iif_f (by omega)]; first | exact (mAnF_9 hI _ _ _ _ (Classical.not_not.mp (fun q => c_35 (qp.2.2.mpr q)))).trans (iif_t c_48).symm | exact (mAnF_10 hI _ _ _ _ (Classical.not_not.mp (fun q => c_35 (qp.2.2.mpr q)))).trans (iif_f c_48).symm) : (mAnF mS mA (u1 mF 0 0) mB rule) 10 = iif ((0 ≤ rule ∧ rule ≤ 3) ∧ 0 ≤ what ∧ what ≤ 2) (iif (mPr mS rule = -1000002 ∨ what = 0) (mPr mS rule) (iif (what = 1) ((mC mS rule).2.2.1 2 - mS 2) ((mC mS rule).2.1 10))) (-1000001))) hend hP hD hS dX5_known_62
          · refine x_al hC hl 1 dX5_known_51 rfl rfl ?_
            refine x_get5 (v := .int (iI ((mAnF mS mA (u1 mF 0 0) mB rule) 9))) hC hP 0 rfl 9 (by decide) tb_628 rfl rfl dX5_known_52 ?_
            refine x_goto hC 62 dX5_known_55 (by decide) ?_
            have ew_4 : (wM h cs (mAnF mS mA (u1 mF 0 0) mB rule) mS (mCopy mS mA) mV mT ((mAn mS mA (u1 mF 0 0) mB rule).2.2.2)) = (wM h cs (iif ((0 ≤ rule ∧ rule ≤ 3) ∧ 0 ≤ what ∧ what ≤ 2) (mAnF mS mA (u1 mF 0 0) mB rule) (u1 mF 0 0)) mS (iif ((0 ≤ rule ∧ rule ≤ 3) ∧ 0 ≤ what ∧ what ≤ 2) (mCopy mS mA) mA) mV mT (iif ((0 ≤ rule ∧ rule ≤ 3) ∧ 0 ≤ what ∧ what ≤ 2) (mAn mS mA (u1 mF 0 0) mB rule).2.2.2 mB)) := (wMc (by first | exact (iif_t ⟨c_11, c_20⟩).symm | exact (iif_f (fun h => c_20 h.2)).symm | exact (iif_f (fun h => c_11 h.1)).symm : mAnF mS mA (u1 mF 0 0) mB rule = iif ((0 ≤ rule ∧ rule ≤ 3) ∧ 0 ≤ what ∧ what ≤ 2) (mAnF mS mA (u1 mF 0 0) mB rule) (u1 mF 0 0)) rfl (by first | exact (iif_t ⟨c_11, c_20⟩).symm | exact (iif_f (fun h => c_20 h.2)).symm | exact (iif_f (fun h => c_11 h.1)).symm : mCopy mS mA = iif ((0 ≤ rule ∧ rule ≤ 3) ∧ 0 ≤ what ∧ what ≤ 2) (mCopy mS mA) mA) rfl rfl (by first | exact (iif_t ⟨c_11, c_20⟩).symm | exact (iif_f (fun h => c_20 h.2)).symm | exact (iif_f (fun h => c_11 h.1)).symm : (mAn mS mA (u1 mF 0 0) mB rule).2.2.2 = iif ((0 ≤ rule ∧ rule ≤ 3) ∧ 0 ≤ what ∧ what ≤ 2) (mAn mS mA (u1 mF 0 0) mB rule).2.2.2 mB))
            have hP := vPe hP ew_4
            have hD := vDe hD ew_4
            exact x_retI (congrArg iI (by rw [iif_t ⟨c_11, c_20⟩]; first | exact (iif_t (Or.inl c_35)).symm | exact (iif_t (Or.inr c_39)).symm | (rw [iif_f (by omega)]; first | exact (mAnF_9 hI _ _ _ _ (Classical.not_not.mp (fun q => c_35 (qp.2.2.mpr q)))).trans (iif_t c_48).symm | exact (mAnF_10 hI _ _ _ _ (Classical.not_not.mp (fun q => c_35 (qp.2.2.mpr q)))).trans (iif_f c_48).symm) : (mAnF mS mA (u1 mF 0 0) mB rule) 9 = iif ((0 ≤ rule ∧ rule ≤ 3) ∧ 0 ≤ what ∧ what ≤ 2) (iif (mPr mS rule = -1000002 ∨ what = 0) (mPr mS rule) (iif (what = 1) ((mC mS rule).2.2.1 2 - mS 2) ((mC mS rule).2.1 10))) (-1000001))) hend hP hD hS dX5_known_62
        · refine x_il hC hl 0 dX5_known_42 rfl rfl ?_
          refine x_goto hC 62 dX5_known_43 (by decide) ?_
          have ew_5 : (wM h cs (mAnF mS mA (u1 mF 0 0) mB rule) mS (mCopy mS mA) mV mT ((mAn mS mA (u1 mF 0 0) mB rule).2.2.2)) = (wM h cs (iif ((0 ≤ rule ∧ rule ≤ 3) ∧ 0 ≤ what ∧ what ≤ 2) (mAnF mS mA (u1 mF 0 0) mB rule) (u1 mF 0 0)) mS (iif ((0 ≤ rule ∧ rule ≤ 3) ∧ 0 ≤ what ∧ what ≤ 2) (mCopy mS mA) mA) mV mT (iif ((0 ≤ rule ∧ rule ≤ 3) ∧ 0 ≤ what ∧ what ≤ 2) (mAn mS mA (u1 mF 0 0) mB rule).2.2.2 mB)) := (wMc (by first | exact (iif_t ⟨c_11, c_20⟩).symm | exact (iif_f (fun h => c_20 h.2)).symm | exact (iif_f (fun h => c_11 h.1)).symm : mAnF mS mA (u1 mF 0 0) mB rule = iif ((0 ≤ rule ∧ rule ≤ 3) ∧ 0 ≤ what ∧ what ≤ 2) (mAnF mS mA (u1 mF 0 0) mB rule) (u1 mF 0 0)) rfl (by first | exact (iif_t ⟨c_11, c_20⟩).symm | exact (iif_f (fun h => c_20 h.2)).symm | exact (iif_f (fun h => c_11 h.1)).symm : mCopy mS mA = iif ((0 ≤ rule ∧ rule ≤ 3) ∧ 0 ≤ what ∧ what ≤ 2) (mCopy mS mA) mA) rfl rfl (by first | exact (iif_t ⟨c_11, c_20⟩).symm | exact (iif_f (fun h => c_20 h.2)).symm | exact (iif_f (fun h => c_11 h.1)).symm : (mAn mS mA (u1 mF 0 0) mB rule).2.2.2 = iif ((0 ≤ rule ∧ rule ≤ 3) ∧ 0 ≤ what ∧ what ≤ 2) (mAn mS mA (u1 mF 0 0) mB rule).2.2.2 mB))
          have hP := vPe hP ew_5
          have hD := vDe hD ew_5
          exact x_retI (congrArg iI (by rw [iif_t ⟨c_11, c_20⟩]; first | exact (iif_t (Or.inl c_35)).symm | exact (iif_t (Or.inr c_39)).symm | (rw [iif_f (by omega)]; first | exact (mAnF_9 hI _ _ _ _ (Classical.not_not.mp (fun q => c_35 (qp.2.2.mpr q)))).trans (iif_t c_48).symm | exact (mAnF_10 hI _ _ _ _ (Classical.not_not.mp (fun q => c_35 (qp.2.2.mpr q)))).trans (iif_f c_48).symm) : mPr mS rule = iif ((0 ≤ rule ∧ rule ≤ 3) ∧ 0 ≤ what ∧ what ≤ 2) (iif (mPr mS rule = -1000002 ∨ what = 0) (mPr mS rule) (iif (what = 1) ((mC mS rule).2.2.1 2 - mS 2) ((mC mS rule).2.1 10))) (-1000001))) hend hP hD hS dX5_known_62
    · refine x_ldc hC (-1000001) tb_683 (by decide) dX5_known_23 ?_
      have ew_6 : (wM h cs (u1 mF 0 0) mS mA mV mT mB) = (wM h cs (iif ((0 ≤ rule ∧ rule ≤ 3) ∧ 0 ≤ what ∧ what ≤ 2) (mAnF mS mA (u1 mF 0 0) mB rule) (u1 mF 0 0)) mS (iif ((0 ≤ rule ∧ rule ≤ 3) ∧ 0 ≤ what ∧ what ≤ 2) (mCopy mS mA) mA) mV mT (iif ((0 ≤ rule ∧ rule ≤ 3) ∧ 0 ≤ what ∧ what ≤ 2) (mAn mS mA (u1 mF 0 0) mB rule).2.2.2 mB)) := (wMc (by first | exact (iif_t ⟨c_11, c_20⟩).symm | exact (iif_f (fun h => c_20 h.2)).symm | exact (iif_f (fun h => c_11 h.1)).symm : u1 mF 0 0 = iif ((0 ≤ rule ∧ rule ≤ 3) ∧ 0 ≤ what ∧ what ≤ 2) (mAnF mS mA (u1 mF 0 0) mB rule) (u1 mF 0 0)) rfl (by first | exact (iif_t ⟨c_11, c_20⟩).symm | exact (iif_f (fun h => c_20 h.2)).symm | exact (iif_f (fun h => c_11 h.1)).symm : mA = iif ((0 ≤ rule ∧ rule ≤ 3) ∧ 0 ≤ what ∧ what ≤ 2) (mCopy mS mA) mA) rfl rfl (by first | exact (iif_t ⟨c_11, c_20⟩).symm | exact (iif_f (fun h => c_20 h.2)).symm | exact (iif_f (fun h => c_11 h.1)).symm : mB = iif ((0 ≤ rule ∧ rule ≤ 3) ∧ 0 ≤ what ∧ what ≤ 2) (mAn mS mA (u1 mF 0 0) mB rule).2.2.2 mB))
      have hP := vPe hP ew_6
      have hD := vDe hD ew_6
      exact x_retI (congrArg iI (by first | exact (iif_f (fun h => c_20 h.2)).symm | exact (iif_f (fun h => c_11 h.1)).symm : (-1000001) = iif ((0 ≤ rule ∧ rule ≤ 3) ∧ 0 ≤ what ∧ what ≤ 2) (iif (mPr mS rule = -1000002 ∨ what = 0) (mPr mS rule) (iif (what = 1) ((mC mS rule).2.2.1 2 - mS 2) ((mC mS rule).2.1 10))) (-1000001))) hend hP hD hS dX5_known_25
abbrev r5_unknowing : Room := { frames := 6, cells := 0, slots := 0, locals := 145 }
set_option maxHeartbeats 4000000 in
set_option maxRecDepth 100000 in
theorem k5_unknowing (l : Launch) (D : va_G) (cs : Nat → ClassId) (h : Nat → Nat) (mF : Int → Int) (mS : Int → Int) (mA : Int → Int) (mV : Int → Int) (mT : Int → Int) (mB : Int → Int) (hI : IM mS) : CI l D cs yX5_unknowing cX5_unknowing 2 .int r5_unknowing 0 0 [.ref (h 0)] (wM h cs mF mS mA mV mT mB) (wM h cs (mAnF mS mA (u1 mF 0 0) mB (mS 0)) mS (mCopy mS mA) mV mT ((mAn mS mA (u1 mF 0 0) mB (mS 0)).2.2.2)) (iI (iif (mPr mS (mS 0) = -1000002) (mPr mS (mS 0)) (mS 3 - mPr mS (mS 0) + 10000))) := by
  refine CI_start (own := RX5) (by decide) rfl rfl (Nat.le_of_ble_eq_true rfl) ?_
  intro p e s m args below meth c Q A ls hC hl hP hD hA hS hend
  have hl : lv_has ls 2 [(0, .ref (h 0))] := hl
  obtain ⟨H, hH⟩ : ∃ H : Heap, H = s.heap := ⟨_, rfl⟩
  have hS : va_S A s.heap H [] := by rw [hH]; exact hS
  rw [← hH] at hP
  obtain ⟨locs, hlocs⟩ : ∃ locs : List Loc, locs = [] := ⟨_, rfl⟩
  rw [← hlocs] at hS
  suffices hgo : W p l e r5_unknowing s m args below meth c H locs 0 0 Q (F0 m 0 ls []) by rw [← hH, ← hlocs]; exact hgo
  clear hH hlocs
  obtain ⟨z0, z1, -⟩ := id hI
  have qp := mPr_rg hI (mS 0)
  refine x_al hC hl 0 dX5_unknowing_0 rfl rfl ?_
  refine x_ic hC dX5_unknowing_1 ?_
  refine x_put5_0 hC hP hD hS 0 rfl tb_619 dX5_unknowing_2 (fun H locs hP hD hS => ?_)
  have hP : va_P D vwCl (wM h cs (u1 mF 0 0) mS mA mV mT mB) H := hP
  have hD : va_D A (wM h cs (u1 mF 0 0) mS mA mV mT mB) := hD
  refine x_al hC hl 0 dX5_unknowing_5 rfl rfl ?_
  refine x_al hC hl 0 dX5_unknowing_6 rfl rfl ?_
  refine x_get5 (v := .ref (h 1)) hC hP 0 rfl 1 (by decide) tb_620 rfl rfl dX5_unknowing_7 ?_
  refine x_ic hC dX5_unknowing_10 ?_
  refine x_iald hC hP 1 rfl (by omega) (by decide) dX5_unknowing_11 ?_
  refine x_vI (As := [.int (iI (mS 0))]) hC (k5_priceBy l D cs h (u1 mF 0 0) mS mA mV mT mB (mS 0) (by first | assumption | omega) (by first | assumption | omega)) lk5_134 (q0 := 0) (ci := 5) rfl rfl rfl (sub_all hP hD hS hA) hP hS rfl hl.1 rfl (Nat.le_of_ble_eq_true rfl) ⟨rfl, rfl⟩ ⟨Nat.le_of_ble_eq_true rfl, Nat.le_of_ble_eq_true rfl⟩ ⟨Nat.le_of_ble_eq_true rfl, Nat.le_of_ble_eq_true rfl⟩ dX5_unknowing_12 (fun H locs hP hD hS hHs => ?_)
  have hP : va_P D vwCl (wM h cs (mAnF mS mA (u1 mF 0 0) mB (mS 0)) mS (mCopy mS mA) mV mT ((mAn mS mA (u1 mF 0 0) mB (mS 0)).2.2.2)) H := hP
  have hD : va_D A (wM h cs (mAnF mS mA (u1 mF 0 0) mB (mS 0)) mS (mCopy mS mA) mV mT ((mAn mS mA (u1 mF 0 0) mB (mS 0)).2.2.2)) := hD
  refine x_top (iI (mPr mS (mS 0))) (congrArg iI (by exact mPrice_c hI _ _ _ _ : mPrice mS mA (u1 mF 0 0) mB (mS 0) = mPr mS (mS 0))) ?_
  refine x_is hC [(1, .int (iI (mPr mS (mS 0)))), (0, .ref (h 0))] hl dX5_unknowing_15 rfl (by decide) rfl (fun ls hl => ?_)
  refine x_il hC hl 0 dX5_unknowing_16 rfl rfl ?_
  refine x_ldc hC (-1000002) tb_720 (by decide) dX5_unknowing_17 ?_
  refine x_ic_ne hC 26 dX5_unknowing_19 (by decide) (by omega) (by omega) (fun c_19 => ?_) (fun c_19 => ?_)
  · refine x_al hC hl 1 dX5_unknowing_26 rfl rfl ?_
    refine x_get5 (v := .ref (h 1)) hC hP 0 rfl 1 (by decide) tb_620 rfl rfl dX5_unknowing_27 ?_
    refine x_ic hC dX5_unknowing_30 ?_
    refine x_iald hC hP 1 rfl (by omega) (by decide) dX5_unknowing_31 ?_
    refine x_il hC hl 0 dX5_unknowing_32 rfl rfl ?_
    refine x_isub hC dX5_unknowing_33 ?_
    refine x_si hC dX5_unknowing_34 (by decide) ?_
    refine x_iadd hC dX5_unknowing_37 ?_
    exact x_retI (congrArg iI (by first | exact (iif_t c_19).symm | exact (iif_f c_19).symm : ((mS 3) - (mPr mS (mS 0))) + 10000 = iif (mPr mS (mS 0) = -1000002) (mPr mS (mS 0)) (mS 3 - mPr mS (mS 0) + 10000))) hend hP hD hS dX5_unknowing_38
  · refine x_il hC hl 0 dX5_unknowing_22 rfl rfl ?_
    refine x_goto hC 38 dX5_unknowing_23 (by decide) ?_
    exact x_retI (congrArg iI (by first | exact (iif_t c_19).symm | exact (iif_f c_19).symm : mPr mS (mS 0) = iif (mPr mS (mS 0) = -1000002) (mPr mS (mS 0)) (mS 3 - mPr mS (mS 0) + 10000))) hend hP hD hS dX5_unknowing_38
abbrev r5_bestRule : Room := { frames := 6, cells := 0, slots := 0, locals := 145 }
set_option maxHeartbeats 4000000 in
set_option maxRecDepth 100000 in
theorem k5_bestRule (l : Launch) (D : va_G) (cs : Nat → ClassId) (h : Nat → Nat) (mF : Int → Int) (mS : Int → Int) (mA : Int → Int) (mV : Int → Int) (mT : Int → Int) (mB : Int → Int) (what : Int) (hI : IM mS) (g_what : -2147483648 ≤ what ∧ what ≤ 2147483647) : CI l D cs yX5_bestRule cX5_bestRule 6 .int r5_bestRule 0 0 [.ref (h 0), .int (iI what)] (wM h cs mF mS mA mV mT mB) (wM h cs (iif (0 ≤ what ∧ what ≤ 1) (zB mS (u1 mF 0 0) mA mB 4).1 (u1 mF 0 0)) mS (iif (0 ≤ what ∧ what ≤ 1) (zB mS (u1 mF 0 0) mA mB 4).2.1 mA) mV mT (iif (0 ≤ what ∧ what ≤ 1) (zB mS (u1 mF 0 0) mA mB 4).2.2 mB)) (iI (iif (0 ≤ what ∧ what ≤ 1) (iif ((mBest mS 4).1 = -1000004 ∨ what = 0) (mBest mS 4).1 (mBest mS 4).2) (-1000001))) := by
  refine CI_start (own := RX5) (by decide) rfl rfl (Nat.le_of_ble_eq_true rfl) ?_
  intro p e s m args below meth c Q A ls hC hl hP hD hA hS hend
  have hl : lv_has ls 6 [(0, .ref (h 0)), (1, .int (iI what))] := hl
  obtain ⟨H, hH⟩ : ∃ H : Heap, H = s.heap := ⟨_, rfl⟩
  have hS : va_S A s.heap H [] := by rw [hH]; exact hS
  rw [← hH] at hP
  obtain ⟨locs, hlocs⟩ : ∃ locs : List Loc, locs = [] := ⟨_, rfl⟩
  rw [← hlocs] at hS
  suffices hgo : W p l e r5_bestRule s m args below meth c H locs 0 0 Q (F0 m 0 ls []) by rw [← hH, ← hlocs]; exact hgo
  clear hH hlocs
  obtain ⟨z0, z1, -⟩ := id hI
  refine x_al hC hl 0 dX5_bestRule_0 rfl rfl ?_
  refine x_ic hC dX5_bestRule_1 ?_
  refine x_put5_0 hC hP hD hS 0 rfl tb_619 dX5_bestRule_2 (fun H locs hP hD hS => ?_)
  have hP : va_P D vwCl (wM h cs (u1 mF 0 0) mS mA mV mT mB) H := hP
  have hD : va_D A (wM h cs (u1 mF 0 0) mS mA mV mT mB) := hD
  refine x_il hC hl 1 dX5_bestRule_5 rfl rfl ?_
  refine x_ic hC dX5_bestRule_6 ?_
  refine x_ic hC dX5_bestRule_7 ?_
  refine x_sI (As := [.int (iI what), .int (iI 0), .int (iI 1)]) hC (k5_in l D cs what 0 1 (by first | assumption | omega) (by first | assumption | omega) (by first | assumption | omega)) lk5_30 (sub_none hP hD hS hA) hP hS rfl hl.1 rfl (Nat.le_of_ble_eq_true rfl) ⟨rfl, rfl⟩ ⟨Nat.le_of_ble_eq_true rfl, Nat.le_of_ble_eq_true rfl⟩ ⟨Nat.le_of_ble_eq_true rfl, Nat.le_of_ble_eq_true rfl⟩ dX5_bestRule_8 (fun H locs hP hD hS hHs => ?_)
  refine x_if_ne_b hC 17 dX5_bestRule_11 (by decide) (fun c_11 => ?_) (fun c_11 => ?_)
  · refine x_ldc hC (-1000004) tb_836 (by decide) dX5_bestRule_17 ?_
    refine x_is hC [(2, .int (iI (-1000004))), (0, .ref (h 0)), (1, .int (iI what))] hl dX5_bestRule_19 rfl (by decide) rfl (fun ls hl => ?_)
    refine x_ic hC dX5_bestRule_20 ?_
    refine x_is hC [(3, .int (iI 0)), (2, .int (iI (-1000004))), (0, .ref (h 0)), (1, .int (iI what))] hl dX5_bestRule_21 rfl (by decide) rfl (fun ls hl => ?_)
    refine x_ic hC dX5_bestRule_22 ?_
    refine x_isw hC [(4, .int (iI 0)), (3, .int (iI 0)), (2, .int (iI (-1000004))), (0, .ref (h 0)), (1, .int (iI what))] hl dX5_bestRule_23 (by decide) rfl (fun ls hl => ?_)
    have loop_25 : ∀ (n : Nat) (i : Int), (hi0 : 0 ≤ i) → (hiN : i ≤ 4) → (4 - i) < (n : Int) → ∀ (H : Heap) (locs : List Loc) (ls : Array Slot), va_P D vwCl (wM h cs ((zB mS (u1 mF 0 0) mA mB i).1) mS ((zB mS (u1 mF 0 0) mA mB i).2.1) mV mT ((zB mS (u1 mF 0 0) mA mB i).2.2)) H → va_D A (wM h cs ((zB mS (u1 mF 0 0) mA mB i).1) mS ((zB mS (u1 mF 0 0) mA mB i).2.1) mV mT ((zB mS (u1 mF 0 0) mA mB i).2.2)) → va_S A s.heap H locs → lv_has ls 6 [(4, .int (iI i)), (3, .int (iI ((mBest mS i).2))), (2, .int (iI ((mBest mS i).1))), (0, .ref (h 0)), (1, .int (iI what))] → W p l e r5_bestRule s m args below meth c H locs 0 0 Q (F0 m 25 ls []) := by
      intro n
      induction n with
      | zero =>
        intro i hi0 hiN hnn
        exfalso; omega
      | succ n ih_25 =>
        intro i hi0 hiN hnn H locs ls hP hD hS hl
        have hx := mBest_rg hI hi0
        have qp := mPr_rg hI i
        refine x_ilw hC hl 0 dX5_bestRule_25 rfl ?_
        refine x_ic hC dX5_bestRule_27 ?_
        refine x_ic_ge hC 70 dX5_bestRule_28 (by decide) (by omega) (by omega) (fun c_28 => ?_) (fun c_28 => ?_)
        · obtain rfl : i = 4 := by omega
          have hx4 := mBest_rg hI (n := 4) (by omega)
          refine x_il hC hl 2 dX5_bestRule_70 rfl rfl ?_
          refine x_ldc hC (-1000004) tb_836 (by decide) dX5_bestRule_71 ?_
          refine x_ic_eq hC 80 dX5_bestRule_73 (by decide) (by omega) (by omega) (fun c_73 => ?_) (fun c_73 => ?_)
          · refine x_il hC hl 2 dX5_bestRule_80 rfl rfl ?_
            refine x_goto hC 85 dX5_bestRule_81 (by decide) ?_
            have ew : (wM h cs ((zB mS (u1 mF 0 0) mA mB 4).1) mS ((zB mS (u1 mF 0 0) mA mB 4).2.1) mV mT ((zB mS (u1 mF 0 0) mA mB 4).2.2)) = (wM h cs (iif (0 ≤ what ∧ what ≤ 1) (zB mS (u1 mF 0 0) mA mB 4).1 (u1 mF 0 0)) mS (iif (0 ≤ what ∧ what ≤ 1) (zB mS (u1 mF 0 0) mA mB 4).2.1 mA) mV mT (iif (0 ≤ what ∧ what ≤ 1) (zB mS (u1 mF 0 0) mA mB 4).2.2 mB)) := (wMc (by first | exact (iif_t c_11).symm | exact (iif_f c_11).symm : (zB mS (u1 mF 0 0) mA mB 4).1 = iif (0 ≤ what ∧ what ≤ 1) (zB mS (u1 mF 0 0) mA mB 4).1 (u1 mF 0 0)) rfl (by first | exact (iif_t c_11).symm | exact (iif_f c_11).symm : (zB mS (u1 mF 0 0) mA mB 4).2.1 = iif (0 ≤ what ∧ what ≤ 1) (zB mS (u1 mF 0 0) mA mB 4).2.1 mA) rfl rfl (by first | exact (iif_t c_11).symm | exact (iif_f c_11).symm : (zB mS (u1 mF 0 0) mA mB 4).2.2 = iif (0 ≤ what ∧ what ≤ 1) (zB mS (u1 mF 0 0) mA mB 4).2.2 mB))
            have hP := vPe hP ew
            have hD := vDe hD ew
            exact x_retI (congrArg iI (by rw [iif_t c_11]; first | exact (iif_t (Or.inl c_73)).symm | exact (iif_t (Or.inr c_77)).symm | exact (iif_f (by omega)).symm : (mBest mS 4).1 = iif (0 ≤ what ∧ what ≤ 1) (iif ((mBest mS 4).1 = -1000004 ∨ what = 0) (mBest mS 4).1 (mBest mS 4).2) (-1000001))) hend hP hD hS dX5_bestRule_85
          · refine x_il hC hl 4 dX5_bestRule_76 rfl rfl ?_
            refine x_if_ne hC 84 dX5_bestRule_77 (by decide) (by omega) (fun c_77 => ?_) (fun c_77 => ?_)
            · refine x_il hC hl 1 dX5_bestRule_84 rfl rfl ?_
              have ew_2 : (wM h cs ((zB mS (u1 mF 0 0) mA mB 4).1) mS ((zB mS (u1 mF 0 0) mA mB 4).2.1) mV mT ((zB mS (u1 mF 0 0) mA mB 4).2.2)) = (wM h cs (iif (0 ≤ what ∧ what ≤ 1) (zB mS (u1 mF 0 0) mA mB 4).1 (u1 mF 0 0)) mS (iif (0 ≤ what ∧ what ≤ 1) (zB mS (u1 mF 0 0) mA mB 4).2.1 mA) mV mT (iif (0 ≤ what ∧ what ≤ 1) (zB mS (u1 mF 0 0) mA mB 4).2.2 mB)) := (wMc (by first | exact (iif_t c_11).symm | exact (iif_f c_11).symm : (zB mS (u1 mF 0 0) mA mB 4).1 = iif (0 ≤ what ∧ what ≤ 1) (zB mS (u1 mF 0 0) mA mB 4).1 (u1 mF 0 0)) rfl (by first | exact (iif_t c_11).symm | exact (iif_f c_11).symm : (zB mS (u1 mF 0 0) mA mB 4).2.1 = iif (0 ≤ what ∧ what ≤ 1) (zB mS (u1 mF 0 0) mA mB 4).2.1 mA) rfl rfl (by first | exact (iif_t c_11).symm | exact (iif_f c_11).symm : (zB mS (u1 mF 0 0) mA mB 4).2.2 = iif (0 ≤ what ∧ what ≤ 1) (zB mS (u1 mF 0 0) mA mB 4).2.2 mB))
              have hP := vPe hP ew_2
              have hD := vDe hD ew_2
              exact x_retI (congrArg iI (by rw [iif_t c_11]; first | exact (iif_t (Or.inl c_73)).symm | exact (iif_t (Or.inr c_77)).symm | exact (iif_f (by omega)).symm : (mBest mS 4).2 = iif (0 ≤ what ∧ what ≤ 1) (iif ((mBest mS 4).1 = -1000004 ∨ what = 0) (mBest mS 4).1 (mBest mS 4).2) (-1000001))) hend hP hD hS dX5_bestRule_85
            · refine x_il hC hl 2 dX5_bestRule_80 rfl rfl ?_
              refine x_goto hC 85 dX5_bestRule_81 (by decide) ?_
              have ew_3 : (wM h cs ((zB mS (u1 mF 0 0) mA mB 4).1) mS ((zB mS (u1 mF 0 0) mA mB 4).2.1) mV mT ((zB mS (u1 mF 0 0) mA mB 4).2.2)) = (wM h cs (iif (0 ≤ what ∧ what ≤ 1) (zB mS (u1 mF 0 0) mA mB 4).1 (u1 mF 0 0)) mS (iif (0 ≤ what ∧ what ≤ 1) (zB mS (u1 mF 0 0) mA mB 4).2.1 mA) mV mT (iif (0 ≤ what ∧ what ≤ 1) (zB mS (u1 mF 0 0) mA mB 4).2.2 mB)) := (wMc (by first | exact (iif_t c_11).symm | exact (iif_f c_11).symm : (zB mS (u1 mF 0 0) mA mB 4).1 = iif (0 ≤ what ∧ what ≤ 1) (zB mS (u1 mF 0 0) mA mB 4).1 (u1 mF 0 0)) rfl (by first | exact (iif_t c_11).symm | exact (iif_f c_11).symm : (zB mS (u1 mF 0 0) mA mB 4).2.1 = iif (0 ≤ what ∧ what ≤ 1) (zB mS (u1 mF 0 0) mA mB 4).2.1 mA) rfl rfl (by first | exact (iif_t c_11).symm | exact (iif_f c_11).symm : (zB mS (u1 mF 0 0) mA mB 4).2.2 = iif (0 ≤ what ∧ what ≤ 1) (zB mS (u1 mF 0 0) mA mB 4).2.2 mB))
              have hP := vPe hP ew_3
              have hD := vDe hD ew_3
              exact x_retI (congrArg iI (by rw [iif_t c_11]; first | exact (iif_t (Or.inl c_73)).symm | exact (iif_t (Or.inr c_77)).symm | exact (iif_f (by omega)).symm : (mBest mS 4).1 = iif (0 ≤ what ∧ what ≤ 1) (iif ((mBest mS 4).1 = -1000004 ∨ what = 0) (mBest mS 4).1 (mBest mS 4).2) (-1000001))) hend hP hD hS dX5_bestRule_85
        · refine x_al hC hl 3 dX5_bestRule_31 rfl rfl ?_
          refine x_ilw hC hl 0 dX5_bestRule_32 rfl ?_
          refine x_vI (As := [.int (iI i)]) hC (k5_priceBy l D cs h ((zB mS (u1 mF 0 0) mA mB i).1) mS ((zB mS (u1 mF 0 0) mA mB i).2.1) mV mT ((zB mS (u1 mF 0 0) mA mB i).2.2) i (by first | assumption | omega) (by first | assumption | omega)) lk5_134 (q0 := 0) (ci := 5) rfl rfl rfl (sub_all hP hD hS hA) hP hS rfl hl.1 rfl (Nat.le_of_ble_eq_true rfl) ⟨rfl, rfl⟩ ⟨Nat.le_of_ble_eq_true rfl, Nat.le_of_ble_eq_true rfl⟩ ⟨Nat.le_of_ble_eq_true rfl, Nat.le_of_ble_eq_true rfl⟩ dX5_bestRule_34 (fun H locs hP hD hS hHs => ?_)
          have hP : va_P D vwCl (wM h cs (mAnF mS ((zB mS (u1 mF 0 0) mA mB i).2.1) ((zB mS (u1 mF 0 0) mA mB i).1) ((zB mS (u1 mF 0 0) mA mB i).2.2) i) mS (mCopy mS ((zB mS (u1 mF 0 0) mA mB i).2.1)) mV mT ((mAn mS ((zB mS (u1 mF 0 0) mA mB i).2.1) ((zB mS (u1 mF 0 0) mA mB i).1) ((zB mS (u1 mF 0 0) mA mB i).2.2) i).2.2.2)) H := hP
          have hD : va_D A (wM h cs (mAnF mS ((zB mS (u1 mF 0 0) mA mB i).2.1) ((zB mS (u1 mF 0 0) mA mB i).1) ((zB mS (u1 mF 0 0) mA mB i).2.2) i) mS (mCopy mS ((zB mS (u1 mF 0 0) mA mB i).2.1)) mV mT ((mAn mS ((zB mS (u1 mF 0 0) mA mB i).2.1) ((zB mS (u1 mF 0 0) mA mB i).1) ((zB mS (u1 mF 0 0) mA mB i).2.2) i).2.2.2)) := hD
          refine x_top (iI (mPr mS i)) (congrArg iI (by exact mPrice_c hI _ _ _ _ : mPrice mS ((zB mS (u1 mF 0 0) mA mB i).2.1) ((zB mS (u1 mF 0 0) mA mB i).1) ((zB mS (u1 mF 0 0) mA mB i).2.2) i = mPr mS i)) ?_
          refine x_isw hC [(5, .int (iI (mPr mS i))), (4, .int (iI i)), (3, .int (iI ((mBest mS i).2))), (2, .int (iI ((mBest mS i).1))), (0, .ref (h 0)), (1, .int (iI what))] hl dX5_bestRule_37 (by decide) rfl (fun ls hl => ?_)
          refine x_ilw hC hl 0 dX5_bestRule_39 rfl ?_
          refine x_ldc hC (-1000002) tb_720 (by decide) dX5_bestRule_41 ?_
          refine x_ic_eq hC 64 dX5_bestRule_43 (by decide) (by omega) (by omega) (fun c_43 => ?_) (fun c_43 => ?_)
          · refine x_iinc hC [(4, .int (iI (i + 1))), (5, .int (iI (mPr mS i))), (3, .int (iI ((mBest mS i).2))), (2, .int (iI ((mBest mS i).1))), (0, .ref (h 0)), (1, .int (iI what))] 1 hl dX5_bestRule_64 rfl (by decide) rfl (fun ls hl => ?_)
            refine x_goto hC 25 dX5_bestRule_67 (by decide) ?_
            have ew_4 : (wM h cs (mAnF mS ((zB mS (u1 mF 0 0) mA mB i).2.1) ((zB mS (u1 mF 0 0) mA mB i).1) ((zB mS (u1 mF 0 0) mA mB i).2.2) i) mS (mCopy mS ((zB mS (u1 mF 0 0) mA mB i).2.1)) mV mT ((mAn mS ((zB mS (u1 mF 0 0) mA mB i).2.1) ((zB mS (u1 mF 0 0) mA mB i).1) ((zB mS (u1 mF 0 0) mA mB i).2.2) i).2.2.2)) = (wM h cs ((zB mS (u1 mF 0 0) mA mB (i + 1)).1) mS ((zB mS (u1 mF 0 0) mA mB (i + 1)).2.1) mV mT ((zB mS (u1 mF 0 0) mA mB (i + 1)).2.2)) := (wMc (by rw [zB_s _ _ _ _ hi0] : mAnF mS ((zB mS (u1 mF 0 0) mA mB i).2.1) ((zB mS (u1 mF 0 0) mA mB i).1) ((zB mS (u1 mF 0 0) mA mB i).2.2) i = (zB mS (u1 mF 0 0) mA mB (i + 1)).1) rfl (by rw [zB_s _ _ _ _ hi0] : mCopy mS ((zB mS (u1 mF 0 0) mA mB i).2.1) = (zB mS (u1 mF 0 0) mA mB (i + 1)).2.1) rfl rfl (by rw [zB_s _ _ _ _ hi0] : (mAn mS ((zB mS (u1 mF 0 0) mA mB i).2.1) ((zB mS (u1 mF 0 0) mA mB i).1) ((zB mS (u1 mF 0 0) mA mB i).2.2) i).2.2.2 = (zB mS (u1 mF 0 0) mA mB (i + 1)).2.2))
            have hP := vPe hP ew_4
            have hD := vDe hD ew_4
            have hl : lv_has ls 6 [(4, .int (iI (i + 1))), (3, .int (iI ((mBest mS (i + 1)).2))), (2, .int (iI ((mBest mS (i + 1)).1))), (0, .ref (h 0)), (1, .int (iI what))] := lvE (lv_sub (l' := [(4, .int (iI (i + 1))), (3, .int (iI ((mBest mS i).2))), (2, .int (iI ((mBest mS i).1))), (0, .ref (h 0)), (1, .int (iI what))]) hl [0, 2, 3, 4, 5] rfl) (lcE rfl (lcE (congrArg (fun z => Value.int (iI z)) (by rw [mBest_s _ hi0]; unfold mBestS iif; grind : (mBest mS i).2 = (mBest mS (i + 1)).2)) (lcE (congrArg (fun z => Value.int (iI z)) (by rw [mBest_s _ hi0]; unfold mBestS iif; grind : (mBest mS i).1 = (mBest mS (i + 1)).1)) (lcE rfl (lcE rfl (rfl))))))
            exact ih_25 (i + 1) (by omega) (by omega) (by omega) H locs ls hP hD hS hl
          · refine x_il hC hl 3 dX5_bestRule_46 rfl rfl ?_
            refine x_ldc hC (-1000004) tb_836 (by decide) dX5_bestRule_47 ?_
            refine x_ic_eq hC 58 dX5_bestRule_49 (by decide) (by omega) (by omega) (fun c_49 => ?_) (fun c_49 => ?_)
            · refine x_ilw hC hl 1 dX5_bestRule_58 rfl ?_
              refine x_is hC [(2, .int (iI i)), (5, .int (iI (mPr mS i))), (4, .int (iI i)), (3, .int (iI ((mBest mS i).2))), (0, .ref (h 0)), (1, .int (iI what))] hl dX5_bestRule_60 rfl (by decide) rfl (fun ls hl => ?_)
              refine x_ilw hC hl 1 dX5_bestRule_61 rfl ?_
              refine x_is hC [(3, .int (iI (mPr mS i))), (2, .int (iI i)), (5, .int (iI (mPr mS i))), (4, .int (iI i)), (0, .ref (h 0)), (1, .int (iI what))] hl dX5_bestRule_63 rfl (by decide) rfl (fun ls hl => ?_)
              refine x_iinc hC [(4, .int (iI (i + 1))), (3, .int (iI (mPr mS i))), (2, .int (iI i)), (5, .int (iI (mPr mS i))), (0, .ref (h 0)), (1, .int (iI what))] 3 hl dX5_bestRule_64 rfl (by decide) rfl (fun ls hl => ?_)
              refine x_goto hC 25 dX5_bestRule_67 (by decide) ?_
              have ew_5 : (wM h cs (mAnF mS ((zB mS (u1 mF 0 0) mA mB i).2.1) ((zB mS (u1 mF 0 0) mA mB i).1) ((zB mS (u1 mF 0 0) mA mB i).2.2) i) mS (mCopy mS ((zB mS (u1 mF 0 0) mA mB i).2.1)) mV mT ((mAn mS ((zB mS (u1 mF 0 0) mA mB i).2.1) ((zB mS (u1 mF 0 0) mA mB i).1) ((zB mS (u1 mF 0 0) mA mB i).2.2) i).2.2.2)) = (wM h cs ((zB mS (u1 mF 0 0) mA mB (i + 1)).1) mS ((zB mS (u1 mF 0 0) mA mB (i + 1)).2.1) mV mT ((zB mS (u1 mF 0 0) mA mB (i + 1)).2.2)) := (wMc (by rw [zB_s _ _ _ _ hi0] : mAnF mS ((zB mS (u1 mF 0 0) mA mB i).2.1) ((zB mS (u1 mF 0 0) mA mB i).1) ((zB mS (u1 mF 0 0) mA mB i).2.2) i = (zB mS (u1 mF 0 0) mA mB (i + 1)).1) rfl (by rw [zB_s _ _ _ _ hi0] : mCopy mS ((zB mS (u1 mF 0 0) mA mB i).2.1) = (zB mS (u1 mF 0 0) mA mB (i + 1)).2.1) rfl rfl (by rw [zB_s _ _ _ _ hi0] : (mAn mS ((zB mS (u1 mF 0 0) mA mB i).2.1) ((zB mS (u1 mF 0 0) mA mB i).1) ((zB mS (u1 mF 0 0) mA mB i).2.2) i).2.2.2 = (zB mS (u1 mF 0 0) mA mB (i + 1)).2.2))
              have hP := vPe hP ew_5
              have hD := vDe hD ew_5
              have hl : lv_has ls 6 [(4, .int (iI (i + 1))), (3, .int (iI ((mBest mS (i + 1)).2))), (2, .int (iI ((mBest mS (i + 1)).1))), (0, .ref (h 0)), (1, .int (iI what))] := lvE (lv_sub (l' := [(4, .int (iI (i + 1))), (3, .int (iI (mPr mS i))), (2, .int (iI i)), (0, .ref (h 0)), (1, .int (iI what))]) hl [0, 1, 2, 4, 5] rfl) (lcE rfl (lcE (congrArg (fun z => Value.int (iI z)) (by rw [mBest_s _ hi0]; unfold mBestS iif; grind : mPr mS i = (mBest mS (i + 1)).2)) (lcE (congrArg (fun z => Value.int (iI z)) (by rw [mBest_s _ hi0]; unfold mBestS iif; grind : i = (mBest mS (i + 1)).1)) (lcE rfl (lcE rfl (rfl))))))
              exact ih_25 (i + 1) (by omega) (by omega) (by omega) H locs ls hP hD hS hl
            · refine x_ilw hC hl 0 dX5_bestRule_52 rfl ?_
              refine x_il hC hl 2 dX5_bestRule_54 rfl rfl ?_
              refine x_ic_ge hC 64 dX5_bestRule_55 (by decide) (by omega) (by omega) (fun c_55 => ?_) (fun c_55 => ?_)
              · refine x_iinc hC [(4, .int (iI (i + 1))), (5, .int (iI (mPr mS i))), (3, .int (iI ((mBest mS i).2))), (2, .int (iI ((mBest mS i).1))), (0, .ref (h 0)), (1, .int (iI what))] 1 hl dX5_bestRule_64 rfl (by decide) rfl (fun ls hl => ?_)
                refine x_goto hC 25 dX5_bestRule_67 (by decide) ?_
                have ew_6 : (wM h cs (mAnF mS ((zB mS (u1 mF 0 0) mA mB i).2.1) ((zB mS (u1 mF 0 0) mA mB i).1) ((zB mS (u1 mF 0 0) mA mB i).2.2) i) mS (mCopy mS ((zB mS (u1 mF 0 0) mA mB i).2.1)) mV mT ((mAn mS ((zB mS (u1 mF 0 0) mA mB i).2.1) ((zB mS (u1 mF 0 0) mA mB i).1) ((zB mS (u1 mF 0 0) mA mB i).2.2) i).2.2.2)) = (wM h cs ((zB mS (u1 mF 0 0) mA mB (i + 1)).1) mS ((zB mS (u1 mF 0 0) mA mB (i + 1)).2.1) mV mT ((zB mS (u1 mF 0 0) mA mB (i + 1)).2.2)) := (wMc (by rw [zB_s _ _ _ _ hi0] : mAnF mS ((zB mS (u1 mF 0 0) mA mB i).2.1) ((zB mS (u1 mF 0 0) mA mB i).1) ((zB mS (u1 mF 0 0) mA mB i).2.2) i = (zB mS (u1 mF 0 0) mA mB (i + 1)).1) rfl (by rw [zB_s _ _ _ _ hi0] : mCopy mS ((zB mS (u1 mF 0 0) mA mB i).2.1) = (zB mS (u1 mF 0 0) mA mB (i + 1)).2.1) rfl rfl (by rw [zB_s _ _ _ _ hi0] : (mAn mS ((zB mS (u1 mF 0 0) mA mB i).2.1) ((zB mS (u1 mF 0 0) mA mB i).1) ((zB mS (u1 mF 0 0) mA mB i).2.2) i).2.2.2 = (zB mS (u1 mF 0 0) mA mB (i + 1)).2.2))
                have hP := vPe hP ew_6
                have hD := vDe hD ew_6
                have hl : lv_has ls 6 [(4, .int (iI (i + 1))), (3, .int (iI ((mBest mS (i + 1)).2))), (2, .int (iI ((mBest mS (i + 1)).1))), (0, .ref (h 0)), (1, .int (iI what))] := lvE (lv_sub (l' := [(4, .int (iI (i + 1))), (3, .int (iI ((mBest mS i).2))), (2, .int (iI ((mBest mS i).1))), (0, .ref (h 0)), (1, .int (iI what))]) hl [0, 2, 3, 4, 5] rfl) (lcE rfl (lcE (congrArg (fun z => Value.int (iI z)) (by rw [mBest_s _ hi0]; unfold mBestS iif; grind : (mBest mS i).2 = (mBest mS (i + 1)).2)) (lcE (congrArg (fun z => Value.int (iI z)) (by rw [mBest_s _ hi0]; unfold mBestS iif; grind : (mBest mS i).1 = (mBest mS (i + 1)).1)) (lcE rfl (lcE rfl (rfl))))))
                exact ih_25 (i + 1) (by omega) (by omega) (by omega) H locs ls hP hD hS hl
              · refine x_ilw hC hl 1 dX5_bestRule_58 rfl ?_
                refine x_is hC [(2, .int (iI i)), (5, .int (iI (mPr mS i))), (4, .int (iI i)), (3, .int (iI ((mBest mS i).2))), (0, .ref (h 0)), (1, .int (iI what))] hl dX5_bestRule_60 rfl (by decide) rfl (fun ls hl => ?_)
                refine x_ilw hC hl 1 dX5_bestRule_61 rfl ?_
                refine x_is hC [(3, .int (iI (mPr mS i))), (2, .int (iI i)), (5, .int (iI (mPr mS i))), (4, .int (iI i)), (0, .ref (h 0)), (1, .int (iI what))] hl dX5_bestRule_63 rfl (by decide) rfl (fun ls hl => ?_)
                refine x_iinc hC [(4, .int (iI (i + 1))), (3, .int (iI (mPr mS i))), (2, .int (iI i)), (5, .int (iI (mPr mS i))), (0, .ref (h 0)), (1, .int (iI what))] 3 hl dX5_bestRule_64 rfl (by decide) rfl (fun ls hl => ?_)
                refine x_goto hC 25 dX5_bestRule_67 (by decide) ?_
                have ew_7 : (wM h cs (mAnF mS ((zB mS (u1 mF 0 0) mA mB i).2.1) ((zB mS (u1 mF 0 0) mA mB i).1) ((zB mS (u1 mF 0 0) mA mB i).2.2) i) mS (mCopy mS ((zB mS (u1 mF 0 0) mA mB i).2.1)) mV mT ((mAn mS ((zB mS (u1 mF 0 0) mA mB i).2.1) ((zB mS (u1 mF 0 0) mA mB i).1) ((zB mS (u1 mF 0 0) mA mB i).2.2) i).2.2.2)) = (wM h cs ((zB mS (u1 mF 0 0) mA mB (i + 1)).1) mS ((zB mS (u1 mF 0 0) mA mB (i + 1)).2.1) mV mT ((zB mS (u1 mF 0 0) mA mB (i + 1)).2.2)) := (wMc (by rw [zB_s _ _ _ _ hi0] : mAnF mS ((zB mS (u1 mF 0 0) mA mB i).2.1) ((zB mS (u1 mF 0 0) mA mB i).1) ((zB mS (u1 mF 0 0) mA mB i).2.2) i = (zB mS (u1 mF 0 0) mA mB (i + 1)).1) rfl (by rw [zB_s _ _ _ _ hi0] : mCopy mS ((zB mS (u1 mF 0 0) mA mB i).2.1) = (zB mS (u1 mF 0 0) mA mB (i + 1)).2.1) rfl rfl (by rw [zB_s _ _ _ _ hi0] : (mAn mS ((zB mS (u1 mF 0 0) mA mB i).2.1) ((zB mS (u1 mF 0 0) mA mB i).1) ((zB mS (u1 mF 0 0) mA mB i).2.2) i).2.2.2 = (zB mS (u1 mF 0 0) mA mB (i + 1)).2.2))
                have hP := vPe hP ew_7
                have hD := vDe hD ew_7
                have hl : lv_has ls 6 [(4, .int (iI (i + 1))), (3, .int (iI ((mBest mS (i + 1)).2))), (2, .int (iI ((mBest mS (i + 1)).1))), (0, .ref (h 0)), (1, .int (iI what))] := lvE (lv_sub (l' := [(4, .int (iI (i + 1))), (3, .int (iI (mPr mS i))), (2, .int (iI i)), (0, .ref (h 0)), (1, .int (iI what))]) hl [0, 1, 2, 4, 5] rfl) (lcE rfl (lcE (congrArg (fun z => Value.int (iI z)) (by rw [mBest_s _ hi0]; unfold mBestS iif; grind : mPr mS i = (mBest mS (i + 1)).2)) (lcE (congrArg (fun z => Value.int (iI z)) (by rw [mBest_s _ hi0]; unfold mBestS iif; grind : i = (mBest mS (i + 1)).1)) (lcE rfl (lcE rfl (rfl))))))
                exact ih_25 (i + 1) (by omega) (by omega) (by omega) H locs ls hP hD hS hl
    have hl := lv_sub (l' := [(4, .int (iI 0)), (3, .int (iI ((mBest mS 0).2))), (2, .int (iI ((mBest mS 0).1))), (0, .ref (h 0)), (1, .int (iI what))]) hl [0, 1, 2, 3, 4] rfl
    exact loop_25 (Int.toNat (4 - 0) + 1) 0 (by omega) (by omega) (by omega) H locs ls hP hD hS hl
  · refine x_ldc hC (-1000001) tb_683 (by decide) dX5_bestRule_14 ?_
    have ew_8 : (wM h cs (u1 mF 0 0) mS mA mV mT mB) = (wM h cs (iif (0 ≤ what ∧ what ≤ 1) (zB mS (u1 mF 0 0) mA mB 4).1 (u1 mF 0 0)) mS (iif (0 ≤ what ∧ what ≤ 1) (zB mS (u1 mF 0 0) mA mB 4).2.1 mA) mV mT (iif (0 ≤ what ∧ what ≤ 1) (zB mS (u1 mF 0 0) mA mB 4).2.2 mB)) := (wMc (by first | exact (iif_t c_11).symm | exact (iif_f c_11).symm : u1 mF 0 0 = iif (0 ≤ what ∧ what ≤ 1) (zB mS (u1 mF 0 0) mA mB 4).1 (u1 mF 0 0)) rfl (by first | exact (iif_t c_11).symm | exact (iif_f c_11).symm : mA = iif (0 ≤ what ∧ what ≤ 1) (zB mS (u1 mF 0 0) mA mB 4).2.1 mA) rfl rfl (by first | exact (iif_t c_11).symm | exact (iif_f c_11).symm : mB = iif (0 ≤ what ∧ what ≤ 1) (zB mS (u1 mF 0 0) mA mB 4).2.2 mB))
    have hP := vPe hP ew_8
    have hD := vDe hD ew_8
    exact x_retI (congrArg iI (by exact (iif_f c_11).symm : (-1000001) = iif (0 ≤ what ∧ what ≤ 1) (iif ((mBest mS 4).1 = -1000004 ∨ what = 0) (mBest mS 4).1 (mBest mS 4).2) (-1000001))) hend hP hD hS dX5_bestRule_16
abbrev r5_emptied : Room := { frames := 5, cells := 0, slots := 0, locals := 117 }
set_option maxHeartbeats 4000000 in
set_option maxRecDepth 100000 in
theorem k5_emptied (l : Launch) (D : va_G) (cs : Nat → ClassId) (h : Nat → Nat) (mF : Int → Int) (mS : Int → Int) (mA : Int → Int) (mV : Int → Int) (mT : Int → Int) (mB : Int → Int) (what : Int) (hI : IM mS) (g_what : -2147483648 ≤ what ∧ what ≤ 2147483647) : CI l D cs yX5_emptied cX5_emptied 5 .int r5_emptied 0 0 [.ref (h 0), .int (iI what)] (wM h cs mF mS mA mV mT mB) (wM h cs (u1 mF 0 0) mS (iif (0 ≤ what ∧ what ≤ 1) (zE mS mA 8) mA) mV mT mB) (iI (iif (0 ≤ what ∧ what ≤ 1) (iif (mEm mS 8 = -1000004 ∨ what = 0) (mEm mS 8) (popI (mskI (fun t => mS (29 + 4 * t + 3) = mEm mS 8) (mS 1)) 20)) (-1000001))) := by
  refine CI_start (own := RX5) (by decide) rfl rfl (Nat.le_of_ble_eq_true rfl) ?_
  intro p e s m args below meth c Q A ls hC hl hP hD hA hS hend
  have hl : lv_has ls 5 [(0, .ref (h 0)), (1, .int (iI what))] := hl
  obtain ⟨H, hH⟩ : ∃ H : Heap, H = s.heap := ⟨_, rfl⟩
  have hS : va_S A s.heap H [] := by rw [hH]; exact hS
  rw [← hH] at hP
  obtain ⟨locs, hlocs⟩ : ∃ locs : List Loc, locs = [] := ⟨_, rfl⟩
  rw [← hlocs] at hS
  suffices hgo : W p l e r5_emptied s m args below meth c H locs 0 0 Q (F0 m 0 ls []) by rw [← hH, ← hlocs]; exact hgo
  clear hH hlocs
  obtain ⟨z0, z1, -⟩ := id hI
  refine x_al hC hl 0 dX5_emptied_0 rfl rfl ?_
  refine x_ic hC dX5_emptied_1 ?_
  refine x_put5_0 hC hP hD hS 0 rfl tb_619 dX5_emptied_2 (fun H locs hP hD hS => ?_)
  have hP : va_P D vwCl (wM h cs (u1 mF 0 0) mS mA mV mT mB) H := hP
  have hD : va_D A (wM h cs (u1 mF 0 0) mS mA mV mT mB) := hD
  refine x_il hC hl 1 dX5_emptied_5 rfl rfl ?_
  refine x_ic hC dX5_emptied_6 ?_
  refine x_ic hC dX5_emptied_7 ?_
  refine x_sI (As := [.int (iI what), .int (iI 0), .int (iI 1)]) hC (k5_in l D cs what 0 1 (by first | assumption | omega) (by first | assumption | omega) (by first | assumption | omega)) lk5_30 (sub_none hP hD hS hA) hP hS rfl hl.1 rfl (Nat.le_of_ble_eq_true rfl) ⟨rfl, rfl⟩ ⟨Nat.le_of_ble_eq_true rfl, Nat.le_of_ble_eq_true rfl⟩ ⟨Nat.le_of_ble_eq_true rfl, Nat.le_of_ble_eq_true rfl⟩ dX5_emptied_8 (fun H locs hP hD hS hHs => ?_)
  refine x_if_ne_b hC 17 dX5_emptied_11 (by decide) (fun c_11 => ?_) (fun c_11 => ?_)
  · refine x_ldc hC (-1000004) tb_836 (by decide) dX5_emptied_17 ?_
    refine x_is hC [(2, .int (iI (-1000004))), (0, .ref (h 0)), (1, .int (iI what))] hl dX5_emptied_19 rfl (by decide) rfl (fun ls hl => ?_)
    refine x_ic hC dX5_emptied_20 ?_
    refine x_is hC [(3, .int (iI 0)), (2, .int (iI (-1000004))), (0, .ref (h 0)), (1, .int (iI what))] hl dX5_emptied_21 rfl (by decide) rfl (fun ls hl => ?_)
    have loop_22 : ∀ (n : Nat) (i : Int), (hi0 : 0 ≤ i) → (hiN : i ≤ 8) → (8 - i) < (n : Int) → ∀ (H : Heap) (locs : List Loc) (ls : Array Slot), va_P D vwCl (wM h cs (u1 mF 0 0) mS (zE mS mA i) mV mT mB) H → va_D A (wM h cs (u1 mF 0 0) mS (zE mS mA i) mV mT mB) → va_S A s.heap H locs → lv_has ls 5 [(3, .int (iI i)), (2, .int (iI (mEm mS i))), (0, .ref (h 0)), (1, .int (iI what))] → W p l e r5_emptied s m args below meth c H locs 0 0 Q (F0 m 22 ls []) := by
      intro n
      induction n with
      | zero =>
        intro i hi0 hiN hnn
        exfalso; omega
      | succ n ih_22 =>
        intro i hi0 hiN hnn H locs ls hP hD hS hl
        have hx := mEm_rg mS hi0
        refine x_il hC hl 0 dX5_emptied_22 rfl rfl ?_
        refine x_bi hC dX5_emptied_23 (by decide) ?_
        refine x_ic_ge hC 89 dX5_emptied_25 (by decide) (by omega) (by omega) (fun c_25 => ?_) (fun c_25 => ?_)
        · obtain rfl : i = 8 := by omega
          have hx8 := mEm_rg mS (n := 8) (by omega)
          refine x_il hC hl 1 dX5_emptied_89 rfl rfl ?_
          refine x_ldc hC (-1000004) tb_836 (by decide) dX5_emptied_90 ?_
          refine x_ic_eq hC 99 dX5_emptied_92 (by decide) (by omega) (by omega) (fun c_92 => ?_) (fun c_92 => ?_)
          · refine x_il hC hl 1 dX5_emptied_99 rfl rfl ?_
            refine x_goto hC 111 dX5_emptied_100 (by decide) ?_
            have ew : (wM h cs (u1 mF 0 0) mS (zE mS mA 8) mV mT mB) = (wM h cs (u1 mF 0 0) mS (iif (0 ≤ what ∧ what ≤ 1) (zE mS mA 8) mA) mV mT mB) := (wMc rfl rfl (by first | exact (iif_t c_11).symm | exact (iif_f c_11).symm : zE mS mA 8 = iif (0 ≤ what ∧ what ≤ 1) (zE mS mA 8) mA) rfl rfl rfl)
            have hP := vPe hP ew
            have hD := vDe hD ew
            exact x_retI (congrArg iI (by rw [iif_t c_11]; first | exact (iif_t (Or.inl c_92)).symm | exact (iif_t (Or.inr c_96)).symm | exact (iif_f (by omega)).symm : mEm mS 8 = iif (0 ≤ what ∧ what ≤ 1) (iif (mEm mS 8 = -1000004 ∨ what = 0) (mEm mS 8) (popI (mskI (fun t => mS (29 + 4 * t + 3) = mEm mS 8) (mS 1)) 20)) (-1000001))) hend hP hD hS dX5_emptied_111
          · refine x_il hC hl 3 dX5_emptied_95 rfl rfl ?_
            refine x_if_ne hC 103 dX5_emptied_96 (by decide) (by omega) (fun c_96 => ?_) (fun c_96 => ?_)
            · refine x_al hC hl 2 dX5_emptied_103 rfl rfl ?_
              refine x_il hC hl 1 dX5_emptied_104 rfl rfl ?_
              refine x_vI (As := [.int (iI (mEm mS 8))]) hC (k5_talksIn l D cs h (u1 mF 0 0) mS (zE mS mA 8) mV mT mB (mEm mS 8) (by first | assumption | omega) (by first | assumption | omega)) lk5_106 (q0 := 0) (ci := 5) rfl rfl rfl (sub_all hP hD hS hA) hP hS rfl hl.1 rfl (Nat.le_of_ble_eq_true rfl) ⟨rfl, rfl⟩ ⟨Nat.le_of_ble_eq_true rfl, Nat.le_of_ble_eq_true rfl⟩ ⟨Nat.le_of_ble_eq_true rfl, Nat.le_of_ble_eq_true rfl⟩ dX5_emptied_105 (fun H locs hP hD hS hHs => ?_)
              refine x_sI (As := [.int (mskI (fun t => mS (29 + 4 * t + 3) = (mEm mS 8)) (mS 1))]) hC (k5_ones l D cs (mskI (fun t => mS (29 + 4 * t + 3) = (mEm mS 8)) (mS 1)) ) lk5_146 (sub_none hP hD hS hA) hP hS rfl hl.1 rfl (Nat.le_of_ble_eq_true rfl) ⟨rfl, rfl⟩ ⟨Nat.le_of_ble_eq_true rfl, Nat.le_of_ble_eq_true rfl⟩ ⟨Nat.le_of_ble_eq_true rfl, Nat.le_of_ble_eq_true rfl⟩ dX5_emptied_108 (fun H locs hP hD hS hHs => ?_)
              have ew_2 : (wM h cs (u1 mF 0 0) mS (zE mS mA 8) mV mT mB) = (wM h cs (u1 mF 0 0) mS (iif (0 ≤ what ∧ what ≤ 1) (zE mS mA 8) mA) mV mT mB) := (wMc rfl rfl (by first | exact (iif_t c_11).symm | exact (iif_f c_11).symm : zE mS mA 8 = iif (0 ≤ what ∧ what ≤ 1) (zE mS mA 8) mA) rfl rfl rfl)
              have hP := vPe hP ew_2
              have hD := vDe hD ew_2
              exact x_retI (congrArg iI (by rw [iif_t c_11]; first | exact (iif_t (Or.inl c_92)).symm | exact (iif_t (Or.inr c_96)).symm | exact (iif_f (by omega)).symm : popI (mskI (fun t => mS (29 + 4 * t + 3) = (mEm mS 8)) (mS 1)) 20 = iif (0 ≤ what ∧ what ≤ 1) (iif (mEm mS 8 = -1000004 ∨ what = 0) (mEm mS 8) (popI (mskI (fun t => mS (29 + 4 * t + 3) = mEm mS 8) (mS 1)) 20)) (-1000001))) hend hP hD hS dX5_emptied_111
            · refine x_il hC hl 1 dX5_emptied_99 rfl rfl ?_
              refine x_goto hC 111 dX5_emptied_100 (by decide) ?_
              have ew_3 : (wM h cs (u1 mF 0 0) mS (zE mS mA 8) mV mT mB) = (wM h cs (u1 mF 0 0) mS (iif (0 ≤ what ∧ what ≤ 1) (zE mS mA 8) mA) mV mT mB) := (wMc rfl rfl (by first | exact (iif_t c_11).symm | exact (iif_f c_11).symm : zE mS mA 8 = iif (0 ≤ what ∧ what ≤ 1) (zE mS mA 8) mA) rfl rfl rfl)
              have hP := vPe hP ew_3
              have hD := vDe hD ew_3
              exact x_retI (congrArg iI (by rw [iif_t c_11]; first | exact (iif_t (Or.inl c_92)).symm | exact (iif_t (Or.inr c_96)).symm | exact (iif_f (by omega)).symm : mEm mS 8 = iif (0 ≤ what ∧ what ≤ 1) (iif (mEm mS 8 = -1000004 ∨ what = 0) (mEm mS 8) (popI (mskI (fun t => mS (29 + 4 * t + 3) = mEm mS 8) (mS 1)) 20)) (-1000001))) hend hP hD hS dX5_emptied_111
        · refine x_al hC hl 2 dX5_emptied_28 rfl rfl ?_
          refine x_il hC hl 0 dX5_emptied_29 rfl rfl ?_
          refine x_vI (As := [.int (iI i)]) hC (k5_talksIn l D cs h (u1 mF 0 0) mS (zE mS mA i) mV mT mB i (by first | assumption | omega) (by first | assumption | omega)) lk5_106 (q0 := 0) (ci := 5) rfl rfl rfl (sub_all hP hD hS hA) hP hS rfl hl.1 rfl (Nat.le_of_ble_eq_true rfl) ⟨rfl, rfl⟩ ⟨Nat.le_of_ble_eq_true rfl, Nat.le_of_ble_eq_true rfl⟩ ⟨Nat.le_of_ble_eq_true rfl, Nat.le_of_ble_eq_true rfl⟩ dX5_emptied_30 (fun H locs hP hD hS hHs => ?_)
          refine lv_if_eq (tgt := 48) hC.1 hC.2.1 dX5_emptied_33 (by decide) (fun c_33 => ?_) (fun c_33 => ?_)
          · refine x_ic hC dX5_emptied_48 ?_
            refine x_isw hC [(4, .int (iI 0)), (3, .int (iI i)), (2, .int (iI (mEm mS i))), (0, .ref (h 0)), (1, .int (iI what))] hl dX5_emptied_49 (by decide) rfl (fun ls hl => ?_)
            refine x_ilw hC hl 0 dX5_emptied_51 rfl ?_
            refine x_if_eq hC 81 dX5_emptied_53 (by decide) (by omega) (fun c_53 => ?_) (fun hz => absurd hz (by decide))
            refine x_il hC hl 2 dX5_emptied_81 rfl rfl ?_
            refine x_is hC [(2, .int (iI (mEm mS i))), (4, .int (iI 0)), (3, .int (iI i)), (0, .ref (h 0)), (1, .int (iI what))] hl dX5_emptied_82 rfl (by decide) rfl (fun ls hl => ?_)
            refine x_iinc hC [(3, .int (iI (i + 1))), (2, .int (iI (mEm mS i))), (4, .int (iI 0)), (0, .ref (h 0)), (1, .int (iI what))] 2 hl dX5_emptied_83 rfl (by decide) rfl (fun ls hl => ?_)
            refine x_goto hC 22 dX5_emptied_86 (by decide) ?_
            have ew_4 : (wM h cs (u1 mF 0 0) mS (zE mS mA i) mV mT mB) = (wM h cs (u1 mF 0 0) mS (zE mS mA (i + 1)) mV mT mB) := (wMc rfl rfl (by rw [zE_s _ _ hi0]; first | exact (iif_t (by assumption)).symm | exact (iif_f (by assumption)).symm : zE mS mA i = zE mS mA (i + 1)) rfl rfl rfl)
            have hP := vPe hP ew_4
            have hD := vDe hD ew_4
            have hl : lv_has ls 5 [(3, .int (iI (i + 1))), (2, .int (iI (mEm mS (i + 1)))), (0, .ref (h 0)), (1, .int (iI what))] := lvE (lv_sub (l' := [(3, .int (iI (i + 1))), (2, .int (iI (mEm mS i))), (0, .ref (h 0)), (1, .int (iI what))]) hl [0, 1, 3, 4] rfl) (lcE rfl (lcE (congrArg (fun z => Value.int (iI z)) (by rw [mEm_s _ hi0]; unfold mEmB; first | exact (iif_t (by first | omega | grind)).symm | exact (iif_f (by first | omega | grind)).symm : mEm mS i = mEm mS (i + 1))) (lcE rfl (lcE rfl (rfl)))))
            exact ih_22 (i + 1) (by omega) (by omega) (by omega) H locs ls hP hD hS hl
          · refine x_al hC hl 2 dX5_emptied_36 rfl rfl ?_
            refine x_il hC hl 0 dX5_emptied_37 rfl rfl ?_
            refine x_vI (As := [.int (iI i)]) hC (k5_empties l D cs h (u1 mF 0 0) mS (zE mS mA i) mV mT mB i (by first | assumption | omega) (by first | assumption | omega)) lk5_170 (q0 := 0) (ci := 5) rfl rfl rfl (sub_all hP hD hS hA) hP hS rfl hl.1 rfl (Nat.le_of_ble_eq_true rfl) ⟨rfl, rfl⟩ ⟨Nat.le_of_ble_eq_true rfl, Nat.le_of_ble_eq_true rfl⟩ ⟨Nat.le_of_ble_eq_true rfl, Nat.le_of_ble_eq_true rfl⟩ dX5_emptied_38 (fun H locs hP hD hS hHs => ?_)
            have hP : va_P D vwCl (wM h cs (u1 mF 0 0) mS (mCopy mS (zE mS mA i)) mV mT mB) H := hP
            have hD : va_D A (wM h cs (u1 mF 0 0) mS (mCopy mS (zE mS mA i)) mV mT mB) := hD
            refine x_if_eq_b hC 48 dX5_emptied_41 (by decide) (fun c_41 => ?_) (fun c_41 => ?_)
            · refine x_ic hC dX5_emptied_48 ?_
              refine x_isw hC [(4, .int (iI 0)), (3, .int (iI i)), (2, .int (iI (mEm mS i))), (0, .ref (h 0)), (1, .int (iI what))] hl dX5_emptied_49 (by decide) rfl (fun ls hl => ?_)
              refine x_ilw hC hl 0 dX5_emptied_51 rfl ?_
              refine x_if_eq hC 81 dX5_emptied_53 (by decide) (by omega) (fun c_53 => ?_) (fun hz => absurd hz (by decide))
              refine x_il hC hl 2 dX5_emptied_81 rfl rfl ?_
              refine x_is hC [(2, .int (iI (mEm mS i))), (4, .int (iI 0)), (3, .int (iI i)), (0, .ref (h 0)), (1, .int (iI what))] hl dX5_emptied_82 rfl (by decide) rfl (fun ls hl => ?_)
              refine x_iinc hC [(3, .int (iI (i + 1))), (2, .int (iI (mEm mS i))), (4, .int (iI 0)), (0, .ref (h 0)), (1, .int (iI what))] 2 hl dX5_emptied_83 rfl (by decide) rfl (fun ls hl => ?_)
              refine x_goto hC 22 dX5_emptied_86 (by decide) ?_
              have ew_5 : (wM h cs (u1 mF 0 0) mS (mCopy mS (zE mS mA i)) mV mT mB) = (wM h cs (u1 mF 0 0) mS (zE mS mA (i + 1)) mV mT mB) := (wMc rfl rfl (by rw [zE_s _ _ hi0]; first | exact (iif_t (by assumption)).symm | exact (iif_f (by assumption)).symm : mCopy mS (zE mS mA i) = zE mS mA (i + 1)) rfl rfl rfl)
              have hP := vPe hP ew_5
              have hD := vDe hD ew_5
              have hl : lv_has ls 5 [(3, .int (iI (i + 1))), (2, .int (iI (mEm mS (i + 1)))), (0, .ref (h 0)), (1, .int (iI what))] := lvE (lv_sub (l' := [(3, .int (iI (i + 1))), (2, .int (iI (mEm mS i))), (0, .ref (h 0)), (1, .int (iI what))]) hl [0, 1, 3, 4] rfl) (lcE rfl (lcE (congrArg (fun z => Value.int (iI z)) (by rw [mEm_s _ hi0]; unfold mEmB; first | exact (iif_t (by first | omega | grind)).symm | exact (iif_f (by first | omega | grind)).symm : mEm mS i = mEm mS (i + 1))) (lcE rfl (lcE rfl (rfl)))))
              exact ih_22 (i + 1) (by omega) (by omega) (by omega) H locs ls hP hD hS hl
            · refine x_ic hC dX5_emptied_44 ?_
              refine x_goto hC 49 dX5_emptied_45 (by decide) ?_
              refine x_isw hC [(4, .int (iI 1)), (3, .int (iI i)), (2, .int (iI (mEm mS i))), (0, .ref (h 0)), (1, .int (iI what))] hl dX5_emptied_49 (by decide) rfl (fun ls hl => ?_)
              refine x_ilw hC hl 0 dX5_emptied_51 rfl ?_
              refine x_if_eq hC 81 dX5_emptied_53 (by decide) (by omega) (fun hz => absurd hz (by decide)) (fun c_53 => ?_)
              refine x_il hC hl 2 dX5_emptied_56 rfl rfl ?_
              refine x_ldc hC (-1000004) tb_836 (by decide) dX5_emptied_57 ?_
              refine x_ic_eq hC 77 dX5_emptied_59 (by decide) (by omega) (by omega) (fun c_59 => ?_) (fun c_59 => ?_)
              · refine x_il hC hl 1 dX5_emptied_77 rfl rfl ?_
                refine x_goto hC 82 dX5_emptied_78 (by decide) ?_
                refine x_is hC [(2, .int (iI i)), (4, .int (iI 1)), (3, .int (iI i)), (0, .ref (h 0)), (1, .int (iI what))] hl dX5_emptied_82 rfl (by decide) rfl (fun ls hl => ?_)
                refine x_iinc hC [(3, .int (iI (i + 1))), (2, .int (iI i)), (4, .int (iI 1)), (0, .ref (h 0)), (1, .int (iI what))] 2 hl dX5_emptied_83 rfl (by decide) rfl (fun ls hl => ?_)
                refine x_goto hC 22 dX5_emptied_86 (by decide) ?_
                have ew_6 : (wM h cs (u1 mF 0 0) mS (mCopy mS (zE mS mA i)) mV mT mB) = (wM h cs (u1 mF 0 0) mS (zE mS mA (i + 1)) mV mT mB) := (wMc rfl rfl (by rw [zE_s _ _ hi0]; first | exact (iif_t (by assumption)).symm | exact (iif_f (by assumption)).symm : mCopy mS (zE mS mA i) = zE mS mA (i + 1)) rfl rfl rfl)
                have hP := vPe hP ew_6
                have hD := vDe hD ew_6
                have hl : lv_has ls 5 [(3, .int (iI (i + 1))), (2, .int (iI (mEm mS (i + 1)))), (0, .ref (h 0)), (1, .int (iI what))] := lvE (lv_sub (l' := [(3, .int (iI (i + 1))), (2, .int (iI i)), (0, .ref (h 0)), (1, .int (iI what))]) hl [0, 1, 3, 4] rfl) (lcE rfl (lcE (congrArg (fun z => Value.int (iI z)) (by rw [mEm_s _ hi0]; unfold mEmB; first | exact (iif_t (by first | omega | grind)).symm | exact (iif_f (by first | omega | grind)).symm : i = mEm mS (i + 1))) (lcE rfl (lcE rfl (rfl)))))
                exact ih_22 (i + 1) (by omega) (by omega) (by omega) H locs ls hP hD hS hl
              · refine x_al hC hl 3 dX5_emptied_62 rfl rfl ?_
                refine x_il hC hl 1 dX5_emptied_63 rfl rfl ?_
                refine x_ic hC dX5_emptied_64 ?_
                refine x_vI (As := [.int (iI i), .int (iI 1)]) hC (k5_room0 l D cs h (u1 mF 0 0) mS (mCopy mS (zE mS mA i)) mV mT mB i 1 (by first | assumption | omega) (by first | assumption | omega) (by first | assumption | omega)) lk5_38 (q0 := 0) (ci := 5) rfl rfl rfl (sub_all hP hD hS hA) hP hS rfl hl.1 rfl (Nat.le_of_ble_eq_true rfl) ⟨rfl, rfl⟩ ⟨Nat.le_of_ble_eq_true rfl, Nat.le_of_ble_eq_true rfl⟩ ⟨Nat.le_of_ble_eq_true rfl, Nat.le_of_ble_eq_true rfl⟩ dX5_emptied_65 (fun H locs hP hD hS hHs => ?_)
                have q_65 := imB (S := mS) (by assumption) (5 + 3 * i + 1) (by omega)
                refine x_al hC hl 3 dX5_emptied_68 rfl rfl ?_
                refine x_il hC hl 2 dX5_emptied_69 rfl rfl ?_
                refine x_ic hC dX5_emptied_70 ?_
                refine x_vI (As := [.int (iI (mEm mS i)), .int (iI 1)]) hC (k5_room0 l D cs h (u1 mF 0 0) mS (mCopy mS (zE mS mA i)) mV mT mB (mEm mS i) 1 (by first | assumption | omega) (by first | assumption | omega) (by first | assumption | omega)) lk5_38 (q0 := 0) (ci := 5) rfl rfl rfl (sub_all hP hD hS hA) hP hS rfl hl.1 rfl (Nat.le_of_ble_eq_true rfl) ⟨rfl, rfl⟩ ⟨Nat.le_of_ble_eq_true rfl, Nat.le_of_ble_eq_true rfl⟩ ⟨Nat.le_of_ble_eq_true rfl, Nat.le_of_ble_eq_true rfl⟩ dX5_emptied_71 (fun H locs hP hD hS hHs => ?_)
                have q_71 := imB (S := mS) (by assumption) (5 + 3 * (mEm mS i) + 1) (by omega)
                refine x_ic_le hC 81 dX5_emptied_74 (by decide) (by omega) (by omega) (fun c_74 => ?_) (fun c_74 => ?_)
                · refine x_il hC hl 2 dX5_emptied_81 rfl rfl ?_
                  refine x_is hC [(2, .int (iI (mEm mS i))), (4, .int (iI 1)), (3, .int (iI i)), (0, .ref (h 0)), (1, .int (iI what))] hl dX5_emptied_82 rfl (by decide) rfl (fun ls hl => ?_)
                  refine x_iinc hC [(3, .int (iI (i + 1))), (2, .int (iI (mEm mS i))), (4, .int (iI 1)), (0, .ref (h 0)), (1, .int (iI what))] 2 hl dX5_emptied_83 rfl (by decide) rfl (fun ls hl => ?_)
                  refine x_goto hC 22 dX5_emptied_86 (by decide) ?_
                  have ew_7 : (wM h cs (u1 mF 0 0) mS (mCopy mS (zE mS mA i)) mV mT mB) = (wM h cs (u1 mF 0 0) mS (zE mS mA (i + 1)) mV mT mB) := (wMc rfl rfl (by rw [zE_s _ _ hi0]; first | exact (iif_t (by assumption)).symm | exact (iif_f (by assumption)).symm : mCopy mS (zE mS mA i) = zE mS mA (i + 1)) rfl rfl rfl)
                  have hP := vPe hP ew_7
                  have hD := vDe hD ew_7
                  have hl : lv_has ls 5 [(3, .int (iI (i + 1))), (2, .int (iI (mEm mS (i + 1)))), (0, .ref (h 0)), (1, .int (iI what))] := lvE (lv_sub (l' := [(3, .int (iI (i + 1))), (2, .int (iI (mEm mS i))), (0, .ref (h 0)), (1, .int (iI what))]) hl [0, 1, 3, 4] rfl) (lcE rfl (lcE (congrArg (fun z => Value.int (iI z)) (by rw [mEm_s _ hi0]; unfold mEmB; first | exact (iif_t (by first | omega | grind)).symm | exact (iif_f (by first | omega | grind)).symm : mEm mS i = mEm mS (i + 1))) (lcE rfl (lcE rfl (rfl)))))
                  exact ih_22 (i + 1) (by omega) (by omega) (by omega) H locs ls hP hD hS hl
                · refine x_il hC hl 1 dX5_emptied_77 rfl rfl ?_
                  refine x_goto hC 82 dX5_emptied_78 (by decide) ?_
                  refine x_is hC [(2, .int (iI i)), (4, .int (iI 1)), (3, .int (iI i)), (0, .ref (h 0)), (1, .int (iI what))] hl dX5_emptied_82 rfl (by decide) rfl (fun ls hl => ?_)
                  refine x_iinc hC [(3, .int (iI (i + 1))), (2, .int (iI i)), (4, .int (iI 1)), (0, .ref (h 0)), (1, .int (iI what))] 2 hl dX5_emptied_83 rfl (by decide) rfl (fun ls hl => ?_)
                  refine x_goto hC 22 dX5_emptied_86 (by decide) ?_
                  have ew_8 : (wM h cs (u1 mF 0 0) mS (mCopy mS (zE mS mA i)) mV mT mB) = (wM h cs (u1 mF 0 0) mS (zE mS mA (i + 1)) mV mT mB) := (wMc rfl rfl (by rw [zE_s _ _ hi0]; first | exact (iif_t (by assumption)).symm | exact (iif_f (by assumption)).symm : mCopy mS (zE mS mA i) = zE mS mA (i + 1)) rfl rfl rfl)
                  have hP := vPe hP ew_8
                  have hD := vDe hD ew_8
                  have hl : lv_has ls 5 [(3, .int (iI (i + 1))), (2, .int (iI (mEm mS (i + 1)))), (0, .ref (h 0)), (1, .int (iI what))] := lvE (lv_sub (l' := [(3, .int (iI (i + 1))), (2, .int (iI i)), (0, .ref (h 0)), (1, .int (iI what))]) hl [0, 1, 3, 4] rfl) (lcE rfl (lcE (congrArg (fun z => Value.int (iI z)) (by rw [mEm_s _ hi0]; unfold mEmB; first | exact (iif_t (by first | omega | grind)).symm | exact (iif_f (by first | omega | grind)).symm : i = mEm mS (i + 1))) (lcE rfl (lcE rfl (rfl)))))
                  exact ih_22 (i + 1) (by omega) (by omega) (by omega) H locs ls hP hD hS hl
    have hl := lv_sub (l' := [(3, .int (iI 0)), (2, .int (iI (mEm mS 0))), (0, .ref (h 0)), (1, .int (iI what))]) hl [0, 1, 2, 3] rfl
    exact loop_22 (Int.toNat (8 - 0) + 1) 0 (by omega) (by omega) (by omega) H locs ls hP hD hS hl
  · refine x_ldc hC (-1000001) tb_683 (by decide) dX5_emptied_14 ?_
    have ew_9 : (wM h cs (u1 mF 0 0) mS mA mV mT mB) = (wM h cs (u1 mF 0 0) mS (iif (0 ≤ what ∧ what ≤ 1) (zE mS mA 8) mA) mV mT mB) := (wMc rfl rfl (by first | exact (iif_t c_11).symm | exact (iif_f c_11).symm : mA = iif (0 ≤ what ∧ what ≤ 1) (zE mS mA 8) mA) rfl rfl rfl)
    have hP := vPe hP ew_9
    have hD := vDe hD ew_9
    exact x_retI (congrArg iI (by exact (iif_f c_11).symm : (-1000001) = iif (0 ≤ what ∧ what ≤ 1) (iif (mEm mS 8 = -1000004 ∨ what = 0) (mEm mS 8) (popI (mskI (fun t => mS (29 + 4 * t + 3) = mEm mS 8) (mS 1)) 20)) (-1000001))) hend hP hD hS dX5_emptied_16
abbrev r5_count : Room := { frames := 4, cells := 0, slots := 0, locals := 90 }
set_option maxHeartbeats 4000000 in
set_option maxRecDepth 100000 in
theorem k5_count (l : Launch) (D : va_G) (cs : Nat → ClassId) (h : Nat → Nat) (mF : Int → Int) (mS : Int → Int) (mA : Int → Int) (mV : Int → Int) (mT : Int → Int) (mB : Int → Int) (what : Int) (hI : IM mS) (g_what : -2147483648 ≤ what ∧ what ≤ 2147483647) : CI l D cs yX5_count cX5_count 2 .int r5_count 0 0 [.ref (h 0), .int (iI what)] (wM h cs mF mS mA mV mT mB) (wM h cs (u1 mF 0 0) mS mA mV mT mB) (iI (mCount mF mS what)) := by
  refine CI_start (own := RX5) (by decide) rfl rfl (Nat.le_of_ble_eq_true rfl) ?_
  intro p e s m args below meth c Q A ls hC hl hP hD hA hS hend
  have hl : lv_has ls 2 [(0, .ref (h 0)), (1, .int (iI what))] := hl
  obtain ⟨H, hH⟩ : ∃ H : Heap, H = s.heap := ⟨_, rfl⟩
  have hS : va_S A s.heap H [] := by rw [hH]; exact hS
  rw [← hH] at hP
  obtain ⟨locs, hlocs⟩ : ∃ locs : List Loc, locs = [] := ⟨_, rfl⟩
  rw [← hlocs] at hS
  suffices hgo : W p l e r5_count s m args below meth c H locs 0 0 Q (F0 m 0 ls []) by rw [← hH, ← hlocs]; exact hgo
  clear hH hlocs
  obtain ⟨z0, z1, -⟩ := id hI
  refine x_al hC hl 0 dX5_count_0 rfl rfl ?_
  refine x_ic hC dX5_count_1 ?_
  refine x_put5_0 hC hP hD hS 0 rfl tb_619 dX5_count_2 (fun H locs hP hD hS => ?_)
  have hP : va_P D vwCl (wM h cs (u1 mF 0 0) mS mA mV mT mB) H := hP
  have hD : va_D A (wM h cs (u1 mF 0 0) mS mA mV mT mB) := hD
  refine x_il hC hl 1 dX5_count_5 rfl rfl ?_
  by_cases c_6_0 : what = 0
  · refine x_tsIn hC 104 dX5_count_6 (by rw [c_6_0]; omega) (by rw [c_6_0]; decide) (by rw [c_6_0]; decide) (by rw [c_6_0]; rfl) (by decide) ?_
    refine x_al hC hl 0 dX5_count_104 rfl rfl ?_
    refine x_vI (As := []) hC (k5_talks l D cs h (u1 mF 0 0) mS mA mV mT mB (by first | assumption | omega)) lk5_158 (q0 := 0) (ci := 5) rfl rfl rfl (sub_all hP hD hS hA) hP hS rfl hl.1 rfl (Nat.le_of_ble_eq_true rfl) ⟨rfl, rfl⟩ ⟨Nat.le_of_ble_eq_true rfl, Nat.le_of_ble_eq_true rfl⟩ ⟨Nat.le_of_ble_eq_true rfl, Nat.le_of_ble_eq_true rfl⟩ dX5_count_105 (fun H locs hP hD hS hHs => ?_)
    have q_105 := mTalks_rg mS (n := mS 1) (by omega)
    exact x_retI (congrArg iI (by unfold mCount; first | (rw [iif_t (by omega)]; done) | (rw [iif_f (by omega), iif_t (by omega)]; done) | (rw [iif_f (by omega), iif_f (by omega), iif_t (by omega)]; done) | (rw [iif_f (by omega), iif_f (by omega), iif_f (by omega), iif_t (by omega)]; done) | (rw [iif_f (by omega), iif_f (by omega), iif_f (by omega), iif_f (by omega), iif_t (by omega)]; done) | (rw [iif_f (by omega), iif_f (by omega), iif_f (by omega), iif_f (by omega), iif_f (by omega), iif_t (by omega)]; done) | (rw [iif_f (by omega), iif_f (by omega), iif_f (by omega), iif_f (by omega), iif_f (by omega), iif_f (by omega), iif_t (by omega)]; done) | (rw [iif_f (by omega), iif_f (by omega), iif_f (by omega), iif_f (by omega), iif_f (by omega), iif_f (by omega), iif_f (by omega), iif_t (by omega)]; done) | (rw [iif_f (by omega), iif_f (by omega), iif_f (by omega), iif_f (by omega), iif_f (by omega), iif_f (by omega), iif_f (by omega), iif_f (by omega), iif_t (by omega)]; done) | (rw [iif_f (by omega), iif_f (by omega), iif_f (by omega), iif_f (by omega), iif_f (by omega), iif_f (by omega), iif_f (by omega), iif_f (by omega), iif_f (by omega), iif_t (by omega)]; done) | (rw [iif_f (by omega), iif_f (by omega), iif_f (by omega), iif_f (by omega), iif_f (by omega), iif_f (by omega), iif_f (by omega), iif_f (by omega), iif_f (by omega), iif_f (by omega), iif_t (by omega)]; done) | (rw [iif_f (by omega), iif_f (by omega), iif_f (by omega), iif_f (by omega), iif_f (by omega), iif_f (by omega), iif_f (by omega), iif_f (by omega), iif_f (by omega), iif_f (by omega), iif_f (by omega)]; done) : mTalks mS (mS 1) = mCount mF mS what)) hend hP hD hS dX5_count_108
  by_cases c_6_1 : what = 1
  · refine x_tsIn hC 109 dX5_count_6 (by rw [c_6_1]; omega) (by rw [c_6_1]; decide) (by rw [c_6_1]; decide) (by rw [c_6_1]; rfl) (by decide) ?_
    refine x_al hC hl 0 dX5_count_109 rfl rfl ?_
    refine x_get5 (v := .ref (h 1)) hC hP 0 rfl 1 (by decide) tb_620 rfl rfl dX5_count_110 ?_
    refine x_ic hC dX5_count_113 ?_
    refine x_iald hC hP 1 rfl (by omega) (by decide) dX5_count_114 ?_
    exact x_retI (congrArg iI (by unfold mCount; first | (rw [iif_t (by omega)]; done) | (rw [iif_f (by omega), iif_t (by omega)]; done) | (rw [iif_f (by omega), iif_f (by omega), iif_t (by omega)]; done) | (rw [iif_f (by omega), iif_f (by omega), iif_f (by omega), iif_t (by omega)]; done) | (rw [iif_f (by omega), iif_f (by omega), iif_f (by omega), iif_f (by omega), iif_t (by omega)]; done) | (rw [iif_f (by omega), iif_f (by omega), iif_f (by omega), iif_f (by omega), iif_f (by omega), iif_t (by omega)]; done) | (rw [iif_f (by omega), iif_f (by omega), iif_f (by omega), iif_f (by omega), iif_f (by omega), iif_f (by omega), iif_t (by omega)]; done) | (rw [iif_f (by omega), iif_f (by omega), iif_f (by omega), iif_f (by omega), iif_f (by omega), iif_f (by omega), iif_f (by omega), iif_t (by omega)]; done) | (rw [iif_f (by omega), iif_f (by omega), iif_f (by omega), iif_f (by omega), iif_f (by omega), iif_f (by omega), iif_f (by omega), iif_f (by omega), iif_t (by omega)]; done) | (rw [iif_f (by omega), iif_f (by omega), iif_f (by omega), iif_f (by omega), iif_f (by omega), iif_f (by omega), iif_f (by omega), iif_f (by omega), iif_f (by omega), iif_t (by omega)]; done) | (rw [iif_f (by omega), iif_f (by omega), iif_f (by omega), iif_f (by omega), iif_f (by omega), iif_f (by omega), iif_f (by omega), iif_f (by omega), iif_f (by omega), iif_f (by omega), iif_t (by omega)]; done) | (rw [iif_f (by omega), iif_f (by omega), iif_f (by omega), iif_f (by omega), iif_f (by omega), iif_f (by omega), iif_f (by omega), iif_f (by omega), iif_f (by omega), iif_f (by omega), iif_f (by omega)]; done) : mS 1 = mCount mF mS what)) hend hP hD hS dX5_count_115
  by_cases c_6_2 : what = 2
  · refine x_tsIn hC 116 dX5_count_6 (by rw [c_6_2]; omega) (by rw [c_6_2]; decide) (by rw [c_6_2]; decide) (by rw [c_6_2]; rfl) (by decide) ?_
    refine x_al hC hl 0 dX5_count_116 rfl rfl ?_
    refine x_vI (As := []) hC (k5_openMany l D cs h (u1 mF 0 0) mS mA mV mT mB (by first | assumption | omega)) lk5_109 (q0 := 0) (ci := 5) rfl rfl rfl (sub_all hP hD hS hA) hP hS rfl hl.1 rfl (Nat.le_of_ble_eq_true rfl) ⟨rfl, rfl⟩ ⟨Nat.le_of_ble_eq_true rfl, Nat.le_of_ble_eq_true rfl⟩ ⟨Nat.le_of_ble_eq_true rfl, Nat.le_of_ble_eq_true rfl⟩ dX5_count_117 (fun H locs hP hD hS hHs => ?_)
    exact x_retI (congrArg iI (by unfold mCount; first | (rw [iif_t (by omega)]; done) | (rw [iif_f (by omega), iif_t (by omega)]; done) | (rw [iif_f (by omega), iif_f (by omega), iif_t (by omega)]; done) | (rw [iif_f (by omega), iif_f (by omega), iif_f (by omega), iif_t (by omega)]; done) | (rw [iif_f (by omega), iif_f (by omega), iif_f (by omega), iif_f (by omega), iif_t (by omega)]; done) | (rw [iif_f (by omega), iif_f (by omega), iif_f (by omega), iif_f (by omega), iif_f (by omega), iif_t (by omega)]; done) | (rw [iif_f (by omega), iif_f (by omega), iif_f (by omega), iif_f (by omega), iif_f (by omega), iif_f (by omega), iif_t (by omega)]; done) | (rw [iif_f (by omega), iif_f (by omega), iif_f (by omega), iif_f (by omega), iif_f (by omega), iif_f (by omega), iif_f (by omega), iif_t (by omega)]; done) | (rw [iif_f (by omega), iif_f (by omega), iif_f (by omega), iif_f (by omega), iif_f (by omega), iif_f (by omega), iif_f (by omega), iif_f (by omega), iif_t (by omega)]; done) | (rw [iif_f (by omega), iif_f (by omega), iif_f (by omega), iif_f (by omega), iif_f (by omega), iif_f (by omega), iif_f (by omega), iif_f (by omega), iif_f (by omega), iif_t (by omega)]; done) | (rw [iif_f (by omega), iif_f (by omega), iif_f (by omega), iif_f (by omega), iif_f (by omega), iif_f (by omega), iif_f (by omega), iif_f (by omega), iif_f (by omega), iif_f (by omega), iif_t (by omega)]; done) | (rw [iif_f (by omega), iif_f (by omega), iif_f (by omega), iif_f (by omega), iif_f (by omega), iif_f (by omega), iif_f (by omega), iif_f (by omega), iif_f (by omega), iif_f (by omega), iif_f (by omega)]; done) : mOpenN mS 8 = mCount mF mS what)) hend hP hD hS dX5_count_120
  by_cases c_6_3 : what = 3
  · refine x_tsIn hC 121 dX5_count_6 (by rw [c_6_3]; omega) (by rw [c_6_3]; decide) (by rw [c_6_3]; decide) (by rw [c_6_3]; rfl) (by decide) ?_
    refine x_al hC hl 0 dX5_count_121 rfl rfl ?_
    refine x_get5 (v := .ref (h 1)) hC hP 0 rfl 1 (by decide) tb_620 rfl rfl dX5_count_122 ?_
    refine x_ic hC dX5_count_125 ?_
    refine x_iald hC hP 1 rfl (by omega) (by decide) dX5_count_126 ?_
    exact x_retI (congrArg iI (by unfold mCount; first | (rw [iif_t (by omega)]; done) | (rw [iif_f (by omega), iif_t (by omega)]; done) | (rw [iif_f (by omega), iif_f (by omega), iif_t (by omega)]; done) | (rw [iif_f (by omega), iif_f (by omega), iif_f (by omega), iif_t (by omega)]; done) | (rw [iif_f (by omega), iif_f (by omega), iif_f (by omega), iif_f (by omega), iif_t (by omega)]; done) | (rw [iif_f (by omega), iif_f (by omega), iif_f (by omega), iif_f (by omega), iif_f (by omega), iif_t (by omega)]; done) | (rw [iif_f (by omega), iif_f (by omega), iif_f (by omega), iif_f (by omega), iif_f (by omega), iif_f (by omega), iif_t (by omega)]; done) | (rw [iif_f (by omega), iif_f (by omega), iif_f (by omega), iif_f (by omega), iif_f (by omega), iif_f (by omega), iif_f (by omega), iif_t (by omega)]; done) | (rw [iif_f (by omega), iif_f (by omega), iif_f (by omega), iif_f (by omega), iif_f (by omega), iif_f (by omega), iif_f (by omega), iif_f (by omega), iif_t (by omega)]; done) | (rw [iif_f (by omega), iif_f (by omega), iif_f (by omega), iif_f (by omega), iif_f (by omega), iif_f (by omega), iif_f (by omega), iif_f (by omega), iif_f (by omega), iif_t (by omega)]; done) | (rw [iif_f (by omega), iif_f (by omega), iif_f (by omega), iif_f (by omega), iif_f (by omega), iif_f (by omega), iif_f (by omega), iif_f (by omega), iif_f (by omega), iif_f (by omega), iif_t (by omega)]; done) | (rw [iif_f (by omega), iif_f (by omega), iif_f (by omega), iif_f (by omega), iif_f (by omega), iif_f (by omega), iif_f (by omega), iif_f (by omega), iif_f (by omega), iif_f (by omega), iif_f (by omega)]; done) : mS 2 = mCount mF mS what)) hend hP hD hS dX5_count_127
  by_cases c_6_4 : what = 4
  · refine x_tsIn hC 128 dX5_count_6 (by rw [c_6_4]; omega) (by rw [c_6_4]; decide) (by rw [c_6_4]; decide) (by rw [c_6_4]; rfl) (by decide) ?_
    refine x_al hC hl 0 dX5_count_128 rfl rfl ?_
    refine x_get5 (v := .ref (h 1)) hC hP 0 rfl 1 (by decide) tb_620 rfl rfl dX5_count_129 ?_
    refine x_ic hC dX5_count_132 ?_
    refine x_iald hC hP 1 rfl (by omega) (by decide) dX5_count_133 ?_
    exact x_retI (congrArg iI (by unfold mCount; first | (rw [iif_t (by omega)]; done) | (rw [iif_f (by omega), iif_t (by omega)]; done) | (rw [iif_f (by omega), iif_f (by omega), iif_t (by omega)]; done) | (rw [iif_f (by omega), iif_f (by omega), iif_f (by omega), iif_t (by omega)]; done) | (rw [iif_f (by omega), iif_f (by omega), iif_f (by omega), iif_f (by omega), iif_t (by omega)]; done) | (rw [iif_f (by omega), iif_f (by omega), iif_f (by omega), iif_f (by omega), iif_f (by omega), iif_t (by omega)]; done) | (rw [iif_f (by omega), iif_f (by omega), iif_f (by omega), iif_f (by omega), iif_f (by omega), iif_f (by omega), iif_t (by omega)]; done) | (rw [iif_f (by omega), iif_f (by omega), iif_f (by omega), iif_f (by omega), iif_f (by omega), iif_f (by omega), iif_f (by omega), iif_t (by omega)]; done) | (rw [iif_f (by omega), iif_f (by omega), iif_f (by omega), iif_f (by omega), iif_f (by omega), iif_f (by omega), iif_f (by omega), iif_f (by omega), iif_t (by omega)]; done) | (rw [iif_f (by omega), iif_f (by omega), iif_f (by omega), iif_f (by omega), iif_f (by omega), iif_f (by omega), iif_f (by omega), iif_f (by omega), iif_f (by omega), iif_t (by omega)]; done) | (rw [iif_f (by omega), iif_f (by omega), iif_f (by omega), iif_f (by omega), iif_f (by omega), iif_f (by omega), iif_f (by omega), iif_f (by omega), iif_f (by omega), iif_f (by omega), iif_t (by omega)]; done) | (rw [iif_f (by omega), iif_f (by omega), iif_f (by omega), iif_f (by omega), iif_f (by omega), iif_f (by omega), iif_f (by omega), iif_f (by omega), iif_f (by omega), iif_f (by omega), iif_f (by omega)]; done) : mS 3 = mCount mF mS what)) hend hP hD hS dX5_count_134
  by_cases c_6_5 : what = 5
  · refine x_tsIn hC 135 dX5_count_6 (by rw [c_6_5]; omega) (by rw [c_6_5]; decide) (by rw [c_6_5]; decide) (by rw [c_6_5]; rfl) (by decide) ?_
    refine x_al hC hl 0 dX5_count_135 rfl rfl ?_
    refine x_vI (As := []) hC (k5_fewest l D cs h (u1 mF 0 0) mS mA mV mT mB (by first | assumption | omega)) lk5_173 (q0 := 0) (ci := 5) rfl rfl rfl (sub_all hP hD hS hA) hP hS rfl hl.1 rfl (Nat.le_of_ble_eq_true rfl) ⟨rfl, rfl⟩ ⟨Nat.le_of_ble_eq_true rfl, Nat.le_of_ble_eq_true rfl⟩ ⟨Nat.le_of_ble_eq_true rfl, Nat.le_of_ble_eq_true rfl⟩ dX5_count_136 (fun H locs hP hD hS hHs => ?_)
    exact x_retI (congrArg iI (by unfold mCount; first | (rw [iif_t (by omega)]; done) | (rw [iif_f (by omega), iif_t (by omega)]; done) | (rw [iif_f (by omega), iif_f (by omega), iif_t (by omega)]; done) | (rw [iif_f (by omega), iif_f (by omega), iif_f (by omega), iif_t (by omega)]; done) | (rw [iif_f (by omega), iif_f (by omega), iif_f (by omega), iif_f (by omega), iif_t (by omega)]; done) | (rw [iif_f (by omega), iif_f (by omega), iif_f (by omega), iif_f (by omega), iif_f (by omega), iif_t (by omega)]; done) | (rw [iif_f (by omega), iif_f (by omega), iif_f (by omega), iif_f (by omega), iif_f (by omega), iif_f (by omega), iif_t (by omega)]; done) | (rw [iif_f (by omega), iif_f (by omega), iif_f (by omega), iif_f (by omega), iif_f (by omega), iif_f (by omega), iif_f (by omega), iif_t (by omega)]; done) | (rw [iif_f (by omega), iif_f (by omega), iif_f (by omega), iif_f (by omega), iif_f (by omega), iif_f (by omega), iif_f (by omega), iif_f (by omega), iif_t (by omega)]; done) | (rw [iif_f (by omega), iif_f (by omega), iif_f (by omega), iif_f (by omega), iif_f (by omega), iif_f (by omega), iif_f (by omega), iif_f (by omega), iif_f (by omega), iif_t (by omega)]; done) | (rw [iif_f (by omega), iif_f (by omega), iif_f (by omega), iif_f (by omega), iif_f (by omega), iif_f (by omega), iif_f (by omega), iif_f (by omega), iif_f (by omega), iif_f (by omega), iif_t (by omega)]; done) | (rw [iif_f (by omega), iif_f (by omega), iif_f (by omega), iif_f (by omega), iif_f (by omega), iif_f (by omega), iif_f (by omega), iif_f (by omega), iif_f (by omega), iif_f (by omega), iif_f (by omega)]; done) : mFew mS 48 = mCount mF mS what)) hend hP hD hS dX5_count_139
  by_cases c_6_6 : what = 6
  · refine x_tsIn hC 140 dX5_count_6 (by rw [c_6_6]; omega) (by rw [c_6_6]; decide) (by rw [c_6_6]; decide) (by rw [c_6_6]; rfl) (by decide) ?_
    refine x_al hC hl 0 dX5_count_140 rfl rfl ?_
    refine x_vI (As := []) hC (k5_hoursTaken l D cs h (u1 mF 0 0) mS mA mV mT mB (by first | assumption | omega)) lk5_176 (q0 := 0) (ci := 5) rfl rfl rfl (sub_all hP hD hS hA) hP hS rfl hl.1 rfl (Nat.le_of_ble_eq_true rfl) ⟨rfl, rfl⟩ ⟨Nat.le_of_ble_eq_true rfl, Nat.le_of_ble_eq_true rfl⟩ ⟨Nat.le_of_ble_eq_true rfl, Nat.le_of_ble_eq_true rfl⟩ dX5_count_141 (fun H locs hP hD hS hHs => ?_)
    exact x_retI (congrArg iI (by unfold mCount; first | (rw [iif_t (by omega)]; done) | (rw [iif_f (by omega), iif_t (by omega)]; done) | (rw [iif_f (by omega), iif_f (by omega), iif_t (by omega)]; done) | (rw [iif_f (by omega), iif_f (by omega), iif_f (by omega), iif_t (by omega)]; done) | (rw [iif_f (by omega), iif_f (by omega), iif_f (by omega), iif_f (by omega), iif_t (by omega)]; done) | (rw [iif_f (by omega), iif_f (by omega), iif_f (by omega), iif_f (by omega), iif_f (by omega), iif_t (by omega)]; done) | (rw [iif_f (by omega), iif_f (by omega), iif_f (by omega), iif_f (by omega), iif_f (by omega), iif_f (by omega), iif_t (by omega)]; done) | (rw [iif_f (by omega), iif_f (by omega), iif_f (by omega), iif_f (by omega), iif_f (by omega), iif_f (by omega), iif_f (by omega), iif_t (by omega)]; done) | (rw [iif_f (by omega), iif_f (by omega), iif_f (by omega), iif_f (by omega), iif_f (by omega), iif_f (by omega), iif_f (by omega), iif_f (by omega), iif_t (by omega)]; done) | (rw [iif_f (by omega), iif_f (by omega), iif_f (by omega), iif_f (by omega), iif_f (by omega), iif_f (by omega), iif_f (by omega), iif_f (by omega), iif_f (by omega), iif_t (by omega)]; done) | (rw [iif_f (by omega), iif_f (by omega), iif_f (by omega), iif_f (by omega), iif_f (by omega), iif_f (by omega), iif_f (by omega), iif_f (by omega), iif_f (by omega), iif_f (by omega), iif_t (by omega)]; done) | (rw [iif_f (by omega), iif_f (by omega), iif_f (by omega), iif_f (by omega), iif_f (by omega), iif_f (by omega), iif_f (by omega), iif_f (by omega), iif_f (by omega), iif_f (by omega), iif_f (by omega)]; done) : mHours mS 8 = mCount mF mS what)) hend hP hD hS dX5_count_144
  by_cases c_6_7 : what = 7
  · refine x_tsIn hC 145 dX5_count_6 (by rw [c_6_7]; omega) (by rw [c_6_7]; decide) (by rw [c_6_7]; decide) (by rw [c_6_7]; rfl) (by decide) ?_
    refine x_al hC hl 0 dX5_count_145 rfl rfl ?_
    refine x_get5 (v := .ref (h 1)) hC hP 0 rfl 1 (by decide) tb_620 rfl rfl dX5_count_146 ?_
    refine x_ic hC dX5_count_149 ?_
    refine x_iald hC hP 1 rfl (by omega) (by decide) dX5_count_150 ?_
    exact x_retI (congrArg iI (by unfold mCount; first | (rw [iif_t (by omega)]; done) | (rw [iif_f (by omega), iif_t (by omega)]; done) | (rw [iif_f (by omega), iif_f (by omega), iif_t (by omega)]; done) | (rw [iif_f (by omega), iif_f (by omega), iif_f (by omega), iif_t (by omega)]; done) | (rw [iif_f (by omega), iif_f (by omega), iif_f (by omega), iif_f (by omega), iif_t (by omega)]; done) | (rw [iif_f (by omega), iif_f (by omega), iif_f (by omega), iif_f (by omega), iif_f (by omega), iif_t (by omega)]; done) | (rw [iif_f (by omega), iif_f (by omega), iif_f (by omega), iif_f (by omega), iif_f (by omega), iif_f (by omega), iif_t (by omega)]; done) | (rw [iif_f (by omega), iif_f (by omega), iif_f (by omega), iif_f (by omega), iif_f (by omega), iif_f (by omega), iif_f (by omega), iif_t (by omega)]; done) | (rw [iif_f (by omega), iif_f (by omega), iif_f (by omega), iif_f (by omega), iif_f (by omega), iif_f (by omega), iif_f (by omega), iif_f (by omega), iif_t (by omega)]; done) | (rw [iif_f (by omega), iif_f (by omega), iif_f (by omega), iif_f (by omega), iif_f (by omega), iif_f (by omega), iif_f (by omega), iif_f (by omega), iif_f (by omega), iif_t (by omega)]; done) | (rw [iif_f (by omega), iif_f (by omega), iif_f (by omega), iif_f (by omega), iif_f (by omega), iif_f (by omega), iif_f (by omega), iif_f (by omega), iif_f (by omega), iif_f (by omega), iif_t (by omega)]; done) | (rw [iif_f (by omega), iif_f (by omega), iif_f (by omega), iif_f (by omega), iif_f (by omega), iif_f (by omega), iif_f (by omega), iif_f (by omega), iif_f (by omega), iif_f (by omega), iif_f (by omega)]; done) : mS 4 = mCount mF mS what)) hend hP hD hS dX5_count_151
  by_cases c_6_8 : what = 8
  · refine x_tsIn hC 152 dX5_count_6 (by rw [c_6_8]; omega) (by rw [c_6_8]; decide) (by rw [c_6_8]; decide) (by rw [c_6_8]; rfl) (by decide) ?_
    refine x_al hC hl 0 dX5_count_152 rfl rfl ?_
    refine x_get5 (v := .int (iI (mF 4))) hC hP 0 rfl 4 (by decide) tb_623 rfl rfl dX5_count_153 ?_
    exact x_retI (congrArg iI (by unfold mCount; first | (rw [iif_t (by omega)]; done) | (rw [iif_f (by omega), iif_t (by omega)]; done) | (rw [iif_f (by omega), iif_f (by omega), iif_t (by omega)]; done) | (rw [iif_f (by omega), iif_f (by omega), iif_f (by omega), iif_t (by omega)]; done) | (rw [iif_f (by omega), iif_f (by omega), iif_f (by omega), iif_f (by omega), iif_t (by omega)]; done) | (rw [iif_f (by omega), iif_f (by omega), iif_f (by omega), iif_f (by omega), iif_f (by omega), iif_t (by omega)]; done) | (rw [iif_f (by omega), iif_f (by omega), iif_f (by omega), iif_f (by omega), iif_f (by omega), iif_f (by omega), iif_t (by omega)]; done) | (rw [iif_f (by omega), iif_f (by omega), iif_f (by omega), iif_f (by omega), iif_f (by omega), iif_f (by omega), iif_f (by omega), iif_t (by omega)]; done) | (rw [iif_f (by omega), iif_f (by omega), iif_f (by omega), iif_f (by omega), iif_f (by omega), iif_f (by omega), iif_f (by omega), iif_f (by omega), iif_t (by omega)]; done) | (rw [iif_f (by omega), iif_f (by omega), iif_f (by omega), iif_f (by omega), iif_f (by omega), iif_f (by omega), iif_f (by omega), iif_f (by omega), iif_f (by omega), iif_t (by omega)]; done) | (rw [iif_f (by omega), iif_f (by omega), iif_f (by omega), iif_f (by omega), iif_f (by omega), iif_f (by omega), iif_f (by omega), iif_f (by omega), iif_f (by omega), iif_f (by omega), iif_t (by omega)]; done) | (rw [iif_f (by omega), iif_f (by omega), iif_f (by omega), iif_f (by omega), iif_f (by omega), iif_f (by omega), iif_f (by omega), iif_f (by omega), iif_f (by omega), iif_f (by omega), iif_f (by omega)]; done) : mF 4 = mCount mF mS what)) hend hP hD hS dX5_count_156
  by_cases c_6_9 : what = 9
  · refine x_tsIn hC 157 dX5_count_6 (by rw [c_6_9]; omega) (by rw [c_6_9]; decide) (by rw [c_6_9]; decide) (by rw [c_6_9]; rfl) (by decide) ?_
    refine x_al hC hl 0 dX5_count_157 rfl rfl ?_
    refine x_get5 (v := .int (iI (mF 6))) hC hP 0 rfl 6 (by decide) tb_625 rfl rfl dX5_count_158 ?_
    exact x_retI (congrArg iI (by unfold mCount; first | (rw [iif_t (by omega)]; done) | (rw [iif_f (by omega), iif_t (by omega)]; done) | (rw [iif_f (by omega), iif_f (by omega), iif_t (by omega)]; done) | (rw [iif_f (by omega), iif_f (by omega), iif_f (by omega), iif_t (by omega)]; done) | (rw [iif_f (by omega), iif_f (by omega), iif_f (by omega), iif_f (by omega), iif_t (by omega)]; done) | (rw [iif_f (by omega), iif_f (by omega), iif_f (by omega), iif_f (by omega), iif_f (by omega), iif_t (by omega)]; done) | (rw [iif_f (by omega), iif_f (by omega), iif_f (by omega), iif_f (by omega), iif_f (by omega), iif_f (by omega), iif_t (by omega)]; done) | (rw [iif_f (by omega), iif_f (by omega), iif_f (by omega), iif_f (by omega), iif_f (by omega), iif_f (by omega), iif_f (by omega), iif_t (by omega)]; done) | (rw [iif_f (by omega), iif_f (by omega), iif_f (by omega), iif_f (by omega), iif_f (by omega), iif_f (by omega), iif_f (by omega), iif_f (by omega), iif_t (by omega)]; done) | (rw [iif_f (by omega), iif_f (by omega), iif_f (by omega), iif_f (by omega), iif_f (by omega), iif_f (by omega), iif_f (by omega), iif_f (by omega), iif_f (by omega), iif_t (by omega)]; done) | (rw [iif_f (by omega), iif_f (by omega), iif_f (by omega), iif_f (by omega), iif_f (by omega), iif_f (by omega), iif_f (by omega), iif_f (by omega), iif_f (by omega), iif_f (by omega), iif_t (by omega)]; done) | (rw [iif_f (by omega), iif_f (by omega), iif_f (by omega), iif_f (by omega), iif_f (by omega), iif_f (by omega), iif_f (by omega), iif_f (by omega), iif_f (by omega), iif_f (by omega), iif_f (by omega)]; done) : mF 6 = mCount mF mS what)) hend hP hD hS dX5_count_161
  by_cases c_6_10 : what = 10
  · refine x_tsIn hC 169 dX5_count_6 (by rw [c_6_10]; omega) (by rw [c_6_10]; decide) (by rw [c_6_10]; decide) (by rw [c_6_10]; rfl) (by decide) ?_
    refine x_ldc hC (-1000001) tb_683 (by decide) dX5_count_169 ?_
    exact x_retI (congrArg iI (by unfold mCount; first | (rw [iif_t (by omega)]; done) | (rw [iif_f (by omega), iif_t (by omega)]; done) | (rw [iif_f (by omega), iif_f (by omega), iif_t (by omega)]; done) | (rw [iif_f (by omega), iif_f (by omega), iif_f (by omega), iif_t (by omega)]; done) | (rw [iif_f (by omega), iif_f (by omega), iif_f (by omega), iif_f (by omega), iif_t (by omega)]; done) | (rw [iif_f (by omega), iif_f (by omega), iif_f (by omega), iif_f (by omega), iif_f (by omega), iif_t (by omega)]; done) | (rw [iif_f (by omega), iif_f (by omega), iif_f (by omega), iif_f (by omega), iif_f (by omega), iif_f (by omega), iif_t (by omega)]; done) | (rw [iif_f (by omega), iif_f (by omega), iif_f (by omega), iif_f (by omega), iif_f (by omega), iif_f (by omega), iif_f (by omega), iif_t (by omega)]; done) | (rw [iif_f (by omega), iif_f (by omega), iif_f (by omega), iif_f (by omega), iif_f (by omega), iif_f (by omega), iif_f (by omega), iif_f (by omega), iif_t (by omega)]; done) | (rw [iif_f (by omega), iif_f (by omega), iif_f (by omega), iif_f (by omega), iif_f (by omega), iif_f (by omega), iif_f (by omega), iif_f (by omega), iif_f (by omega), iif_t (by omega)]; done) | (rw [iif_f (by omega), iif_f (by omega), iif_f (by omega), iif_f (by omega), iif_f (by omega), iif_f (by omega), iif_f (by omega), iif_f (by omega), iif_f (by omega), iif_f (by omega), iif_t (by omega)]; done) | (rw [iif_f (by omega), iif_f (by omega), iif_f (by omega), iif_f (by omega), iif_f (by omega), iif_f (by omega), iif_f (by omega), iif_f (by omega), iif_f (by omega), iif_f (by omega), iif_f (by omega)]; done) : (-1000001) = mCount mF mS what)) hend hP hD hS dX5_count_171
  by_cases c_6_11 : what = 11
  · refine x_tsIn hC 169 dX5_count_6 (by rw [c_6_11]; omega) (by rw [c_6_11]; decide) (by rw [c_6_11]; decide) (by rw [c_6_11]; rfl) (by decide) ?_
    refine x_ldc hC (-1000001) tb_683 (by decide) dX5_count_169 ?_
    exact x_retI (congrArg iI (by unfold mCount; first | (rw [iif_t (by omega)]; done) | (rw [iif_f (by omega), iif_t (by omega)]; done) | (rw [iif_f (by omega), iif_f (by omega), iif_t (by omega)]; done) | (rw [iif_f (by omega), iif_f (by omega), iif_f (by omega), iif_t (by omega)]; done) | (rw [iif_f (by omega), iif_f (by omega), iif_f (by omega), iif_f (by omega), iif_t (by omega)]; done) | (rw [iif_f (by omega), iif_f (by omega), iif_f (by omega), iif_f (by omega), iif_f (by omega), iif_t (by omega)]; done) | (rw [iif_f (by omega), iif_f (by omega), iif_f (by omega), iif_f (by omega), iif_f (by omega), iif_f (by omega), iif_t (by omega)]; done) | (rw [iif_f (by omega), iif_f (by omega), iif_f (by omega), iif_f (by omega), iif_f (by omega), iif_f (by omega), iif_f (by omega), iif_t (by omega)]; done) | (rw [iif_f (by omega), iif_f (by omega), iif_f (by omega), iif_f (by omega), iif_f (by omega), iif_f (by omega), iif_f (by omega), iif_f (by omega), iif_t (by omega)]; done) | (rw [iif_f (by omega), iif_f (by omega), iif_f (by omega), iif_f (by omega), iif_f (by omega), iif_f (by omega), iif_f (by omega), iif_f (by omega), iif_f (by omega), iif_t (by omega)]; done) | (rw [iif_f (by omega), iif_f (by omega), iif_f (by omega), iif_f (by omega), iif_f (by omega), iif_f (by omega), iif_f (by omega), iif_f (by omega), iif_f (by omega), iif_f (by omega), iif_t (by omega)]; done) | (rw [iif_f (by omega), iif_f (by omega), iif_f (by omega), iif_f (by omega), iif_f (by omega), iif_f (by omega), iif_f (by omega), iif_f (by omega), iif_f (by omega), iif_f (by omega), iif_f (by omega)]; done) : (-1000001) = mCount mF mS what)) hend hP hD hS dX5_count_171
  by_cases c_6_12 : what = 12
  · refine x_tsIn hC 169 dX5_count_6 (by rw [c_6_12]; omega) (by rw [c_6_12]; decide) (by rw [c_6_12]; decide) (by rw [c_6_12]; rfl) (by decide) ?_
    refine x_ldc hC (-1000001) tb_683 (by decide) dX5_count_169 ?_
    exact x_retI (congrArg iI (by unfold mCount; first | (rw [iif_t (by omega)]; done) | (rw [iif_f (by omega), iif_t (by omega)]; done) | (rw [iif_f (by omega), iif_f (by omega), iif_t (by omega)]; done) | (rw [iif_f (by omega), iif_f (by omega), iif_f (by omega), iif_t (by omega)]; done) | (rw [iif_f (by omega), iif_f (by omega), iif_f (by omega), iif_f (by omega), iif_t (by omega)]; done) | (rw [iif_f (by omega), iif_f (by omega), iif_f (by omega), iif_f (by omega), iif_f (by omega), iif_t (by omega)]; done) | (rw [iif_f (by omega), iif_f (by omega), iif_f (by omega), iif_f (by omega), iif_f (by omega), iif_f (by omega), iif_t (by omega)]; done) | (rw [iif_f (by omega), iif_f (by omega), iif_f (by omega), iif_f (by omega), iif_f (by omega), iif_f (by omega), iif_f (by omega), iif_t (by omega)]; done) | (rw [iif_f (by omega), iif_f (by omega), iif_f (by omega), iif_f (by omega), iif_f (by omega), iif_f (by omega), iif_f (by omega), iif_f (by omega), iif_t (by omega)]; done) | (rw [iif_f (by omega), iif_f (by omega), iif_f (by omega), iif_f (by omega), iif_f (by omega), iif_f (by omega), iif_f (by omega), iif_f (by omega), iif_f (by omega), iif_t (by omega)]; done) | (rw [iif_f (by omega), iif_f (by omega), iif_f (by omega), iif_f (by omega), iif_f (by omega), iif_f (by omega), iif_f (by omega), iif_f (by omega), iif_f (by omega), iif_f (by omega), iif_t (by omega)]; done) | (rw [iif_f (by omega), iif_f (by omega), iif_f (by omega), iif_f (by omega), iif_f (by omega), iif_f (by omega), iif_f (by omega), iif_f (by omega), iif_f (by omega), iif_f (by omega), iif_f (by omega)]; done) : (-1000001) = mCount mF mS what)) hend hP hD hS dX5_count_171
  by_cases c_6_13 : what = 13
  · refine x_tsIn hC 169 dX5_count_6 (by rw [c_6_13]; omega) (by rw [c_6_13]; decide) (by rw [c_6_13]; decide) (by rw [c_6_13]; rfl) (by decide) ?_
    refine x_ldc hC (-1000001) tb_683 (by decide) dX5_count_169 ?_
    exact x_retI (congrArg iI (by unfold mCount; first | (rw [iif_t (by omega)]; done) | (rw [iif_f (by omega), iif_t (by omega)]; done) | (rw [iif_f (by omega), iif_f (by omega), iif_t (by omega)]; done) | (rw [iif_f (by omega), iif_f (by omega), iif_f (by omega), iif_t (by omega)]; done) | (rw [iif_f (by omega), iif_f (by omega), iif_f (by omega), iif_f (by omega), iif_t (by omega)]; done) | (rw [iif_f (by omega), iif_f (by omega), iif_f (by omega), iif_f (by omega), iif_f (by omega), iif_t (by omega)]; done) | (rw [iif_f (by omega), iif_f (by omega), iif_f (by omega), iif_f (by omega), iif_f (by omega), iif_f (by omega), iif_t (by omega)]; done) | (rw [iif_f (by omega), iif_f (by omega), iif_f (by omega), iif_f (by omega), iif_f (by omega), iif_f (by omega), iif_f (by omega), iif_t (by omega)]; done) | (rw [iif_f (by omega), iif_f (by omega), iif_f (by omega), iif_f (by omega), iif_f (by omega), iif_f (by omega), iif_f (by omega), iif_f (by omega), iif_t (by omega)]; done) | (rw [iif_f (by omega), iif_f (by omega), iif_f (by omega), iif_f (by omega), iif_f (by omega), iif_f (by omega), iif_f (by omega), iif_f (by omega), iif_f (by omega), iif_t (by omega)]; done) | (rw [iif_f (by omega), iif_f (by omega), iif_f (by omega), iif_f (by omega), iif_f (by omega), iif_f (by omega), iif_f (by omega), iif_f (by omega), iif_f (by omega), iif_f (by omega), iif_t (by omega)]; done) | (rw [iif_f (by omega), iif_f (by omega), iif_f (by omega), iif_f (by omega), iif_f (by omega), iif_f (by omega), iif_f (by omega), iif_f (by omega), iif_f (by omega), iif_f (by omega), iif_f (by omega)]; done) : (-1000001) = mCount mF mS what)) hend hP hD hS dX5_count_171
  by_cases c_6_14 : what = 14
  · refine x_tsIn hC 169 dX5_count_6 (by rw [c_6_14]; omega) (by rw [c_6_14]; decide) (by rw [c_6_14]; decide) (by rw [c_6_14]; rfl) (by decide) ?_
    refine x_ldc hC (-1000001) tb_683 (by decide) dX5_count_169 ?_
    exact x_retI (congrArg iI (by unfold mCount; first | (rw [iif_t (by omega)]; done) | (rw [iif_f (by omega), iif_t (by omega)]; done) | (rw [iif_f (by omega), iif_f (by omega), iif_t (by omega)]; done) | (rw [iif_f (by omega), iif_f (by omega), iif_f (by omega), iif_t (by omega)]; done) | (rw [iif_f (by omega), iif_f (by omega), iif_f (by omega), iif_f (by omega), iif_t (by omega)]; done) | (rw [iif_f (by omega), iif_f (by omega), iif_f (by omega), iif_f (by omega), iif_f (by omega), iif_t (by omega)]; done) | (rw [iif_f (by omega), iif_f (by omega), iif_f (by omega), iif_f (by omega), iif_f (by omega), iif_f (by omega), iif_t (by omega)]; done) | (rw [iif_f (by omega), iif_f (by omega), iif_f (by omega), iif_f (by omega), iif_f (by omega), iif_f (by omega), iif_f (by omega), iif_t (by omega)]; done) | (rw [iif_f (by omega), iif_f (by omega), iif_f (by omega), iif_f (by omega), iif_f (by omega), iif_f (by omega), iif_f (by omega), iif_f (by omega), iif_t (by omega)]; done) | (rw [iif_f (by omega), iif_f (by omega), iif_f (by omega), iif_f (by omega), iif_f (by omega), iif_f (by omega), iif_f (by omega), iif_f (by omega), iif_f (by omega), iif_t (by omega)]; done) | (rw [iif_f (by omega), iif_f (by omega), iif_f (by omega), iif_f (by omega), iif_f (by omega), iif_f (by omega), iif_f (by omega), iif_f (by omega), iif_f (by omega), iif_f (by omega), iif_t (by omega)]; done) | (rw [iif_f (by omega), iif_f (by omega), iif_f (by omega), iif_f (by omega), iif_f (by omega), iif_f (by omega), iif_f (by omega), iif_f (by omega), iif_f (by omega), iif_f (by omega), iif_f (by omega)]; done) : (-1000001) = mCount mF mS what)) hend hP hD hS dX5_count_171
  by_cases c_6_15 : what = 15
  · refine x_tsIn hC 169 dX5_count_6 (by rw [c_6_15]; omega) (by rw [c_6_15]; decide) (by rw [c_6_15]; decide) (by rw [c_6_15]; rfl) (by decide) ?_
    refine x_ldc hC (-1000001) tb_683 (by decide) dX5_count_169 ?_
    exact x_retI (congrArg iI (by unfold mCount; first | (rw [iif_t (by omega)]; done) | (rw [iif_f (by omega), iif_t (by omega)]; done) | (rw [iif_f (by omega), iif_f (by omega), iif_t (by omega)]; done) | (rw [iif_f (by omega), iif_f (by omega), iif_f (by omega), iif_t (by omega)]; done) | (rw [iif_f (by omega), iif_f (by omega), iif_f (by omega), iif_f (by omega), iif_t (by omega)]; done) | (rw [iif_f (by omega), iif_f (by omega), iif_f (by omega), iif_f (by omega), iif_f (by omega), iif_t (by omega)]; done) | (rw [iif_f (by omega), iif_f (by omega), iif_f (by omega), iif_f (by omega), iif_f (by omega), iif_f (by omega), iif_t (by omega)]; done) | (rw [iif_f (by omega), iif_f (by omega), iif_f (by omega), iif_f (by omega), iif_f (by omega), iif_f (by omega), iif_f (by omega), iif_t (by omega)]; done) | (rw [iif_f (by omega), iif_f (by omega), iif_f (by omega), iif_f (by omega), iif_f (by omega), iif_f (by omega), iif_f (by omega), iif_f (by omega), iif_t (by omega)]; done) | (rw [iif_f (by omega), iif_f (by omega), iif_f (by omega), iif_f (by omega), iif_f (by omega), iif_f (by omega), iif_f (by omega), iif_f (by omega), iif_f (by omega), iif_t (by omega)]; done) | (rw [iif_f (by omega), iif_f (by omega), iif_f (by omega), iif_f (by omega), iif_f (by omega), iif_f (by omega), iif_f (by omega), iif_f (by omega), iif_f (by omega), iif_f (by omega), iif_t (by omega)]; done) | (rw [iif_f (by omega), iif_f (by omega), iif_f (by omega), iif_f (by omega), iif_f (by omega), iif_f (by omega), iif_f (by omega), iif_f (by omega), iif_f (by omega), iif_f (by omega), iif_f (by omega)]; done) : (-1000001) = mCount mF mS what)) hend hP hD hS dX5_count_171
  by_cases c_6_16 : what = 16
  · refine x_tsIn hC 169 dX5_count_6 (by rw [c_6_16]; omega) (by rw [c_6_16]; decide) (by rw [c_6_16]; decide) (by rw [c_6_16]; rfl) (by decide) ?_
    refine x_ldc hC (-1000001) tb_683 (by decide) dX5_count_169 ?_
    exact x_retI (congrArg iI (by unfold mCount; first | (rw [iif_t (by omega)]; done) | (rw [iif_f (by omega), iif_t (by omega)]; done) | (rw [iif_f (by omega), iif_f (by omega), iif_t (by omega)]; done) | (rw [iif_f (by omega), iif_f (by omega), iif_f (by omega), iif_t (by omega)]; done) | (rw [iif_f (by omega), iif_f (by omega), iif_f (by omega), iif_f (by omega), iif_t (by omega)]; done) | (rw [iif_f (by omega), iif_f (by omega), iif_f (by omega), iif_f (by omega), iif_f (by omega), iif_t (by omega)]; done) | (rw [iif_f (by omega), iif_f (by omega), iif_f (by omega), iif_f (by omega), iif_f (by omega), iif_f (by omega), iif_t (by omega)]; done) | (rw [iif_f (by omega), iif_f (by omega), iif_f (by omega), iif_f (by omega), iif_f (by omega), iif_f (by omega), iif_f (by omega), iif_t (by omega)]; done) | (rw [iif_f (by omega), iif_f (by omega), iif_f (by omega), iif_f (by omega), iif_f (by omega), iif_f (by omega), iif_f (by omega), iif_f (by omega), iif_t (by omega)]; done) | (rw [iif_f (by omega), iif_f (by omega), iif_f (by omega), iif_f (by omega), iif_f (by omega), iif_f (by omega), iif_f (by omega), iif_f (by omega), iif_f (by omega), iif_t (by omega)]; done) | (rw [iif_f (by omega), iif_f (by omega), iif_f (by omega), iif_f (by omega), iif_f (by omega), iif_f (by omega), iif_f (by omega), iif_f (by omega), iif_f (by omega), iif_f (by omega), iif_t (by omega)]; done) | (rw [iif_f (by omega), iif_f (by omega), iif_f (by omega), iif_f (by omega), iif_f (by omega), iif_f (by omega), iif_f (by omega), iif_f (by omega), iif_f (by omega), iif_f (by omega), iif_f (by omega)]; done) : (-1000001) = mCount mF mS what)) hend hP hD hS dX5_count_171
  by_cases c_6_17 : what = 17
  · refine x_tsIn hC 169 dX5_count_6 (by rw [c_6_17]; omega) (by rw [c_6_17]; decide) (by rw [c_6_17]; decide) (by rw [c_6_17]; rfl) (by decide) ?_
    refine x_ldc hC (-1000001) tb_683 (by decide) dX5_count_169 ?_
    exact x_retI (congrArg iI (by unfold mCount; first | (rw [iif_t (by omega)]; done) | (rw [iif_f (by omega), iif_t (by omega)]; done) | (rw [iif_f (by omega), iif_f (by omega), iif_t (by omega)]; done) | (rw [iif_f (by omega), iif_f (by omega), iif_f (by omega), iif_t (by omega)]; done) | (rw [iif_f (by omega), iif_f (by omega), iif_f (by omega), iif_f (by omega), iif_t (by omega)]; done) | (rw [iif_f (by omega), iif_f (by omega), iif_f (by omega), iif_f (by omega), iif_f (by omega), iif_t (by omega)]; done) | (rw [iif_f (by omega), iif_f (by omega), iif_f (by omega), iif_f (by omega), iif_f (by omega), iif_f (by omega), iif_t (by omega)]; done) | (rw [iif_f (by omega), iif_f (by omega), iif_f (by omega), iif_f (by omega), iif_f (by omega), iif_f (by omega), iif_f (by omega), iif_t (by omega)]; done) | (rw [iif_f (by omega), iif_f (by omega), iif_f (by omega), iif_f (by omega), iif_f (by omega), iif_f (by omega), iif_f (by omega), iif_f (by omega), iif_t (by omega)]; done) | (rw [iif_f (by omega), iif_f (by omega), iif_f (by omega), iif_f (by omega), iif_f (by omega), iif_f (by omega), iif_f (by omega), iif_f (by omega), iif_f (by omega), iif_t (by omega)]; done) | (rw [iif_f (by omega), iif_f (by omega), iif_f (by omega), iif_f (by omega), iif_f (by omega), iif_f (by omega), iif_f (by omega), iif_f (by omega), iif_f (by omega), iif_f (by omega), iif_t (by omega)]; done) | (rw [iif_f (by omega), iif_f (by omega), iif_f (by omega), iif_f (by omega), iif_f (by omega), iif_f (by omega), iif_f (by omega), iif_f (by omega), iif_f (by omega), iif_f (by omega), iif_f (by omega)]; done) : (-1000001) = mCount mF mS what)) hend hP hD hS dX5_count_171
  by_cases c_6_18 : what = 18
  · refine x_tsIn hC 169 dX5_count_6 (by rw [c_6_18]; omega) (by rw [c_6_18]; decide) (by rw [c_6_18]; decide) (by rw [c_6_18]; rfl) (by decide) ?_
    refine x_ldc hC (-1000001) tb_683 (by decide) dX5_count_169 ?_
    exact x_retI (congrArg iI (by unfold mCount; first | (rw [iif_t (by omega)]; done) | (rw [iif_f (by omega), iif_t (by omega)]; done) | (rw [iif_f (by omega), iif_f (by omega), iif_t (by omega)]; done) | (rw [iif_f (by omega), iif_f (by omega), iif_f (by omega), iif_t (by omega)]; done) | (rw [iif_f (by omega), iif_f (by omega), iif_f (by omega), iif_f (by omega), iif_t (by omega)]; done) | (rw [iif_f (by omega), iif_f (by omega), iif_f (by omega), iif_f (by omega), iif_f (by omega), iif_t (by omega)]; done) | (rw [iif_f (by omega), iif_f (by omega), iif_f (by omega), iif_f (by omega), iif_f (by omega), iif_f (by omega), iif_t (by omega)]; done) | (rw [iif_f (by omega), iif_f (by omega), iif_f (by omega), iif_f (by omega), iif_f (by omega), iif_f (by omega), iif_f (by omega), iif_t (by omega)]; done) | (rw [iif_f (by omega), iif_f (by omega), iif_f (by omega), iif_f (by omega), iif_f (by omega), iif_f (by omega), iif_f (by omega), iif_f (by omega), iif_t (by omega)]; done) | (rw [iif_f (by omega), iif_f (by omega), iif_f (by omega), iif_f (by omega), iif_f (by omega), iif_f (by omega), iif_f (by omega), iif_f (by omega), iif_f (by omega), iif_t (by omega)]; done) | (rw [iif_f (by omega), iif_f (by omega), iif_f (by omega), iif_f (by omega), iif_f (by omega), iif_f (by omega), iif_f (by omega), iif_f (by omega), iif_f (by omega), iif_f (by omega), iif_t (by omega)]; done) | (rw [iif_f (by omega), iif_f (by omega), iif_f (by omega), iif_f (by omega), iif_f (by omega), iif_f (by omega), iif_f (by omega), iif_f (by omega), iif_f (by omega), iif_f (by omega), iif_f (by omega)]; done) : (-1000001) = mCount mF mS what)) hend hP hD hS dX5_count_171
  by_cases c_6_19 : what = 19
  · refine x_tsIn hC 169 dX5_count_6 (by rw [c_6_19]; omega) (by rw [c_6_19]; decide) (by rw [c_6_19]; decide) (by rw [c_6_19]; rfl) (by decide) ?_
    refine x_ldc hC (-1000001) tb_683 (by decide) dX5_count_169 ?_
    exact x_retI (congrArg iI (by unfold mCount; first | (rw [iif_t (by omega)]; done) | (rw [iif_f (by omega), iif_t (by omega)]; done) | (rw [iif_f (by omega), iif_f (by omega), iif_t (by omega)]; done) | (rw [iif_f (by omega), iif_f (by omega), iif_f (by omega), iif_t (by omega)]; done) | (rw [iif_f (by omega), iif_f (by omega), iif_f (by omega), iif_f (by omega), iif_t (by omega)]; done) | (rw [iif_f (by omega), iif_f (by omega), iif_f (by omega), iif_f (by omega), iif_f (by omega), iif_t (by omega)]; done) | (rw [iif_f (by omega), iif_f (by omega), iif_f (by omega), iif_f (by omega), iif_f (by omega), iif_f (by omega), iif_t (by omega)]; done) | (rw [iif_f (by omega), iif_f (by omega), iif_f (by omega), iif_f (by omega), iif_f (by omega), iif_f (by omega), iif_f (by omega), iif_t (by omega)]; done) | (rw [iif_f (by omega), iif_f (by omega), iif_f (by omega), iif_f (by omega), iif_f (by omega), iif_f (by omega), iif_f (by omega), iif_f (by omega), iif_t (by omega)]; done) | (rw [iif_f (by omega), iif_f (by omega), iif_f (by omega), iif_f (by omega), iif_f (by omega), iif_f (by omega), iif_f (by omega), iif_f (by omega), iif_f (by omega), iif_t (by omega)]; done) | (rw [iif_f (by omega), iif_f (by omega), iif_f (by omega), iif_f (by omega), iif_f (by omega), iif_f (by omega), iif_f (by omega), iif_f (by omega), iif_f (by omega), iif_f (by omega), iif_t (by omega)]; done) | (rw [iif_f (by omega), iif_f (by omega), iif_f (by omega), iif_f (by omega), iif_f (by omega), iif_f (by omega), iif_f (by omega), iif_f (by omega), iif_f (by omega), iif_f (by omega), iif_f (by omega)]; done) : (-1000001) = mCount mF mS what)) hend hP hD hS dX5_count_171
  by_cases c_6_20 : what = 20
  · refine x_tsIn hC 162 dX5_count_6 (by rw [c_6_20]; omega) (by rw [c_6_20]; decide) (by rw [c_6_20]; decide) (by rw [c_6_20]; rfl) (by decide) ?_
    refine x_al hC hl 0 dX5_count_162 rfl rfl ?_
    refine x_get5 (v := .ref (h 1)) hC hP 0 rfl 1 (by decide) tb_620 rfl rfl dX5_count_163 ?_
    refine x_ic hC dX5_count_166 ?_
    refine x_iald hC hP 1 rfl (by omega) (by decide) dX5_count_167 ?_
    exact x_retI (congrArg iI (by unfold mCount; first | (rw [iif_t (by omega)]; done) | (rw [iif_f (by omega), iif_t (by omega)]; done) | (rw [iif_f (by omega), iif_f (by omega), iif_t (by omega)]; done) | (rw [iif_f (by omega), iif_f (by omega), iif_f (by omega), iif_t (by omega)]; done) | (rw [iif_f (by omega), iif_f (by omega), iif_f (by omega), iif_f (by omega), iif_t (by omega)]; done) | (rw [iif_f (by omega), iif_f (by omega), iif_f (by omega), iif_f (by omega), iif_f (by omega), iif_t (by omega)]; done) | (rw [iif_f (by omega), iif_f (by omega), iif_f (by omega), iif_f (by omega), iif_f (by omega), iif_f (by omega), iif_t (by omega)]; done) | (rw [iif_f (by omega), iif_f (by omega), iif_f (by omega), iif_f (by omega), iif_f (by omega), iif_f (by omega), iif_f (by omega), iif_t (by omega)]; done) | (rw [iif_f (by omega), iif_f (by omega), iif_f (by omega), iif_f (by omega), iif_f (by omega), iif_f (by omega), iif_f (by omega), iif_f (by omega), iif_t (by omega)]; done) | (rw [iif_f (by omega), iif_f (by omega), iif_f (by omega), iif_f (by omega), iif_f (by omega), iif_f (by omega), iif_f (by omega), iif_f (by omega), iif_f (by omega), iif_t (by omega)]; done) | (rw [iif_f (by omega), iif_f (by omega), iif_f (by omega), iif_f (by omega), iif_f (by omega), iif_f (by omega), iif_f (by omega), iif_f (by omega), iif_f (by omega), iif_f (by omega), iif_t (by omega)]; done) | (rw [iif_f (by omega), iif_f (by omega), iif_f (by omega), iif_f (by omega), iif_f (by omega), iif_f (by omega), iif_f (by omega), iif_f (by omega), iif_f (by omega), iif_f (by omega), iif_f (by omega)]; done) : mS 0 = mCount mF mS what)) hend hP hD hS dX5_count_168
  refine x_tsOut hC 169 dX5_count_6 (by omega) (by omega) (by decide) ?_
  refine x_ldc hC (-1000001) tb_683 (by decide) dX5_count_169 ?_
  exact x_retI (congrArg iI (by unfold mCount; first | (rw [iif_t (by omega)]; done) | (rw [iif_f (by omega), iif_t (by omega)]; done) | (rw [iif_f (by omega), iif_f (by omega), iif_t (by omega)]; done) | (rw [iif_f (by omega), iif_f (by omega), iif_f (by omega), iif_t (by omega)]; done) | (rw [iif_f (by omega), iif_f (by omega), iif_f (by omega), iif_f (by omega), iif_t (by omega)]; done) | (rw [iif_f (by omega), iif_f (by omega), iif_f (by omega), iif_f (by omega), iif_f (by omega), iif_t (by omega)]; done) | (rw [iif_f (by omega), iif_f (by omega), iif_f (by omega), iif_f (by omega), iif_f (by omega), iif_f (by omega), iif_t (by omega)]; done) | (rw [iif_f (by omega), iif_f (by omega), iif_f (by omega), iif_f (by omega), iif_f (by omega), iif_f (by omega), iif_f (by omega), iif_t (by omega)]; done) | (rw [iif_f (by omega), iif_f (by omega), iif_f (by omega), iif_f (by omega), iif_f (by omega), iif_f (by omega), iif_f (by omega), iif_f (by omega), iif_t (by omega)]; done) | (rw [iif_f (by omega), iif_f (by omega), iif_f (by omega), iif_f (by omega), iif_f (by omega), iif_f (by omega), iif_f (by omega), iif_f (by omega), iif_f (by omega), iif_t (by omega)]; done) | (rw [iif_f (by omega), iif_f (by omega), iif_f (by omega), iif_f (by omega), iif_f (by omega), iif_f (by omega), iif_f (by omega), iif_f (by omega), iif_f (by omega), iif_f (by omega), iif_t (by omega)]; done) | (rw [iif_f (by omega), iif_f (by omega), iif_f (by omega), iif_f (by omega), iif_f (by omega), iif_f (by omega), iif_f (by omega), iif_f (by omega), iif_f (by omega), iif_f (by omega), iif_f (by omega)]; done) : (-1000001) = mCount mF mS what)) hend hP hD hS dX5_count_171
abbrev r5_fault : Room := { frames := 8, cells := 0, slots := 0, locals := 193 }
set_option maxHeartbeats 4000000 in
set_option maxRecDepth 100000 in
theorem k5_fault (l : Launch) (D : va_G) (cs : Nat → ClassId) (h : Nat → Nat) (mF : Int → Int) (mS : Int → Int) (mA : Int → Int) (mV : Int → Int) (mT : Int → Int) (mB : Int → Int) (what : Int) (hI : IM mS) (hTT : IT mT) (h6 : 0 ≤ (mF 6) ∧ (mF 6) ≤ 60) (g_what : -2147483648 ≤ what ∧ what ≤ 2147483647) : CI l D cs yX5_fault cX5_fault 3 .int r5_fault 0 0 [.ref (h 0), .int (iI what)] (wM h cs mF mS mA mV mT mB) (wM h cs (iif (0 ≤ what ∧ what ≤ 2) (mRd mT (u1 mF 0 0) mS).1 (u1 mF 0 0)) mS (iif (0 ≤ what ∧ what ≤ 2) (mCopy mS mA) mA) mV mT mB) (iI (iif (0 ≤ what ∧ what ≤ 2) (iif ((mRd mT (u1 mF 0 0) mS).1 14 = 0) (-1000004) (iif (what = 0) ((mRd mT (u1 mF 0 0) mS).1 13) (iif (what = 1) ((mRd mT (u1 mF 0 0) mS).1 14) ((mRd mT (u1 mF 0 0) mS).1 15)))) (-1000001))) := by
  refine CI_start (own := RX5) (by decide) rfl rfl (Nat.le_of_ble_eq_true rfl) ?_
  intro p e s m args below meth c Q A ls hC hl hP hD hA hS hend
  have hl : lv_has ls 3 [(0, .ref (h 0)), (1, .int (iI what))] := hl
  obtain ⟨H, hH⟩ : ∃ H : Heap, H = s.heap := ⟨_, rfl⟩
  have hS : va_S A s.heap H [] := by rw [hH]; exact hS
  rw [← hH] at hP
  obtain ⟨locs, hlocs⟩ : ∃ locs : List Loc, locs = [] := ⟨_, rfl⟩
  rw [← hlocs] at hS
  suffices hgo : W p l e r5_fault s m args below meth c H locs 0 0 Q (F0 m 0 ls []) by rw [← hH, ← hlocs]; exact hgo
  clear hH hlocs
  obtain ⟨z0, z1, -⟩ := id hI
  refine x_al hC hl 0 dX5_fault_0 rfl rfl ?_
  refine x_ic hC dX5_fault_1 ?_
  refine x_put5_0 hC hP hD hS 0 rfl tb_619 dX5_fault_2 (fun H locs hP hD hS => ?_)
  have hP : va_P D vwCl (wM h cs (u1 mF 0 0) mS mA mV mT mB) H := hP
  have hD : va_D A (wM h cs (u1 mF 0 0) mS mA mV mT mB) := hD
  refine x_il hC hl 1 dX5_fault_5 rfl rfl ?_
  refine x_ic hC dX5_fault_6 ?_
  refine x_ic hC dX5_fault_7 ?_
  refine x_sI (As := [.int (iI what), .int (iI 0), .int (iI 2)]) hC (k5_in l D cs what 0 2 (by first | assumption | omega) (by first | assumption | omega) (by first | assumption | omega)) lk5_30 (sub_none hP hD hS hA) hP hS rfl hl.1 rfl (Nat.le_of_ble_eq_true rfl) ⟨rfl, rfl⟩ ⟨Nat.le_of_ble_eq_true rfl, Nat.le_of_ble_eq_true rfl⟩ ⟨Nat.le_of_ble_eq_true rfl, Nat.le_of_ble_eq_true rfl⟩ dX5_fault_8 (fun H locs hP hD hS hHs => ?_)
  refine x_if_ne_b hC 17 dX5_fault_11 (by decide) (fun c_11 => ?_) (fun c_11 => ?_)
  · refine x_al hC hl 0 dX5_fault_17 rfl rfl ?_
    refine x_vV (As := []) hC (k5_putAside l D cs h (u1 mF 0 0) mS mA mV mT mB ) lk5_113 (q0 := 0) (ci := 5) rfl rfl rfl (sub_all hP hD hS hA) hP hS rfl hl.1 rfl (Nat.le_of_ble_eq_true rfl) ⟨rfl, rfl⟩ ⟨Nat.le_of_ble_eq_true rfl, Nat.le_of_ble_eq_true rfl⟩ ⟨Nat.le_of_ble_eq_true rfl, Nat.le_of_ble_eq_true rfl⟩ dX5_fault_18 (fun H locs hP hD hS hHs => ?_)
    have hP : va_P D vwCl (wM h cs (u1 mF 0 0) mS (mCopy mS mA) mV mT mB) H := hP
    have hD : va_D A (wM h cs (u1 mF 0 0) mS (mCopy mS mA) mV mT mB) := hD
    refine x_al hC hl 0 dX5_fault_21 rfl rfl ?_
    refine x_vI (As := []) hC (k5_reads l D cs h (u1 mF 0 0) mS (mCopy mS mA) mV mT mB (by first | assumption | omega) (by first | assumption | omega) (by show 0 ≤ (mF 6) ∧ (mF 6) ≤ 60; first | assumption | omega)) lk5_216 (q0 := 0) (ci := 5) rfl rfl rfl (sub_all hP hD hS hA) hP hS rfl hl.1 rfl (Nat.le_of_ble_eq_true rfl) ⟨rfl, rfl⟩ ⟨Nat.le_of_ble_eq_true rfl, Nat.le_of_ble_eq_true rfl⟩ ⟨Nat.le_of_ble_eq_true rfl, Nat.le_of_ble_eq_true rfl⟩ dX5_fault_22 (fun H locs hP hD hS hHs => ?_)
    have hP : va_P D vwCl (wM h cs ((mRd mT (u1 mF 0 0) mS).1) ((mRd mT (u1 mF 0 0) mS).2) (mCopy mS mA) mV mT mB) H := hP
    have hD : va_D A (wM h cs ((mRd mT (u1 mF 0 0) mS).1) ((mRd mT (u1 mF 0 0) mS).2) (mCopy mS mA) mV mT mB) := hD
    have q_22 := mRd_14 mT (u1 mF 0 0) mS
    refine x_is hC [(2, .int (iI ((mRd mT (u1 mF 0 0) mS).1 14))), (0, .ref (h 0)), (1, .int (iI what))] hl dX5_fault_25 rfl (by decide) rfl (fun ls hl => ?_)
    refine x_al hC hl 1 dX5_fault_26 rfl rfl ?_
    refine x_vV (As := []) hC (k5_takeBack l D cs h ((mRd mT (u1 mF 0 0) mS).1) ((mRd mT (u1 mF 0 0) mS).2) (mCopy mS mA) mV mT mB ) lk5_131 (q0 := 0) (ci := 5) rfl rfl rfl (sub_all hP hD hS hA) hP hS rfl hl.1 rfl (Nat.le_of_ble_eq_true rfl) ⟨rfl, rfl⟩ ⟨Nat.le_of_ble_eq_true rfl, Nat.le_of_ble_eq_true rfl⟩ ⟨Nat.le_of_ble_eq_true rfl, Nat.le_of_ble_eq_true rfl⟩ dX5_fault_27 (fun H locs hP hD hS hHs => ?_)
    have hP : va_P D vwCl (wM h cs ((mRd mT (u1 mF 0 0) mS).1) (mCopy (mCopy mS mA) ((mRd mT (u1 mF 0 0) mS).2)) (mCopy mS mA) mV mT mB) H := hP
    have hD : va_D A (wM h cs ((mRd mT (u1 mF 0 0) mS).1) (mCopy (mCopy mS mA) ((mRd mT (u1 mF 0 0) mS).2)) (mCopy mS mA) mV mT mB) := hD
    have ewz : (wM h cs ((mRd mT (u1 mF 0 0) mS).1) (mCopy (mCopy mS mA) ((mRd mT (u1 mF 0 0) mS).2)) (mCopy mS mA) mV mT mB) = (wM h cs ((mRd mT (u1 mF 0 0) mS).1) mS (mCopy mS mA) mV mT mB) := (wMc rfl (by exact mCopy_back (fun j hj => mRd_out hI hj) : mCopy (mCopy mS mA) ((mRd mT (u1 mF 0 0) mS).2) = mS) rfl rfl rfl rfl)
    have hP := vPe hP ewz
    have hD := vDe hD ewz
    refine x_il hC hl 0 dX5_fault_30 rfl rfl ?_
    refine x_if_ne hC 39 dX5_fault_31 (by decide) (by omega) (fun c_31 => ?_) (fun c_31 => ?_)
    · refine x_il hC hl 2 dX5_fault_39 rfl rfl ?_
      refine x_if_ne hC 50 dX5_fault_40 (by decide) (by omega) (fun c_40 => ?_) (fun c_40 => ?_)
      · refine x_il hC hl 2 dX5_fault_50 rfl rfl ?_
        refine x_ic hC dX5_fault_51 ?_
        refine x_ic_ne hC 59 dX5_fault_52 (by decide) (by omega) (by omega) (fun c_52 => ?_) (fun c_52 => ?_)
        · refine x_al hC hl 1 dX5_fault_59 rfl rfl ?_
          refine x_get5 (v := .int (iI (((mRd mT (u1 mF 0 0) mS).1) 15))) hC hP 0 rfl 15 (by decide) tb_634 rfl rfl dX5_fault_60 ?_
          have ew : (wM h cs ((mRd mT (u1 mF 0 0) mS).1) mS (mCopy mS mA) mV mT mB) = (wM h cs (iif (0 ≤ what ∧ what ≤ 2) (mRd mT (u1 mF 0 0) mS).1 (u1 mF 0 0)) mS (iif (0 ≤ what ∧ what ≤ 2) (mCopy mS mA) mA) mV mT mB) := (wMc (by first | exact (iif_t c_11).symm | exact (iif_f c_11).symm : (mRd mT (u1 mF 0 0) mS).1 = iif (0 ≤ what ∧ what ≤ 2) (mRd mT (u1 mF 0 0) mS).1 (u1 mF 0 0)) rfl (by first | exact (iif_t c_11).symm | exact (iif_f c_11).symm : mCopy mS mA = iif (0 ≤ what ∧ what ≤ 2) (mCopy mS mA) mA) rfl rfl rfl)
          have hP := vPe hP ew
          have hD := vDe hD ew
          exact x_retI (congrArg iI (by rw [iif_t c_11]; first | exact (iif_t c_31).symm | (rw [iif_f c_31]; first | exact (iif_t c_40).symm | (rw [iif_f c_40]; first | exact (iif_t c_52).symm | exact (iif_f c_52).symm)) : ((mRd mT (u1 mF 0 0) mS).1) 15 = iif (0 ≤ what ∧ what ≤ 2) (iif ((mRd mT (u1 mF 0 0) mS).1 14 = 0) (-1000004) (iif (what = 0) ((mRd mT (u1 mF 0 0) mS).1 13) (iif (what = 1) ((mRd mT (u1 mF 0 0) mS).1 14) ((mRd mT (u1 mF 0 0) mS).1 15)))) (-1000001))) hend hP hD hS dX5_fault_63
        · refine x_il hC hl 0 dX5_fault_55 rfl rfl ?_
          refine x_goto hC 63 dX5_fault_56 (by decide) ?_
          have ew_2 : (wM h cs ((mRd mT (u1 mF 0 0) mS).1) mS (mCopy mS mA) mV mT mB) = (wM h cs (iif (0 ≤ what ∧ what ≤ 2) (mRd mT (u1 mF 0 0) mS).1 (u1 mF 0 0)) mS (iif (0 ≤ what ∧ what ≤ 2) (mCopy mS mA) mA) mV mT mB) := (wMc (by first | exact (iif_t c_11).symm | exact (iif_f c_11).symm : (mRd mT (u1 mF 0 0) mS).1 = iif (0 ≤ what ∧ what ≤ 2) (mRd mT (u1 mF 0 0) mS).1 (u1 mF 0 0)) rfl (by first | exact (iif_t c_11).symm | exact (iif_f c_11).symm : mCopy mS mA = iif (0 ≤ what ∧ what ≤ 2) (mCopy mS mA) mA) rfl rfl rfl)
          have hP := vPe hP ew_2
          have hD := vDe hD ew_2
          exact x_retI (congrArg iI (by rw [iif_t c_11]; first | exact (iif_t c_31).symm | (rw [iif_f c_31]; first | exact (iif_t c_40).symm | (rw [iif_f c_40]; first | exact (iif_t c_52).symm | exact (iif_f c_52).symm)) : (mRd mT (u1 mF 0 0) mS).1 14 = iif (0 ≤ what ∧ what ≤ 2) (iif ((mRd mT (u1 mF 0 0) mS).1 14 = 0) (-1000004) (iif (what = 0) ((mRd mT (u1 mF 0 0) mS).1 13) (iif (what = 1) ((mRd mT (u1 mF 0 0) mS).1 14) ((mRd mT (u1 mF 0 0) mS).1 15)))) (-1000001))) hend hP hD hS dX5_fault_63
      · refine x_al hC hl 1 dX5_fault_43 rfl rfl ?_
        refine x_get5 (v := .int (iI (((mRd mT (u1 mF 0 0) mS).1) 13))) hC hP 0 rfl 13 (by decide) tb_632 rfl rfl dX5_fault_44 ?_
        refine x_goto hC 63 dX5_fault_47 (by decide) ?_
        have ew_3 : (wM h cs ((mRd mT (u1 mF 0 0) mS).1) mS (mCopy mS mA) mV mT mB) = (wM h cs (iif (0 ≤ what ∧ what ≤ 2) (mRd mT (u1 mF 0 0) mS).1 (u1 mF 0 0)) mS (iif (0 ≤ what ∧ what ≤ 2) (mCopy mS mA) mA) mV mT mB) := (wMc (by first | exact (iif_t c_11).symm | exact (iif_f c_11).symm : (mRd mT (u1 mF 0 0) mS).1 = iif (0 ≤ what ∧ what ≤ 2) (mRd mT (u1 mF 0 0) mS).1 (u1 mF 0 0)) rfl (by first | exact (iif_t c_11).symm | exact (iif_f c_11).symm : mCopy mS mA = iif (0 ≤ what ∧ what ≤ 2) (mCopy mS mA) mA) rfl rfl rfl)
        have hP := vPe hP ew_3
        have hD := vDe hD ew_3
        exact x_retI (congrArg iI (by rw [iif_t c_11]; first | exact (iif_t c_31).symm | (rw [iif_f c_31]; first | exact (iif_t c_40).symm | (rw [iif_f c_40]; first | exact (iif_t c_52).symm | exact (iif_f c_52).symm)) : ((mRd mT (u1 mF 0 0) mS).1) 13 = iif (0 ≤ what ∧ what ≤ 2) (iif ((mRd mT (u1 mF 0 0) mS).1 14 = 0) (-1000004) (iif (what = 0) ((mRd mT (u1 mF 0 0) mS).1 13) (iif (what = 1) ((mRd mT (u1 mF 0 0) mS).1 14) ((mRd mT (u1 mF 0 0) mS).1 15)))) (-1000001))) hend hP hD hS dX5_fault_63
    · refine x_ldc hC (-1000004) tb_836 (by decide) dX5_fault_34 ?_
      refine x_goto hC 63 dX5_fault_36 (by decide) ?_
      have ew_4 : (wM h cs ((mRd mT (u1 mF 0 0) mS).1) mS (mCopy mS mA) mV mT mB) = (wM h cs (iif (0 ≤ what ∧ what ≤ 2) (mRd mT (u1 mF 0 0) mS).1 (u1 mF 0 0)) mS (iif (0 ≤ what ∧ what ≤ 2) (mCopy mS mA) mA) mV mT mB) := (wMc (by first | exact (iif_t c_11).symm | exact (iif_f c_11).symm : (mRd mT (u1 mF 0 0) mS).1 = iif (0 ≤ what ∧ what ≤ 2) (mRd mT (u1 mF 0 0) mS).1 (u1 mF 0 0)) rfl (by first | exact (iif_t c_11).symm | exact (iif_f c_11).symm : mCopy mS mA = iif (0 ≤ what ∧ what ≤ 2) (mCopy mS mA) mA) rfl rfl rfl)
      have hP := vPe hP ew_4
      have hD := vDe hD ew_4
      exact x_retI (congrArg iI (by rw [iif_t c_11]; first | exact (iif_t c_31).symm | (rw [iif_f c_31]; first | exact (iif_t c_40).symm | (rw [iif_f c_40]; first | exact (iif_t c_52).symm | exact (iif_f c_52).symm)) : (-1000004) = iif (0 ≤ what ∧ what ≤ 2) (iif ((mRd mT (u1 mF 0 0) mS).1 14 = 0) (-1000004) (iif (what = 0) ((mRd mT (u1 mF 0 0) mS).1 13) (iif (what = 1) ((mRd mT (u1 mF 0 0) mS).1 14) ((mRd mT (u1 mF 0 0) mS).1 15)))) (-1000001))) hend hP hD hS dX5_fault_63
  · refine x_ldc hC (-1000001) tb_683 (by decide) dX5_fault_14 ?_
    have ew_5 : (wM h cs (u1 mF 0 0) mS mA mV mT mB) = (wM h cs (iif (0 ≤ what ∧ what ≤ 2) (mRd mT (u1 mF 0 0) mS).1 (u1 mF 0 0)) mS (iif (0 ≤ what ∧ what ≤ 2) (mCopy mS mA) mA) mV mT mB) := (wMc (by first | exact (iif_t c_11).symm | exact (iif_f c_11).symm : u1 mF 0 0 = iif (0 ≤ what ∧ what ≤ 2) (mRd mT (u1 mF 0 0) mS).1 (u1 mF 0 0)) rfl (by first | exact (iif_t c_11).symm | exact (iif_f c_11).symm : mA = iif (0 ≤ what ∧ what ≤ 2) (mCopy mS mA) mA) rfl rfl rfl)
    have hP := vPe hP ew_5
    have hD := vDe hD ew_5
    exact x_retI (congrArg iI (by exact (iif_f c_11).symm : (-1000001) = iif (0 ≤ what ∧ what ≤ 2) (iif ((mRd mT (u1 mF 0 0) mS).1 14 = 0) (-1000004) (iif (what = 0) ((mRd mT (u1 mF 0 0) mS).1 13) (iif (what = 1) ((mRd mT (u1 mF 0 0) mS).1 14) ((mRd mT (u1 mF 0 0) mS).1 15)))) (-1000001))) hend hP hD hS dX5_fault_16
abbrev r5_play : Room := { frames := 8, cells := 0, slots := 0, locals := 193 }
set_option maxHeartbeats 4000000 in
set_option maxRecDepth 100000 in
theorem k5_play (l : Launch) (D : va_G) (cs : Nat → ClassId) (h : Nat → Nat) (mF : Int → Int) (mS : Int → Int) (mA : Int → Int) (mV : Int → Int) (mT : Int → Int) (mB : Int → Int) (hI : IM mS) (h4 : 0 ≤ (mF 4) ∧ (mF 4) ≤ 4) (hTT : IT mT) (h6 : 0 ≤ (mF 6) ∧ (mF 6) ≤ 60) : CI l D cs yX5_play cX5_play 2 .int r5_play 0 0 [.ref (h 0)] (wM h cs mF mS mA mV mT mB) (wM h cs (iif ((mRd mT (u1 mF 0 0) mS).1 14 = 0) (mRd mT (mRecF (mRd mT (u1 mF 0 0) mS).1) mS).1 (mRd mT (u1 mF 0 0) mS).1) (iif ((mRd mT (u1 mF 0 0) mS).1 14 = 0) (mRd mT (mRecF (mRd mT (u1 mF 0 0) mS).1) mS).2 mS) (mCopy mS mA) (iif ((mRd mT (u1 mF 0 0) mS).1 14 = 0) (mRecV (mRd mT (u1 mF 0 0) mS).1 mS mV) mV) mT mB) (iI (iif ((mRd mT (u1 mF 0 0) mS).1 14 = 0) ((mRd mT (mRecF (mRd mT (u1 mF 0 0) mS).1) mS).1 16) (-1000002))) := by
  refine CI_start (own := RX5) (by decide) rfl rfl (Nat.le_of_ble_eq_true rfl) ?_
  intro p e s m args below meth c Q A ls hC hl hP hD hA hS hend
  have hl : lv_has ls 2 [(0, .ref (h 0))] := hl
  obtain ⟨H, hH⟩ : ∃ H : Heap, H = s.heap := ⟨_, rfl⟩
  have hS : va_S A s.heap H [] := by rw [hH]; exact hS
  rw [← hH] at hP
  obtain ⟨locs, hlocs⟩ : ∃ locs : List Loc, locs = [] := ⟨_, rfl⟩
  rw [← hlocs] at hS
  suffices hgo : W p l e r5_play s m args below meth c H locs 0 0 Q (F0 m 0 ls []) by rw [← hH, ← hlocs]; exact hgo
  clear hH hlocs
  obtain ⟨z0, z1, -⟩ := id hI
  refine x_al hC hl 0 dX5_play_0 rfl rfl ?_
  refine x_ic hC dX5_play_1 ?_
  refine x_put5_0 hC hP hD hS 0 rfl tb_619 dX5_play_2 (fun H locs hP hD hS => ?_)
  have hP : va_P D vwCl (wM h cs (u1 mF 0 0) mS mA mV mT mB) H := hP
  have hD : va_D A (wM h cs (u1 mF 0 0) mS mA mV mT mB) := hD
  refine x_al hC hl 0 dX5_play_5 rfl rfl ?_
  refine x_vV (As := []) hC (k5_putAside l D cs h (u1 mF 0 0) mS mA mV mT mB ) lk5_113 (q0 := 0) (ci := 5) rfl rfl rfl (sub_all hP hD hS hA) hP hS rfl hl.1 rfl (Nat.le_of_ble_eq_true rfl) ⟨rfl, rfl⟩ ⟨Nat.le_of_ble_eq_true rfl, Nat.le_of_ble_eq_true rfl⟩ ⟨Nat.le_of_ble_eq_true rfl, Nat.le_of_ble_eq_true rfl⟩ dX5_play_6 (fun H locs hP hD hS hHs => ?_)
  have hP : va_P D vwCl (wM h cs (u1 mF 0 0) mS (mCopy mS mA) mV mT mB) H := hP
  have hD : va_D A (wM h cs (u1 mF 0 0) mS (mCopy mS mA) mV mT mB) := hD
  refine x_al hC hl 0 dX5_play_9 rfl rfl ?_
  refine x_vI (As := []) hC (k5_reads l D cs h (u1 mF 0 0) mS (mCopy mS mA) mV mT mB (by first | assumption | omega) (by first | assumption | omega) (by show 0 ≤ (mF 6) ∧ (mF 6) ≤ 60; first | assumption | omega)) lk5_216 (q0 := 0) (ci := 5) rfl rfl rfl (sub_all hP hD hS hA) hP hS rfl hl.1 rfl (Nat.le_of_ble_eq_true rfl) ⟨rfl, rfl⟩ ⟨Nat.le_of_ble_eq_true rfl, Nat.le_of_ble_eq_true rfl⟩ ⟨Nat.le_of_ble_eq_true rfl, Nat.le_of_ble_eq_true rfl⟩ dX5_play_10 (fun H locs hP hD hS hHs => ?_)
  have hP : va_P D vwCl (wM h cs ((mRd mT (u1 mF 0 0) mS).1) ((mRd mT (u1 mF 0 0) mS).2) (mCopy mS mA) mV mT mB) H := hP
  have hD : va_D A (wM h cs ((mRd mT (u1 mF 0 0) mS).1) ((mRd mT (u1 mF 0 0) mS).2) (mCopy mS mA) mV mT mB) := hD
  have q_10 := mRd_14 mT (u1 mF 0 0) mS
  refine x_is hC [(1, .int (iI ((mRd mT (u1 mF 0 0) mS).1 14))), (0, .ref (h 0))] hl dX5_play_13 rfl (by decide) rfl (fun ls hl => ?_)
  refine x_al hC hl 1 dX5_play_14 rfl rfl ?_
  refine x_vV (As := []) hC (k5_takeBack l D cs h ((mRd mT (u1 mF 0 0) mS).1) ((mRd mT (u1 mF 0 0) mS).2) (mCopy mS mA) mV mT mB ) lk5_131 (q0 := 0) (ci := 5) rfl rfl rfl (sub_all hP hD hS hA) hP hS rfl hl.1 rfl (Nat.le_of_ble_eq_true rfl) ⟨rfl, rfl⟩ ⟨Nat.le_of_ble_eq_true rfl, Nat.le_of_ble_eq_true rfl⟩ ⟨Nat.le_of_ble_eq_true rfl, Nat.le_of_ble_eq_true rfl⟩ dX5_play_15 (fun H locs hP hD hS hHs => ?_)
  have hP : va_P D vwCl (wM h cs ((mRd mT (u1 mF 0 0) mS).1) (mCopy (mCopy mS mA) ((mRd mT (u1 mF 0 0) mS).2)) (mCopy mS mA) mV mT mB) H := hP
  have hD : va_D A (wM h cs ((mRd mT (u1 mF 0 0) mS).1) (mCopy (mCopy mS mA) ((mRd mT (u1 mF 0 0) mS).2)) (mCopy mS mA) mV mT mB) := hD
  have ewz : (wM h cs ((mRd mT (u1 mF 0 0) mS).1) (mCopy (mCopy mS mA) ((mRd mT (u1 mF 0 0) mS).2)) (mCopy mS mA) mV mT mB) = (wM h cs ((mRd mT (u1 mF 0 0) mS).1) mS (mCopy mS mA) mV mT mB) := (wMc rfl (by exact mCopy_back (fun j hj => mRd_out hI hj) : mCopy (mCopy mS mA) ((mRd mT (u1 mF 0 0) mS).2) = mS) rfl rfl rfl rfl)
  have hP := vPe hP ewz
  have hD := vDe hD ewz
  refine x_il hC hl 0 dX5_play_18 rfl rfl ?_
  refine x_if_eq hC 25 dX5_play_19 (by decide) (by omega) (fun c_19 => ?_) (fun c_19 => ?_)
  · have h4b : 0 ≤ (((mRd mT (u1 mF 0 0) mS).1)) 4 ∧ (((mRd mT (u1 mF 0 0) mS).1)) 4 ≤ 4 := by rw [mRd_k _ _ _ (by omega)]; exact h4
    refine x_al hC hl 1 dX5_play_25 rfl rfl ?_
    refine x_vV (As := []) hC (k5_records l D cs h ((mRd mT (u1 mF 0 0) mS).1) mS (mCopy mS mA) mV mT mB (by show 0 ≤ (((mRd mT (u1 mF 0 0) mS).1) 4) ∧ (((mRd mT (u1 mF 0 0) mS).1) 4) ≤ 4; first | assumption | omega)) lk5_81 (q0 := 0) (ci := 5) rfl rfl rfl (sub_all hP hD hS hA) hP hS rfl hl.1 rfl (Nat.le_of_ble_eq_true rfl) ⟨rfl, rfl⟩ ⟨Nat.le_of_ble_eq_true rfl, Nat.le_of_ble_eq_true rfl⟩ ⟨Nat.le_of_ble_eq_true rfl, Nat.le_of_ble_eq_true rfl⟩ dX5_play_26 (fun H locs hP hD hS hHs => ?_)
    have hP : va_P D vwCl (wM h cs (mRecF ((mRd mT (u1 mF 0 0) mS).1)) mS (mCopy mS mA) (mRecV ((mRd mT (u1 mF 0 0) mS).1) mS mV) mT mB) H := hP
    have hD : va_D A (wM h cs (mRecF ((mRd mT (u1 mF 0 0) mS).1)) mS (mCopy mS mA) (mRecV ((mRd mT (u1 mF 0 0) mS).1) mS mV) mT mB) := hD
    have h6b : 0 ≤ ((mRecF ((mRd mT (u1 mF 0 0) mS).1))) 6 ∧ ((mRecF ((mRd mT (u1 mF 0 0) mS).1))) 6 ≤ 60 := by rw [mRecF_k _ (by omega), mRd_k _ _ _ (by omega)]; exact h6
    refine x_al hC hl 1 dX5_play_29 rfl rfl ?_
    refine x_vI (As := []) hC (k5_reads l D cs h (mRecF ((mRd mT (u1 mF 0 0) mS).1)) mS (mCopy mS mA) (mRecV ((mRd mT (u1 mF 0 0) mS).1) mS mV) mT mB (by first | assumption | omega) (by first | assumption | omega) (by show 0 ≤ ((mRecF ((mRd mT (u1 mF 0 0) mS).1)) 6) ∧ ((mRecF ((mRd mT (u1 mF 0 0) mS).1)) 6) ≤ 60; first | assumption | omega)) lk5_216 (q0 := 0) (ci := 5) rfl rfl rfl (sub_all hP hD hS hA) hP hS rfl hl.1 rfl (Nat.le_of_ble_eq_true rfl) ⟨rfl, rfl⟩ ⟨Nat.le_of_ble_eq_true rfl, Nat.le_of_ble_eq_true rfl⟩ ⟨Nat.le_of_ble_eq_true rfl, Nat.le_of_ble_eq_true rfl⟩ dX5_play_30 (fun H locs hP hD hS hHs => ?_)
    have hP : va_P D vwCl (wM h cs ((mRd mT (mRecF ((mRd mT (u1 mF 0 0) mS).1)) mS).1) ((mRd mT (mRecF ((mRd mT (u1 mF 0 0) mS).1)) mS).2) (mCopy mS mA) (mRecV ((mRd mT (u1 mF 0 0) mS).1) mS mV) mT mB) H := hP
    have hD : va_D A (wM h cs ((mRd mT (mRecF ((mRd mT (u1 mF 0 0) mS).1)) mS).1) ((mRd mT (mRecF ((mRd mT (u1 mF 0 0) mS).1)) mS).2) (mCopy mS mA) (mRecV ((mRd mT (u1 mF 0 0) mS).1) mS mV) mT mB) := hD
    have q_30 := mRd_14 mT (mRecF ((mRd mT (u1 mF 0 0) mS).1)) mS
    refine x_pop hC dX5_play_33 rfl ?_
    refine x_al hC hl 1 dX5_play_34 rfl rfl ?_
    refine x_get5 (v := .int (iI (((mRd mT (mRecF ((mRd mT (u1 mF 0 0) mS).1)) mS).1) 16))) hC hP 0 rfl 16 (by decide) tb_635 rfl rfl dX5_play_35 ?_
    have ew : (wM h cs ((mRd mT (mRecF ((mRd mT (u1 mF 0 0) mS).1)) mS).1) ((mRd mT (mRecF ((mRd mT (u1 mF 0 0) mS).1)) mS).2) (mCopy mS mA) (mRecV ((mRd mT (u1 mF 0 0) mS).1) mS mV) mT mB) = (wM h cs (iif ((mRd mT (u1 mF 0 0) mS).1 14 = 0) (mRd mT (mRecF (mRd mT (u1 mF 0 0) mS).1) mS).1 (mRd mT (u1 mF 0 0) mS).1) (iif ((mRd mT (u1 mF 0 0) mS).1 14 = 0) (mRd mT (mRecF (mRd mT (u1 mF 0 0) mS).1) mS).2 mS) (mCopy mS mA) (iif ((mRd mT (u1 mF 0 0) mS).1 14 = 0) (mRecV (mRd mT (u1 mF 0 0) mS).1 mS mV) mV) mT mB) := (wMc (by first | exact (iif_t c_19).symm | exact (iif_f c_19).symm : (mRd mT (mRecF ((mRd mT (u1 mF 0 0) mS).1)) mS).1 = iif ((mRd mT (u1 mF 0 0) mS).1 14 = 0) (mRd mT (mRecF (mRd mT (u1 mF 0 0) mS).1) mS).1 (mRd mT (u1 mF 0 0) mS).1) (by first | exact (iif_t c_19).symm | exact (iif_f c_19).symm : (mRd mT (mRecF ((mRd mT (u1 mF 0 0) mS).1)) mS).2 = iif ((mRd mT (u1 mF 0 0) mS).1 14 = 0) (mRd mT (mRecF (mRd mT (u1 mF 0 0) mS).1) mS).2 mS) rfl (by first | exact (iif_t c_19).symm | exact (iif_f c_19).symm : mRecV ((mRd mT (u1 mF 0 0) mS).1) mS mV = iif ((mRd mT (u1 mF 0 0) mS).1 14 = 0) (mRecV (mRd mT (u1 mF 0 0) mS).1 mS mV) mV) rfl rfl)
    have hP := vPe hP ew
    have hD := vDe hD ew
    exact x_retI (congrArg iI (by first | exact (iif_t c_19).symm | exact (iif_f c_19).symm : ((mRd mT (mRecF ((mRd mT (u1 mF 0 0) mS).1)) mS).1) 16 = iif ((mRd mT (u1 mF 0 0) mS).1 14 = 0) ((mRd mT (mRecF (mRd mT (u1 mF 0 0) mS).1) mS).1 16) (-1000002))) hend hP hD hS dX5_play_38
  · refine x_ldc hC (-1000002) tb_720 (by decide) dX5_play_22 ?_
    have ew_2 : (wM h cs ((mRd mT (u1 mF 0 0) mS).1) mS (mCopy mS mA) mV mT mB) = (wM h cs (iif ((mRd mT (u1 mF 0 0) mS).1 14 = 0) (mRd mT (mRecF (mRd mT (u1 mF 0 0) mS).1) mS).1 (mRd mT (u1 mF 0 0) mS).1) (iif ((mRd mT (u1 mF 0 0) mS).1 14 = 0) (mRd mT (mRecF (mRd mT (u1 mF 0 0) mS).1) mS).2 mS) (mCopy mS mA) (iif ((mRd mT (u1 mF 0 0) mS).1 14 = 0) (mRecV (mRd mT (u1 mF 0 0) mS).1 mS mV) mV) mT mB) := (wMc (by first | exact (iif_t c_19).symm | exact (iif_f c_19).symm : (mRd mT (u1 mF 0 0) mS).1 = iif ((mRd mT (u1 mF 0 0) mS).1 14 = 0) (mRd mT (mRecF (mRd mT (u1 mF 0 0) mS).1) mS).1 (mRd mT (u1 mF 0 0) mS).1) (by first | exact (iif_t c_19).symm | exact (iif_f c_19).symm : mS = iif ((mRd mT (u1 mF 0 0) mS).1 14 = 0) (mRd mT (mRecF (mRd mT (u1 mF 0 0) mS).1) mS).2 mS) rfl (by first | exact (iif_t c_19).symm | exact (iif_f c_19).symm : mV = iif ((mRd mT (u1 mF 0 0) mS).1 14 = 0) (mRecV (mRd mT (u1 mF 0 0) mS).1 mS mV) mV) rfl rfl)
    have hP := vPe hP ew_2
    have hD := vDe hD ew_2
    exact x_retI (congrArg iI (by first | exact (iif_t c_19).symm | exact (iif_f c_19).symm : (-1000002) = iif ((mRd mT (u1 mF 0 0) mS).1 14 = 0) ((mRd mT (mRecF (mRd mT (u1 mF 0 0) mS).1) mS).1 16) (-1000002))) hend hP hD hS dX5_play_24
