theorem lk5_81 : LkV RX5 81 yX5_records cX5_records 2 none 0 := ⟨tb_725, tb_722, tb_724, tb_38, tb_76, by decide +kernel⟩
theorem lk5_106 : LkV RX5 106 yX5_talksIn cX5_talksIn 4 (some .int) 1 := ⟨tb_776, tb_773, tb_775, tb_46, tb_76, by decide +kernel⟩
theorem lk5_109 : LkV RX5 109 yX5_openMany cX5_openMany 3 (some .int) 0 := ⟨tb_780, tb_777, tb_779, tb_47, tb_76, by decide +kernel⟩
theorem lk5_137 : LkV RX5 137 yX5_instead cX5_instead 4 (some .int) 1 := ⟨tb_816, tb_813, tb_815, tb_53, tb_76, by decide +kernel⟩
theorem lk5_140 : LkV RX5 140 yX5_beside cX5_beside 5 (some .int) 1 := ⟨tb_820, tb_817, tb_819, tb_54, tb_76, by decide +kernel⟩
theorem lk5_146 : LkS RX5 146 yX5_ones cX5_ones 3 (some .int) 1 := ⟨tb_827, tb_825, tb_826, tb_76, by decide +kernel⟩
theorem lk5_149 : LkV RX5 149 yX5_longestFree cX5_longestFree 5 (some .int) 1 := ⟨tb_831, tb_828, tb_830, tb_55, tb_76, by decide +kernel⟩
theorem lk5_155 : LkV RX5 155 yX5_freeAt cX5_freeAt 4 (some .int) 1 := ⟨tb_852, tb_849, tb_851, tb_58, tb_76, by decide +kernel⟩
/-! the reference's calls -/
theorem mskI_rg (p : Int → Prop) (n : Int) : True := trivial
theorem mRd_out {T F S : Int → Int} (hI : IM S) {j : Int} (hj : j < 0 ∨ 109 ≤ j) : (mRd T F S).2 j = S j := mReads_out hj 62 _ _ hI
theorem mRd_IM {T F S : Int → Int} (hI : IM S) : IM (mRd T F S).2 := mReads_IM 62 _ _ hI
def mTake (S V : Int → Int) (n : Int) : Int → Int := fI (fun k s => u1 s k (V (109 * n + k))) S 109
noncomputable def mRoomOf (S : Int → Int) (r w : Int) : Int32 := iif (w = 3) (iI (popI (mskI (fun t => S (29 + 4 * t + 3) = r) (S 1)) 20)) (iif (w = 4) (iI (mTaken S r (S 1))) (iif (w = 5) (mskI (fun t => S (29 + 4 * t + 3) = r) (S 1)) (iif (w = 6) (iI (mLong S r 48).1) (iif (0 ≤ w ∧ w ≤ 2) (iI (S (5 + 3 * r + w))) (iI (-1000001))))))
noncomputable def mCount (F S : Int → Int) (w : Int) : Int := iif (w = 0) (mTalks S (S 1)) (iif (w = 1) (S 1) (iif (w = 2) (mOpenN S 8) (iif (w = 3) (S 2) (iif (w = 4) (S 3) (iif (w = 5) (mFew S 48) (iif (w = 6) (mHours S 8) (iif (w = 7) (S 4) (iif (w = 8) (F 4) (iif (w = 9) (F 6) (iif (w = 20) (S 0) (-1000001)))))))))))
noncomputable def mBestS (S : Int → Int) (r : Int) (x : Int × Int) : Int × Int := iif (¬ mPr S r = -1000002 ∧ (x.1 = -1000004 ∨ mPr S r < x.2)) (r, mPr S r) x
noncomputable def mBest (S : Int → Int) (n : Int) : Int × Int := fI (mBestS S) (-1000004, 0) n
theorem mBest_s (S : Int → Int) {i : Int} (h : 0 ≤ i) : mBest S (i + 1) = mBestS S i (mBest S i) := fI_s h
theorem mBest_rg {S : Int → Int} (hI : IM S) {n : Int} (h0 : 0 ≤ n) : -1000004 ≤ (mBest S n).1 ∧ (mBest S n).1 ≤ n ∧ -3000 ≤ (mBest S n).2 ∧ (mBest S n).2 ≤ 3000 := by
  refine fI_ind (fun n (x : Int × Int) => -1000004 ≤ x.1 ∧ x.1 ≤ n ∧ -3000 ≤ x.2 ∧ x.2 ≤ 3000) (by simp) (fun i x hi hin hx => ?_) h0
  have h := mPr_rg hI i
  have h2 : ¬ mPr S i = -1000002 → -3000 ≤ mPr S i := by
    intro c
    have h3 := mAnew_3 (A := mCopy S S) (rule := i) 21 (u1 (fun _ => 0) 10 0) (mNoIn (mShut S 8) 20) (mZero (fun _ => 0) 20) (IM_noin (IM_shut hI (by omega) (by omega)) (by omega) (by omega))
    rw [mNoIn_out _ (by omega) (by omega) (by omega), mShut_out _ (by omega) (by omega) (by omega)] at h3
    have h4 : S 3 - 21 ≤ (mC S i).2.2.1 3 := h3.1
    have h5 : (mC S i).1 := Classical.not_not.mp (fun q => c (h.2.2.mpr q))
    unfold mPr
    rw [iif_t h5]; omega
  unfold mBestS iif
  split
  · rename_i c; have := h2 c.1; dsimp only; omega
  · omega
noncomputable def mEmB (S : Int → Int) (r b : Int) : Int := iif ((¬ mskI (fun t => S (29 + 4 * t + 3) = r) (S 1) = 0 ∧ (mEmp r (S 1 - 0).toNat 0 S).1) ∧ (b = -1000004 ∨ S (5 + 3 * b + 1) < S (5 + 3 * r + 1))) r b
noncomputable def mEm (S : Int → Int) (n : Int) : Int := fI (mEmB S) (-1000004) n
theorem mEm_s (S : Int → Int) {i : Int} (h : 0 ≤ i) : mEm S (i + 1) = mEmB S i (mEm S i) := fI_s h
theorem mEm_rg (S : Int → Int) {n : Int} (h0 : 0 ≤ n) : mEm S n = -1000004 ∨ (0 ≤ mEm S n ∧ mEm S n < n) := by
  refine fI_ind (fun n x => x = -1000004 ∨ (0 ≤ x ∧ x < n)) (Or.inl rfl) (fun i x hi hin hx => ?_) h0
  unfold mEmB iif
  split <;> omega
theorem mZ2 {A : Int → Int} {F : Int → Int} : True := trivial

abbrev r5_talk : Room := { frames := 5, cells := 0, slots := 0, locals := 123 }
set_option maxHeartbeats 4000000 in
set_option maxRecDepth 100000 in
theorem k5_talk (l : Launch) (D : va_G) (cs : Nat → ClassId) (h : Nat → Nat) (mF : Int → Int) (mS : Int → Int) (mA : Int → Int) (mV : Int → Int) (mT : Int → Int) (mB : Int → Int) (first : Int) (en : Int) (size : Int) (hI : IM mS) (h4 : 0 ≤ (mF 4) ∧ (mF 4) ≤ 4) (g_first : -2147483648 ≤ first ∧ first ≤ 2147483647) (g_en : -2147483648 ≤ en ∧ en ≤ 2147483647) (g_size : -2147483648 ≤ size ∧ size ≤ 2147483647) : CI l D cs yX5_talk cX5_talk 5 .int r5_talk 0 0 [.ref (h 0), .int (iI first), .int (iI en), .int (iI size)] (wM h cs mF mS mA mV mT mB) (wM h cs (iif (mRefT mS first en size = 0) (mRecF (u1 mF 0 0)) (u1 mF 0 0)) (iif (mRefT mS first en size = 0) (mTells mS first en size) mS) mA (iif (mRefT mS first en size = 0) (mRecV (u1 mF 0 0) mS mV) mV) mT mB) (iI (iif (mRefT mS first en size = 0) (mGets mS first en size (mS 0)) (mRefT mS first en size))) := by
  refine CI_start (own := RX5) (by decide) rfl rfl (Nat.le_of_ble_eq_true rfl) ?_
  intro p e s m args below meth c Q A ls hC hl hP hD hA hS hend
  have hl : lv_has ls 5 [(0, .ref (h 0)), (1, .int (iI first)), (2, .int (iI en)), (3, .int (iI size))] := hl
  obtain ⟨H, hH⟩ : ∃ H : Heap, H = s.heap := ⟨_, rfl⟩
  have hS : va_S A s.heap H [] := by rw [hH]; exact hS
  rw [← hH] at hP
  obtain ⟨locs, hlocs⟩ : ∃ locs : List Loc, locs = [] := ⟨_, rfl⟩
  rw [← hlocs] at hS
  suffices hgo : W p l e r5_talk s m args below meth c H locs 0 0 Q (F0 m 0 ls []) by rw [← hH, ← hlocs]; exact hgo
  clear hH hlocs
  obtain ⟨z0, z1, -⟩ := id hI
  have qr := mRefT_rg mS first en size
  refine x_al hC hl 0 dX5_talk_0 rfl rfl ?_
  refine x_ic hC dX5_talk_1 ?_
  refine x_put5_0 hC hP hD hS 0 rfl tb_619 dX5_talk_2 (fun H locs hP hD hS => ?_)
  have hP : va_P D vwCl (wM h cs (u1 mF 0 0) mS mA mV mT mB) H := hP
  have hD : va_D A (wM h cs (u1 mF 0 0) mS mA mV mT mB) := hD
  refine x_al hC hl 0 dX5_talk_5 rfl rfl ?_
  refine x_il hC hl 1 dX5_talk_6 rfl rfl ?_
  refine x_il hC hl 2 dX5_talk_7 rfl rfl ?_
  refine x_il hC hl 3 dX5_talk_8 rfl rfl ?_
  refine x_vI (As := [.int (iI first), .int (iI en), .int (iI size)]) hC (k5_refusesTalk l D cs h (u1 mF 0 0) mS mA mV mT mB first en size (by first | assumption | omega) (by first | assumption | omega) (by first | assumption | omega) (by first | assumption | omega)) lk5_78 (q0 := 0) (ci := 5) rfl rfl rfl (sub_all hP hD hS hA) hP hS rfl hl.1 rfl (Nat.le_of_ble_eq_true rfl) ⟨rfl, rfl⟩ ⟨Nat.le_of_ble_eq_true rfl, Nat.le_of_ble_eq_true rfl⟩ ⟨Nat.le_of_ble_eq_true rfl, Nat.le_of_ble_eq_true rfl⟩ dX5_talk_9 (fun H locs hP hD hS hHs => ?_)
  refine x_isw hC [(4, .int (iI (mRefT mS first en size))), (0, .ref (h 0)), (1, .int (iI first)), (2, .int (iI en)), (3, .int (iI size))] hl dX5_talk_12 (by decide) rfl (fun ls hl => ?_)
  refine x_ilw hC hl 0 dX5_talk_14 rfl ?_
  refine x_if_eq hC 22 dX5_talk_16 (by decide) (by omega) (fun c_16 => ?_) (fun c_16 => ?_)
  · have hz := mRefT_0 (by assumption)
    refine x_al hC hl 1 dX5_talk_22 rfl rfl ?_
    refine x_vV (As := []) hC (k5_records l D cs h (u1 mF 0 0) mS mA mV mT mB (by show 0 ≤ (mF 4) ∧ (mF 4) ≤ 4; first | assumption | omega)) lk5_81 (q0 := 0) (ci := 5) rfl rfl rfl (sub_all hP hD hS hA) hP hS rfl hl.1 rfl (Nat.le_of_ble_eq_true rfl) ⟨rfl, rfl⟩ ⟨Nat.le_of_ble_eq_true rfl, Nat.le_of_ble_eq_true rfl⟩ ⟨Nat.le_of_ble_eq_true rfl, Nat.le_of_ble_eq_true rfl⟩ dX5_talk_23 (fun H locs hP hD hS hHs => ?_)
    have hP : va_P D vwCl (wM h cs (mRecF (u1 mF 0 0)) mS mA (mRecV (u1 mF 0 0) mS mV) mT mB) H := hP
    have hD : va_D A (wM h cs (mRecF (u1 mF 0 0)) mS mA (mRecV (u1 mF 0 0) mS mV) mT mB) := hD
    refine x_al hC hl 1 dX5_talk_26 rfl rfl ?_
    refine x_il hC hl 2 dX5_talk_27 rfl rfl ?_
    refine x_il hC hl 3 dX5_talk_28 rfl rfl ?_
    refine x_il hC hl 4 dX5_talk_29 rfl rfl ?_
    refine x_vI (As := [.int (iI first), .int (iI en), .int (iI size)]) hC (k5_tells l D cs h (mRecF (u1 mF 0 0)) mS mA (mRecV (u1 mF 0 0) mS mV) mT mB first en size (by first | assumption | omega) (by first | assumption | omega) (by first | assumption | omega) (by first | assumption | omega) (by first | assumption | omega) (by first | assumption | omega)) lk5_84 (q0 := 0) (ci := 5) rfl rfl rfl (sub_all hP hD hS hA) hP hS rfl hl.1 rfl (Nat.le_of_ble_eq_true rfl) ⟨rfl, rfl⟩ ⟨Nat.le_of_ble_eq_true rfl, Nat.le_of_ble_eq_true rfl⟩ ⟨Nat.le_of_ble_eq_true rfl, Nat.le_of_ble_eq_true rfl⟩ dX5_talk_30 (fun H locs hP hD hS hHs => ?_)
    have hP : va_P D vwCl (wM h cs (mRecF (u1 mF 0 0)) (mTells mS first en size) mA (mRecV (u1 mF 0 0) mS mV) mT mB) H := hP
    have hD : va_D A (wM h cs (mRecF (u1 mF 0 0)) (mTells mS first en size) mA (mRecV (u1 mF 0 0) mS mV) mT mB) := hD
    have ew : (wM h cs (mRecF (u1 mF 0 0)) (mTells mS first en size) mA (mRecV (u1 mF 0 0) mS mV) mT mB) = (wM h cs (iif (mRefT mS first en size = 0) (mRecF (u1 mF 0 0)) (u1 mF 0 0)) (iif (mRefT mS first en size = 0) (mTells mS first en size) mS) mA (iif (mRefT mS first en size = 0) (mRecV (u1 mF 0 0) mS mV) mV) mT mB) := (wMc (by first | exact (iif_t (by assumption)).symm | exact (iif_f (by assumption)).symm | exact (iif_t (by first | assumption | omega | grind)).symm | exact (iif_f (by first | assumption | omega | grind)).symm : mRecF (u1 mF 0 0) = iif (mRefT mS first en size = 0) (mRecF (u1 mF 0 0)) (u1 mF 0 0)) (by first | exact (iif_t (by assumption)).symm | exact (iif_f (by assumption)).symm | exact (iif_t (by first | assumption | omega | grind)).symm | exact (iif_f (by first | assumption | omega | grind)).symm : mTells mS first en size = iif (mRefT mS first en size = 0) (mTells mS first en size) mS) rfl (by first | exact (iif_t (by assumption)).symm | exact (iif_f (by assumption)).symm | exact (iif_t (by first | assumption | omega | grind)).symm | exact (iif_f (by first | assumption | omega | grind)).symm : mRecV (u1 mF 0 0) mS mV = iif (mRefT mS first en size = 0) (mRecV (u1 mF 0 0) mS mV) mV) rfl rfl)
    have hP := vPe hP ew
    have hD := vDe hD ew
    exact x_retI (congrArg iI (by first | exact (iif_t (by assumption)).symm | exact (iif_f (by assumption)).symm | exact (iif_t (by first | assumption | omega | grind)).symm | exact (iif_f (by first | assumption | omega | grind)).symm : mGets mS first en size (mS 0) = iif (mRefT mS first en size = 0) (mGets mS first en size (mS 0)) (mRefT mS first en size))) hend hP hD hS dX5_talk_33
  · refine x_ilw hC hl 0 dX5_talk_19 rfl ?_
    have ew_2 : (wM h cs (u1 mF 0 0) mS mA mV mT mB) = (wM h cs (iif (mRefT mS first en size = 0) (mRecF (u1 mF 0 0)) (u1 mF 0 0)) (iif (mRefT mS first en size = 0) (mTells mS first en size) mS) mA (iif (mRefT mS first en size = 0) (mRecV (u1 mF 0 0) mS mV) mV) mT mB) := (wMc (by first | exact (iif_t (by assumption)).symm | exact (iif_f (by assumption)).symm | exact (iif_t (by first | assumption | omega | grind)).symm | exact (iif_f (by first | assumption | omega | grind)).symm : u1 mF 0 0 = iif (mRefT mS first en size = 0) (mRecF (u1 mF 0 0)) (u1 mF 0 0)) (by first | exact (iif_t (by assumption)).symm | exact (iif_f (by assumption)).symm | exact (iif_t (by first | assumption | omega | grind)).symm | exact (iif_f (by first | assumption | omega | grind)).symm : mS = iif (mRefT mS first en size = 0) (mTells mS first en size) mS) rfl (by first | exact (iif_t (by assumption)).symm | exact (iif_f (by assumption)).symm | exact (iif_t (by first | assumption | omega | grind)).symm | exact (iif_f (by first | assumption | omega | grind)).symm : mV = iif (mRefT mS first en size = 0) (mRecV (u1 mF 0 0) mS mV) mV) rfl rfl)
    have hP := vPe hP ew_2
    have hD := vDe hD ew_2
    exact x_retI (congrArg iI (by first | exact (iif_t (by assumption)).symm | exact (iif_f (by assumption)).symm | exact (iif_t (by first | assumption | omega | grind)).symm | exact (iif_f (by first | assumption | omega | grind)).symm : mRefT mS first en size = iif (mRefT mS first en size = 0) (mGets mS first en size (mS 0)) (mRefT mS first en size))) hend hP hD hS dX5_talk_21
abbrev r5_withdraw : Room := { frames := 2, cells := 0, slots := 0, locals := 44 }
set_option maxHeartbeats 4000000 in
set_option maxRecDepth 100000 in
theorem k5_withdraw (l : Launch) (D : va_G) (cs : Nat → ClassId) (h : Nat → Nat) (mF : Int → Int) (mS : Int → Int) (mA : Int → Int) (mV : Int → Int) (mT : Int → Int) (mB : Int → Int) (talk : Int) (hI : IM mS) (h4 : 0 ≤ (mF 4) ∧ (mF 4) ≤ 4) (g_talk : -2147483648 ≤ talk ∧ talk ≤ 2147483647) : CI l D cs yX5_withdraw cX5_withdraw 2 .int r5_withdraw 0 0 [.ref (h 0), .int (iI talk)] (wM h cs mF mS mA mV mT mB) (wM h cs (iif (mTalkP mS talk) (mRecF (u1 mF 0 0)) (u1 mF 0 0)) (iif (mTalkP mS talk) (mWith mS talk) mS) mA (iif (mTalkP mS talk) (mRecV (u1 mF 0 0) mS mV) mV) mT mB) (iI (iif (mTalkP mS talk) (mS (29 + 4 * talk + 3)) (-1000001))) := by
  refine CI_start (own := RX5) (by decide) rfl rfl (Nat.le_of_ble_eq_true rfl) ?_
  intro p e s m args below meth c Q A ls hC hl hP hD hA hS hend
  have hl : lv_has ls 2 [(0, .ref (h 0)), (1, .int (iI talk))] := hl
  obtain ⟨H, hH⟩ : ∃ H : Heap, H = s.heap := ⟨_, rfl⟩
  have hS : va_S A s.heap H [] := by rw [hH]; exact hS
  rw [← hH] at hP
  obtain ⟨locs, hlocs⟩ : ∃ locs : List Loc, locs = [] := ⟨_, rfl⟩
  rw [← hlocs] at hS
  suffices hgo : W p l e r5_withdraw s m args below meth c H locs 0 0 Q (F0 m 0 ls []) by rw [← hH, ← hlocs]; exact hgo
  clear hH hlocs
  obtain ⟨z0, z1, -⟩ := id hI
  refine x_al hC hl 0 dX5_withdraw_0 rfl rfl ?_
  refine x_ic hC dX5_withdraw_1 ?_
  refine x_put5_0 hC hP hD hS 0 rfl tb_619 dX5_withdraw_2 (fun H locs hP hD hS => ?_)
  have hP : va_P D vwCl (wM h cs (u1 mF 0 0) mS mA mV mT mB) H := hP
  have hD : va_D A (wM h cs (u1 mF 0 0) mS mA mV mT mB) := hD
  refine x_al hC hl 0 dX5_withdraw_5 rfl rfl ?_
  refine x_il hC hl 1 dX5_withdraw_6 rfl rfl ?_
  refine x_vI (As := [.int (iI talk)]) hC (k5_isTalk l D cs h (u1 mF 0 0) mS mA mV mT mB talk (by first | assumption | omega) (by first | assumption | omega)) lk5_87 (q0 := 0) (ci := 5) rfl rfl rfl (sub_all hP hD hS hA) hP hS rfl hl.1 rfl (Nat.le_of_ble_eq_true rfl) ⟨rfl, rfl⟩ ⟨Nat.le_of_ble_eq_true rfl, Nat.le_of_ble_eq_true rfl⟩ ⟨Nat.le_of_ble_eq_true rfl, Nat.le_of_ble_eq_true rfl⟩ dX5_withdraw_7 (fun H locs hP hD hS hHs => ?_)
  refine x_if_ne_b hC 16 dX5_withdraw_10 (by decide) (fun c_10 => ?_) (fun c_10 => ?_)
  · have hz := (id c_10 : mTalkP mS talk)
    unfold mTalkP at hz
    refine x_al hC hl 0 dX5_withdraw_16 rfl rfl ?_
    refine x_vV (As := []) hC (k5_records l D cs h (u1 mF 0 0) mS mA mV mT mB (by show 0 ≤ (mF 4) ∧ (mF 4) ≤ 4; first | assumption | omega)) lk5_81 (q0 := 0) (ci := 5) rfl rfl rfl (sub_all hP hD hS hA) hP hS rfl hl.1 rfl (Nat.le_of_ble_eq_true rfl) ⟨rfl, rfl⟩ ⟨Nat.le_of_ble_eq_true rfl, Nat.le_of_ble_eq_true rfl⟩ ⟨Nat.le_of_ble_eq_true rfl, Nat.le_of_ble_eq_true rfl⟩ dX5_withdraw_17 (fun H locs hP hD hS hHs => ?_)
    have hP : va_P D vwCl (wM h cs (mRecF (u1 mF 0 0)) mS mA (mRecV (u1 mF 0 0) mS mV) mT mB) H := hP
    have hD : va_D A (wM h cs (mRecF (u1 mF 0 0)) mS mA (mRecV (u1 mF 0 0) mS mV) mT mB) := hD
    refine x_al hC hl 0 dX5_withdraw_20 rfl rfl ?_
    refine x_il hC hl 1 dX5_withdraw_21 rfl rfl ?_
    refine x_vI (As := [.int (iI talk)]) hC (k5_withdraws l D cs h (mRecF (u1 mF 0 0)) mS mA (mRecV (u1 mF 0 0) mS mV) mT mB talk (by first | assumption | omega) (by first | assumption | omega)) lk5_90 (q0 := 0) (ci := 5) rfl rfl rfl (sub_all hP hD hS hA) hP hS rfl hl.1 rfl (Nat.le_of_ble_eq_true rfl) ⟨rfl, rfl⟩ ⟨Nat.le_of_ble_eq_true rfl, Nat.le_of_ble_eq_true rfl⟩ ⟨Nat.le_of_ble_eq_true rfl, Nat.le_of_ble_eq_true rfl⟩ dX5_withdraw_22 (fun H locs hP hD hS hHs => ?_)
    have hP : va_P D vwCl (wM h cs (mRecF (u1 mF 0 0)) (mWith mS talk) mA (mRecV (u1 mF 0 0) mS mV) mT mB) H := hP
    have hD : va_D A (wM h cs (mRecF (u1 mF 0 0)) (mWith mS talk) mA (mRecV (u1 mF 0 0) mS mV) mT mB) := hD
    have ew : (wM h cs (mRecF (u1 mF 0 0)) (mWith mS talk) mA (mRecV (u1 mF 0 0) mS mV) mT mB) = (wM h cs (iif (mTalkP mS talk) (mRecF (u1 mF 0 0)) (u1 mF 0 0)) (iif (mTalkP mS talk) (mWith mS talk) mS) mA (iif (mTalkP mS talk) (mRecV (u1 mF 0 0) mS mV) mV) mT mB) := (wMc (by first | exact (iif_t (by assumption)).symm | exact (iif_f (by assumption)).symm | exact (iif_t (by first | assumption | omega | grind)).symm | exact (iif_f (by first | assumption | omega | grind)).symm : mRecF (u1 mF 0 0) = iif (mTalkP mS talk) (mRecF (u1 mF 0 0)) (u1 mF 0 0)) (by first | exact (iif_t (by assumption)).symm | exact (iif_f (by assumption)).symm | exact (iif_t (by first | assumption | omega | grind)).symm | exact (iif_f (by first | assumption | omega | grind)).symm : mWith mS talk = iif (mTalkP mS talk) (mWith mS talk) mS) rfl (by first | exact (iif_t (by assumption)).symm | exact (iif_f (by assumption)).symm | exact (iif_t (by first | assumption | omega | grind)).symm | exact (iif_f (by first | assumption | omega | grind)).symm : mRecV (u1 mF 0 0) mS mV = iif (mTalkP mS talk) (mRecV (u1 mF 0 0) mS mV) mV) rfl rfl)
    have hP := vPe hP ew
    have hD := vDe hD ew
    exact x_retI (congrArg iI (by first | exact (iif_t (by assumption)).symm | exact (iif_f (by assumption)).symm | exact (iif_t (by first | assumption | omega | grind)).symm | exact (iif_f (by first | assumption | omega | grind)).symm : mS (29 + 4 * talk + 3) = iif (mTalkP mS talk) (mS (29 + 4 * talk + 3)) (-1000001))) hend hP hD hS dX5_withdraw_25
  · refine x_ldc hC (-1000001) tb_683 (by decide) dX5_withdraw_13 ?_
    have ew_2 : (wM h cs (u1 mF 0 0) mS mA mV mT mB) = (wM h cs (iif (mTalkP mS talk) (mRecF (u1 mF 0 0)) (u1 mF 0 0)) (iif (mTalkP mS talk) (mWith mS talk) mS) mA (iif (mTalkP mS talk) (mRecV (u1 mF 0 0) mS mV) mV) mT mB) := (wMc (by first | exact (iif_t (by assumption)).symm | exact (iif_f (by assumption)).symm | exact (iif_t (by first | assumption | omega | grind)).symm | exact (iif_f (by first | assumption | omega | grind)).symm : u1 mF 0 0 = iif (mTalkP mS talk) (mRecF (u1 mF 0 0)) (u1 mF 0 0)) (by first | exact (iif_t (by assumption)).symm | exact (iif_f (by assumption)).symm | exact (iif_t (by first | assumption | omega | grind)).symm | exact (iif_f (by first | assumption | omega | grind)).symm : mS = iif (mTalkP mS talk) (mWith mS talk) mS) rfl (by first | exact (iif_t (by assumption)).symm | exact (iif_f (by assumption)).symm | exact (iif_t (by first | assumption | omega | grind)).symm | exact (iif_f (by first | assumption | omega | grind)).symm : mV = iif (mTalkP mS talk) (mRecV (u1 mF 0 0) mS mV) mV) rfl rfl)
    have hP := vPe hP ew_2
    have hD := vDe hD ew_2
    exact x_retI (congrArg iI (by first | exact (iif_t (by assumption)).symm | exact (iif_f (by assumption)).symm | exact (iif_t (by first | assumption | omega | grind)).symm | exact (iif_f (by first | assumption | omega | grind)).symm : (-1000001) = iif (mTalkP mS talk) (mS (29 + 4 * talk + 3)) (-1000001))) hend hP hD hS dX5_withdraw_15
abbrev r5_move : Room := { frames := 3, cells := 0, slots := 0, locals := 71 }
set_option maxHeartbeats 4000000 in
set_option maxRecDepth 100000 in
theorem k5_move (l : Launch) (D : va_G) (cs : Nat → ClassId) (h : Nat → Nat) (mF : Int → Int) (mS : Int → Int) (mA : Int → Int) (mV : Int → Int) (mT : Int → Int) (mB : Int → Int) (talk : Int) (room : Int) (hI : IM mS) (h4 : 0 ≤ (mF 4) ∧ (mF 4) ≤ 4) (g_talk : -2147483648 ≤ talk ∧ talk ≤ 2147483647) (g_room : -2147483648 ≤ room ∧ room ≤ 2147483647) : CI l D cs yX5_move cX5_move 4 .int r5_move 0 0 [.ref (h 0), .int (iI talk), .int (iI room)] (wM h cs mF mS mA mV mT mB) (wM h cs (iif ((mTalkP mS talk ∧ 0 ≤ room ∧ room ≤ 7) ∧ mMove mS talk room) (mRecF (u1 mF 0 0)) (u1 mF 0 0)) (iif ((mTalkP mS talk ∧ 0 ≤ room ∧ room ≤ 7) ∧ mMove mS talk room) (u1 mS (29 + 4 * talk + 3) room) mS) mA (iif ((mTalkP mS talk ∧ 0 ≤ room ∧ room ≤ 7) ∧ mMove mS talk room) (mRecV (u1 mF 0 0) mS mV) mV) mT mB) (iI (iif (mTalkP mS talk ∧ 0 ≤ room ∧ room ≤ 7) (iif (mMove mS talk room) (mS (29 + 4 * talk + 3)) (-1000002)) (-1000001))) := by
  refine CI_start (own := RX5) (by decide) rfl rfl (Nat.le_of_ble_eq_true rfl) ?_
  intro p e s m args below meth c Q A ls hC hl hP hD hA hS hend
  have hl : lv_has ls 4 [(0, .ref (h 0)), (1, .int (iI talk)), (2, .int (iI room))] := hl
  obtain ⟨H, hH⟩ : ∃ H : Heap, H = s.heap := ⟨_, rfl⟩
  have hS : va_S A s.heap H [] := by rw [hH]; exact hS
  rw [← hH] at hP
  obtain ⟨locs, hlocs⟩ : ∃ locs : List Loc, locs = [] := ⟨_, rfl⟩
  rw [← hlocs] at hS
  suffices hgo : W p l e r5_move s m args below meth c H locs 0 0 Q (F0 m 0 ls []) by rw [← hH, ← hlocs]; exact hgo
  clear hH hlocs
  obtain ⟨z0, z1, -⟩ := id hI
  refine x_al hC hl 0 dX5_move_0 rfl rfl ?_
  refine x_ic hC dX5_move_1 ?_
  refine x_put5_0 hC hP hD hS 0 rfl tb_619 dX5_move_2 (fun H locs hP hD hS => ?_)
  have hP : va_P D vwCl (wM h cs (u1 mF 0 0) mS mA mV mT mB) H := hP
  have hD : va_D A (wM h cs (u1 mF 0 0) mS mA mV mT mB) := hD
  refine x_al hC hl 0 dX5_move_5 rfl rfl ?_
  refine x_il hC hl 1 dX5_move_6 rfl rfl ?_
  refine x_vI (As := [.int (iI talk)]) hC (k5_isTalk l D cs h (u1 mF 0 0) mS mA mV mT mB talk (by first | assumption | omega) (by first | assumption | omega)) lk5_87 (q0 := 0) (ci := 5) rfl rfl rfl (sub_all hP hD hS hA) hP hS rfl hl.1 rfl (Nat.le_of_ble_eq_true rfl) ⟨rfl, rfl⟩ ⟨Nat.le_of_ble_eq_true rfl, Nat.le_of_ble_eq_true rfl⟩ ⟨Nat.le_of_ble_eq_true rfl, Nat.le_of_ble_eq_true rfl⟩ dX5_move_7 (fun H locs hP hD hS hHs => ?_)
  refine x_if_eq_b hC 20 dX5_move_10 (by decide) (fun c_10 => ?_) (fun c_10 => ?_)
  · refine x_ldc hC (-1000001) tb_683 (by decide) dX5_move_20 ?_
    have ew : (wM h cs (u1 mF 0 0) mS mA mV mT mB) = (wM h cs (iif ((mTalkP mS talk ∧ 0 ≤ room ∧ room ≤ 7) ∧ mMove mS talk room) (mRecF (u1 mF 0 0)) (u1 mF 0 0)) (iif ((mTalkP mS talk ∧ 0 ≤ room ∧ room ≤ 7) ∧ mMove mS talk room) (u1 mS (29 + 4 * talk + 3) room) mS) mA (iif ((mTalkP mS talk ∧ 0 ≤ room ∧ room ≤ 7) ∧ mMove mS talk room) (mRecV (u1 mF 0 0) mS mV) mV) mT mB) := (wMc (by first | exact (iif_t ⟨⟨c_10, c_17⟩, c_29⟩).symm | exact (iif_f (fun h => c_29 h.2)).symm | exact (iif_f (fun h => c_17 h.1.2)).symm | exact (iif_f (fun h => c_10 h.1.1)).symm : u1 mF 0 0 = iif ((mTalkP mS talk ∧ 0 ≤ room ∧ room ≤ 7) ∧ mMove mS talk room) (mRecF (u1 mF 0 0)) (u1 mF 0 0)) (by first | exact (iif_t ⟨⟨c_10, c_17⟩, c_29⟩).symm | exact (iif_f (fun h => c_29 h.2)).symm | exact (iif_f (fun h => c_17 h.1.2)).symm | exact (iif_f (fun h => c_10 h.1.1)).symm : mS = iif ((mTalkP mS talk ∧ 0 ≤ room ∧ room ≤ 7) ∧ mMove mS talk room) (u1 mS (29 + 4 * talk + 3) room) mS) rfl (by first | exact (iif_t ⟨⟨c_10, c_17⟩, c_29⟩).symm | exact (iif_f (fun h => c_29 h.2)).symm | exact (iif_f (fun h => c_17 h.1.2)).symm | exact (iif_f (fun h => c_10 h.1.1)).symm : mV = iif ((mTalkP mS talk ∧ 0 ≤ room ∧ room ≤ 7) ∧ mMove mS talk room) (mRecV (u1 mF 0 0) mS mV) mV) rfl rfl)
    have hP := vPe hP ew
    have hD := vDe hD ew
    exact x_retI (congrArg iI (by first | (rw [iif_t ⟨c_10, c_17⟩]; first | exact (iif_t c_29).symm | exact (iif_f c_29).symm) | exact (iif_f (fun h => c_17 h.2)).symm | exact (iif_f (fun h => c_10 h.1)).symm : (-1000001) = iif (mTalkP mS talk ∧ 0 ≤ room ∧ room ≤ 7) (iif (mMove mS talk room) (mS (29 + 4 * talk + 3)) (-1000002)) (-1000001))) hend hP hD hS dX5_move_22
  · refine x_il hC hl 2 dX5_move_13 rfl rfl ?_
    refine x_sI (As := [.int (iI room)]) hC (k5_isRoom l D cs room (by first | assumption | omega)) lk5_93 (sub_none hP hD hS hA) hP hS rfl hl.1 rfl (Nat.le_of_ble_eq_true rfl) ⟨rfl, rfl⟩ ⟨Nat.le_of_ble_eq_true rfl, Nat.le_of_ble_eq_true rfl⟩ ⟨Nat.le_of_ble_eq_true rfl, Nat.le_of_ble_eq_true rfl⟩ dX5_move_14 (fun H locs hP hD hS hHs => ?_)
    refine x_if_ne_b hC 23 dX5_move_17 (by decide) (fun c_17 => ?_) (fun c_17 => ?_)
    · have hz := (id c_10 : mTalkP mS talk)
      unfold mTalkP at hz
      refine x_al hC hl 0 dX5_move_23 rfl rfl ?_
      refine x_il hC hl 1 dX5_move_24 rfl rfl ?_
      refine x_il hC hl 2 dX5_move_25 rfl rfl ?_
      refine x_vI (As := [.int (iI talk), .int (iI room)]) hC (k5_canMove l D cs h (u1 mF 0 0) mS mA mV mT mB talk room (by first | assumption | omega) (by first | assumption | omega) (by first | assumption | omega)) lk5_96 (q0 := 0) (ci := 5) rfl rfl rfl (sub_all hP hD hS hA) hP hS rfl hl.1 rfl (Nat.le_of_ble_eq_true rfl) ⟨rfl, rfl⟩ ⟨Nat.le_of_ble_eq_true rfl, Nat.le_of_ble_eq_true rfl⟩ ⟨Nat.le_of_ble_eq_true rfl, Nat.le_of_ble_eq_true rfl⟩ dX5_move_26 (fun H locs hP hD hS hHs => ?_)
      refine x_if_ne_b hC 35 dX5_move_29 (by decide) (fun c_29 => ?_) (fun c_29 => ?_)
      · refine x_al hC hl 0 dX5_move_35 rfl rfl ?_
        refine x_vV (As := []) hC (k5_records l D cs h (u1 mF 0 0) mS mA mV mT mB (by show 0 ≤ (mF 4) ∧ (mF 4) ≤ 4; first | assumption | omega)) lk5_81 (q0 := 0) (ci := 5) rfl rfl rfl (sub_all hP hD hS hA) hP hS rfl hl.1 rfl (Nat.le_of_ble_eq_true rfl) ⟨rfl, rfl⟩ ⟨Nat.le_of_ble_eq_true rfl, Nat.le_of_ble_eq_true rfl⟩ ⟨Nat.le_of_ble_eq_true rfl, Nat.le_of_ble_eq_true rfl⟩ dX5_move_36 (fun H locs hP hD hS hHs => ?_)
        have hP : va_P D vwCl (wM h cs (mRecF (u1 mF 0 0)) mS mA (mRecV (u1 mF 0 0) mS mV) mT mB) H := hP
        have hD : va_D A (wM h cs (mRecF (u1 mF 0 0)) mS mA (mRecV (u1 mF 0 0) mS mV) mT mB) := hD
        refine x_al hC hl 0 dX5_move_39 rfl rfl ?_
        refine x_il hC hl 1 dX5_move_40 rfl rfl ?_
        refine x_ic hC dX5_move_41 ?_
        refine x_vI (As := [.int (iI talk), .int (iI 3)]) hC (k5_of l D cs h (mRecF (u1 mF 0 0)) mS mA (mRecV (u1 mF 0 0) mS mV) mT mB talk 3 (by first | assumption | omega) (by first | assumption | omega) (by first | assumption | omega)) lk5_34 (q0 := 0) (ci := 5) rfl rfl rfl (sub_all hP hD hS hA) hP hS rfl hl.1 rfl (Nat.le_of_ble_eq_true rfl) ⟨rfl, rfl⟩ ⟨Nat.le_of_ble_eq_true rfl, Nat.le_of_ble_eq_true rfl⟩ ⟨Nat.le_of_ble_eq_true rfl, Nat.le_of_ble_eq_true rfl⟩ dX5_move_42 (fun H locs hP hD hS hHs => ?_)
        have q_42 := imB (S := mS) (by assumption) (29 + 4 * talk + 3) (by omega)
        refine x_is hC [(3, .int (iI (mS (29 + 4 * talk + 3)))), (0, .ref (h 0)), (1, .int (iI talk)), (2, .int (iI room))] hl dX5_move_45 rfl (by decide) rfl (fun ls hl => ?_)
        refine x_al hC hl 1 dX5_move_46 rfl rfl ?_
        refine x_get5 (v := .ref (h 1)) hC hP 0 rfl 1 (by decide) tb_620 rfl rfl dX5_move_47 ?_
        refine x_bi hC dX5_move_50 (by decide) ?_
        refine x_ic hC dX5_move_52 ?_
        refine x_il hC hl 2 dX5_move_53 rfl rfl ?_
        refine x_imul hC dX5_move_54 ?_
        refine x_iadd hC dX5_move_55 ?_
        refine x_ic hC dX5_move_56 ?_
        refine x_iadd hC dX5_move_57 ?_
        refine x_il hC hl 3 dX5_move_58 rfl rfl ?_
        refine x_iast hC hP hD hS 1 rfl (by omega) (by decide) dX5_move_59 (fun H locs hP hD hS => ?_)
        have hP : va_P D vwCl (wM h cs (mRecF (u1 mF 0 0)) (u1 mS ((29 + (4 * talk)) + 3) room) mA (mRecV (u1 mF 0 0) mS mV) mT mB) H := hP
        have hD : va_D A (wM h cs (mRecF (u1 mF 0 0)) (u1 mS ((29 + (4 * talk)) + 3) room) mA (mRecV (u1 mF 0 0) mS mV) mT mB) := hD
        refine x_il hC hl 0 dX5_move_60 rfl rfl ?_
        have ew_2 : (wM h cs (mRecF (u1 mF 0 0)) (u1 mS ((29 + (4 * talk)) + 3) room) mA (mRecV (u1 mF 0 0) mS mV) mT mB) = (wM h cs (iif ((mTalkP mS talk ∧ 0 ≤ room ∧ room ≤ 7) ∧ mMove mS talk room) (mRecF (u1 mF 0 0)) (u1 mF 0 0)) (iif ((mTalkP mS talk ∧ 0 ≤ room ∧ room ≤ 7) ∧ mMove mS talk room) (u1 mS (29 + 4 * talk + 3) room) mS) mA (iif ((mTalkP mS talk ∧ 0 ≤ room ∧ room ≤ 7) ∧ mMove mS talk room) (mRecV (u1 mF 0 0) mS mV) mV) mT mB) := (wMc (by first | exact (iif_t ⟨⟨c_10, c_17⟩, c_29⟩).symm | exact (iif_f (fun h => c_29 h.2)).symm | exact (iif_f (fun h => c_17 h.1.2)).symm | exact (iif_f (fun h => c_10 h.1.1)).symm : mRecF (u1 mF 0 0) = iif ((mTalkP mS talk ∧ 0 ≤ room ∧ room ≤ 7) ∧ mMove mS talk room) (mRecF (u1 mF 0 0)) (u1 mF 0 0)) (by first | exact (iif_t ⟨⟨c_10, c_17⟩, c_29⟩).symm | exact (iif_f (fun h => c_29 h.2)).symm | exact (iif_f (fun h => c_17 h.1.2)).symm | exact (iif_f (fun h => c_10 h.1.1)).symm : u1 mS ((29 + (4 * talk)) + 3) room = iif ((mTalkP mS talk ∧ 0 ≤ room ∧ room ≤ 7) ∧ mMove mS talk room) (u1 mS (29 + 4 * talk + 3) room) mS) rfl (by first | exact (iif_t ⟨⟨c_10, c_17⟩, c_29⟩).symm | exact (iif_f (fun h => c_29 h.2)).symm | exact (iif_f (fun h => c_17 h.1.2)).symm | exact (iif_f (fun h => c_10 h.1.1)).symm : mRecV (u1 mF 0 0) mS mV = iif ((mTalkP mS talk ∧ 0 ≤ room ∧ room ≤ 7) ∧ mMove mS talk room) (mRecV (u1 mF 0 0) mS mV) mV) rfl rfl)
        have hP := vPe hP ew_2
        have hD := vDe hD ew_2
        exact x_retI (congrArg iI (by first | (rw [iif_t ⟨c_10, c_17⟩]; first | exact (iif_t c_29).symm | exact (iif_f c_29).symm) | exact (iif_f (fun h => c_17 h.2)).symm | exact (iif_f (fun h => c_10 h.1)).symm : mS (29 + 4 * talk + 3) = iif (mTalkP mS talk ∧ 0 ≤ room ∧ room ≤ 7) (iif (mMove mS talk room) (mS (29 + 4 * talk + 3)) (-1000002)) (-1000001))) hend hP hD hS dX5_move_61
      · refine x_ldc hC (-1000002) tb_720 (by decide) dX5_move_32 ?_
        have ew_3 : (wM h cs (u1 mF 0 0) mS mA mV mT mB) = (wM h cs (iif ((mTalkP mS talk ∧ 0 ≤ room ∧ room ≤ 7) ∧ mMove mS talk room) (mRecF (u1 mF 0 0)) (u1 mF 0 0)) (iif ((mTalkP mS talk ∧ 0 ≤ room ∧ room ≤ 7) ∧ mMove mS talk room) (u1 mS (29 + 4 * talk + 3) room) mS) mA (iif ((mTalkP mS talk ∧ 0 ≤ room ∧ room ≤ 7) ∧ mMove mS talk room) (mRecV (u1 mF 0 0) mS mV) mV) mT mB) := (wMc (by first | exact (iif_t ⟨⟨c_10, c_17⟩, c_29⟩).symm | exact (iif_f (fun h => c_29 h.2)).symm | exact (iif_f (fun h => c_17 h.1.2)).symm | exact (iif_f (fun h => c_10 h.1.1)).symm : u1 mF 0 0 = iif ((mTalkP mS talk ∧ 0 ≤ room ∧ room ≤ 7) ∧ mMove mS talk room) (mRecF (u1 mF 0 0)) (u1 mF 0 0)) (by first | exact (iif_t ⟨⟨c_10, c_17⟩, c_29⟩).symm | exact (iif_f (fun h => c_29 h.2)).symm | exact (iif_f (fun h => c_17 h.1.2)).symm | exact (iif_f (fun h => c_10 h.1.1)).symm : mS = iif ((mTalkP mS talk ∧ 0 ≤ room ∧ room ≤ 7) ∧ mMove mS talk room) (u1 mS (29 + 4 * talk + 3) room) mS) rfl (by first | exact (iif_t ⟨⟨c_10, c_17⟩, c_29⟩).symm | exact (iif_f (fun h => c_29 h.2)).symm | exact (iif_f (fun h => c_17 h.1.2)).symm | exact (iif_f (fun h => c_10 h.1.1)).symm : mV = iif ((mTalkP mS talk ∧ 0 ≤ room ∧ room ≤ 7) ∧ mMove mS talk room) (mRecV (u1 mF 0 0) mS mV) mV) rfl rfl)
        have hP := vPe hP ew_3
        have hD := vDe hD ew_3
        exact x_retI (congrArg iI (by first | (rw [iif_t ⟨c_10, c_17⟩]; first | exact (iif_t c_29).symm | exact (iif_f c_29).symm) | exact (iif_f (fun h => c_17 h.2)).symm | exact (iif_f (fun h => c_10 h.1)).symm : (-1000002) = iif (mTalkP mS talk ∧ 0 ≤ room ∧ room ≤ 7) (iif (mMove mS talk room) (mS (29 + 4 * talk + 3)) (-1000002)) (-1000001))) hend hP hD hS dX5_move_34
    · refine x_ldc hC (-1000001) tb_683 (by decide) dX5_move_20 ?_
      have ew_4 : (wM h cs (u1 mF 0 0) mS mA mV mT mB) = (wM h cs (iif ((mTalkP mS talk ∧ 0 ≤ room ∧ room ≤ 7) ∧ mMove mS talk room) (mRecF (u1 mF 0 0)) (u1 mF 0 0)) (iif ((mTalkP mS talk ∧ 0 ≤ room ∧ room ≤ 7) ∧ mMove mS talk room) (u1 mS (29 + 4 * talk + 3) room) mS) mA (iif ((mTalkP mS talk ∧ 0 ≤ room ∧ room ≤ 7) ∧ mMove mS talk room) (mRecV (u1 mF 0 0) mS mV) mV) mT mB) := (wMc (by first | exact (iif_t ⟨⟨c_10, c_17⟩, c_29⟩).symm | exact (iif_f (fun h => c_29 h.2)).symm | exact (iif_f (fun h => c_17 h.1.2)).symm | exact (iif_f (fun h => c_10 h.1.1)).symm : u1 mF 0 0 = iif ((mTalkP mS talk ∧ 0 ≤ room ∧ room ≤ 7) ∧ mMove mS talk room) (mRecF (u1 mF 0 0)) (u1 mF 0 0)) (by first | exact (iif_t ⟨⟨c_10, c_17⟩, c_29⟩).symm | exact (iif_f (fun h => c_29 h.2)).symm | exact (iif_f (fun h => c_17 h.1.2)).symm | exact (iif_f (fun h => c_10 h.1.1)).symm : mS = iif ((mTalkP mS talk ∧ 0 ≤ room ∧ room ≤ 7) ∧ mMove mS talk room) (u1 mS (29 + 4 * talk + 3) room) mS) rfl (by first | exact (iif_t ⟨⟨c_10, c_17⟩, c_29⟩).symm | exact (iif_f (fun h => c_29 h.2)).symm | exact (iif_f (fun h => c_17 h.1.2)).symm | exact (iif_f (fun h => c_10 h.1.1)).symm : mV = iif ((mTalkP mS talk ∧ 0 ≤ room ∧ room ≤ 7) ∧ mMove mS talk room) (mRecV (u1 mF 0 0) mS mV) mV) rfl rfl)
      have hP := vPe hP ew_4
      have hD := vDe hD ew_4
      exact x_retI (congrArg iI (by first | (rw [iif_t ⟨c_10, c_17⟩]; first | exact (iif_t c_29).symm | exact (iif_f c_29).symm) | exact (iif_f (fun h => c_17 h.2)).symm | exact (iif_f (fun h => c_10 h.1)).symm : (-1000001) = iif (mTalkP mS talk ∧ 0 ≤ room ∧ room ≤ 7) (iif (mMove mS talk room) (mS (29 + 4 * talk + 3)) (-1000002)) (-1000001))) hend hP hD hS dX5_move_22
abbrev r5_room : Room := { frames := 3, cells := 0, slots := 0, locals := 66 }
set_option maxHeartbeats 4000000 in
set_option maxRecDepth 100000 in
theorem k5_room (l : Launch) (D : va_G) (cs : Nat → ClassId) (h : Nat → Nat) (mF : Int → Int) (mS : Int → Int) (mA : Int → Int) (mV : Int → Int) (mT : Int → Int) (mB : Int → Int) (room : Int) (size : Int) (price : Int) (hI : IM mS) (h4 : 0 ≤ (mF 4) ∧ (mF 4) ≤ 4) (g_room : -2147483648 ≤ room ∧ room ≤ 2147483647) (g_size : -2147483648 ≤ size ∧ size ≤ 2147483647) (g_price : -2147483648 ≤ price ∧ price ≤ 2147483647) : CI l D cs yX5_room cX5_room 5 .int r5_room 0 0 [.ref (h 0), .int (iI room), .int (iI size), .int (iI price)] (wM h cs mF mS mA mV mT mB) (wM h cs (iif (mRefR mS room size price = 0) (mRecF (u1 mF 0 0)) (u1 mF 0 0)) (iif (mRefR mS room size price = 0) (mLay mS room size price) mS) mA (iif (mRefR mS room size price = 0) (mRecV (u1 mF 0 0) mS mV) mV) mT mB) (iI (iif (mRefR mS room size price = 0) (100 * mS (5 + 3 * room + 0) + mS (5 + 3 * room + 1)) (mRefR mS room size price))) := by
  refine CI_start (own := RX5) (by decide) rfl rfl (Nat.le_of_ble_eq_true rfl) ?_
  intro p e s m args below meth c Q A ls hC hl hP hD hA hS hend
  have hl : lv_has ls 5 [(0, .ref (h 0)), (1, .int (iI room)), (2, .int (iI size)), (3, .int (iI price))] := hl
  obtain ⟨H, hH⟩ : ∃ H : Heap, H = s.heap := ⟨_, rfl⟩
  have hS : va_S A s.heap H [] := by rw [hH]; exact hS
  rw [← hH] at hP
  obtain ⟨locs, hlocs⟩ : ∃ locs : List Loc, locs = [] := ⟨_, rfl⟩
  rw [← hlocs] at hS
  suffices hgo : W p l e r5_room s m args below meth c H locs 0 0 Q (F0 m 0 ls []) by rw [← hH, ← hlocs]; exact hgo
  clear hH hlocs
  obtain ⟨z0, z1, -⟩ := id hI
  have qr := mRefR_rg mS room size price
  refine x_al hC hl 0 dX5_room_0 rfl rfl ?_
  refine x_ic hC dX5_room_1 ?_
  refine x_put5_0 hC hP hD hS 0 rfl tb_619 dX5_room_2 (fun H locs hP hD hS => ?_)
  have hP : va_P D vwCl (wM h cs (u1 mF 0 0) mS mA mV mT mB) H := hP
  have hD : va_D A (wM h cs (u1 mF 0 0) mS mA mV mT mB) := hD
  refine x_al hC hl 0 dX5_room_5 rfl rfl ?_
  refine x_il hC hl 1 dX5_room_6 rfl rfl ?_
  refine x_il hC hl 2 dX5_room_7 rfl rfl ?_
  refine x_il hC hl 3 dX5_room_8 rfl rfl ?_
  refine x_vI (As := [.int (iI room), .int (iI size), .int (iI price)]) hC (k5_refusesRoom l D cs h (u1 mF 0 0) mS mA mV mT mB room size price (by first | assumption | omega) (by first | assumption | omega) (by first | assumption | omega) (by first | assumption | omega)) lk5_100 (q0 := 0) (ci := 5) rfl rfl rfl (sub_all hP hD hS hA) hP hS rfl hl.1 rfl (Nat.le_of_ble_eq_true rfl) ⟨rfl, rfl⟩ ⟨Nat.le_of_ble_eq_true rfl, Nat.le_of_ble_eq_true rfl⟩ ⟨Nat.le_of_ble_eq_true rfl, Nat.le_of_ble_eq_true rfl⟩ dX5_room_9 (fun H locs hP hD hS hHs => ?_)
  refine x_isw hC [(4, .int (iI (mRefR mS room size price))), (0, .ref (h 0)), (1, .int (iI room)), (2, .int (iI size)), (3, .int (iI price))] hl dX5_room_12 (by decide) rfl (fun ls hl => ?_)
  refine x_ilw hC hl 0 dX5_room_14 rfl ?_
  refine x_if_eq hC 22 dX5_room_16 (by decide) (by omega) (fun c_16 => ?_) (fun c_16 => ?_)
  · have hz := mRefR_0 (by assumption)
    refine x_al hC hl 1 dX5_room_22 rfl rfl ?_
    refine x_vV (As := []) hC (k5_records l D cs h (u1 mF 0 0) mS mA mV mT mB (by show 0 ≤ (mF 4) ∧ (mF 4) ≤ 4; first | assumption | omega)) lk5_81 (q0 := 0) (ci := 5) rfl rfl rfl (sub_all hP hD hS hA) hP hS rfl hl.1 rfl (Nat.le_of_ble_eq_true rfl) ⟨rfl, rfl⟩ ⟨Nat.le_of_ble_eq_true rfl, Nat.le_of_ble_eq_true rfl⟩ ⟨Nat.le_of_ble_eq_true rfl, Nat.le_of_ble_eq_true rfl⟩ dX5_room_23 (fun H locs hP hD hS hHs => ?_)
    have hP : va_P D vwCl (wM h cs (mRecF (u1 mF 0 0)) mS mA (mRecV (u1 mF 0 0) mS mV) mT mB) H := hP
    have hD : va_D A (wM h cs (mRecF (u1 mF 0 0)) mS mA (mRecV (u1 mF 0 0) mS mV) mT mB) := hD
    refine x_al hC hl 1 dX5_room_26 rfl rfl ?_
    refine x_il hC hl 2 dX5_room_27 rfl rfl ?_
    refine x_il hC hl 3 dX5_room_28 rfl rfl ?_
    refine x_il hC hl 4 dX5_room_29 rfl rfl ?_
    refine x_vI (As := [.int (iI room), .int (iI size), .int (iI price)]) hC (k5_laysRoom l D cs h (mRecF (u1 mF 0 0)) mS mA (mRecV (u1 mF 0 0) mS mV) mT mB room size price (by first | assumption | omega) (by first | assumption | omega)) lk5_103 (q0 := 0) (ci := 5) rfl rfl rfl (sub_all hP hD hS hA) hP hS rfl hl.1 rfl (Nat.le_of_ble_eq_true rfl) ⟨rfl, rfl⟩ ⟨Nat.le_of_ble_eq_true rfl, Nat.le_of_ble_eq_true rfl⟩ ⟨Nat.le_of_ble_eq_true rfl, Nat.le_of_ble_eq_true rfl⟩ dX5_room_30 (fun H locs hP hD hS hHs => ?_)
    have hP : va_P D vwCl (wM h cs (mRecF (u1 mF 0 0)) (mLay mS room size price) mA (mRecV (u1 mF 0 0) mS mV) mT mB) H := hP
    have hD : va_D A (wM h cs (mRecF (u1 mF 0 0)) (mLay mS room size price) mA (mRecV (u1 mF 0 0) mS mV) mT mB) := hD
    have ew : (wM h cs (mRecF (u1 mF 0 0)) (mLay mS room size price) mA (mRecV (u1 mF 0 0) mS mV) mT mB) = (wM h cs (iif (mRefR mS room size price = 0) (mRecF (u1 mF 0 0)) (u1 mF 0 0)) (iif (mRefR mS room size price = 0) (mLay mS room size price) mS) mA (iif (mRefR mS room size price = 0) (mRecV (u1 mF 0 0) mS mV) mV) mT mB) := (wMc (by first | exact (iif_t (by assumption)).symm | exact (iif_f (by assumption)).symm | exact (iif_t (by first | assumption | omega | grind)).symm | exact (iif_f (by first | assumption | omega | grind)).symm : mRecF (u1 mF 0 0) = iif (mRefR mS room size price = 0) (mRecF (u1 mF 0 0)) (u1 mF 0 0)) (by first | exact (iif_t (by assumption)).symm | exact (iif_f (by assumption)).symm | exact (iif_t (by first | assumption | omega | grind)).symm | exact (iif_f (by first | assumption | omega | grind)).symm : mLay mS room size price = iif (mRefR mS room size price = 0) (mLay mS room size price) mS) rfl (by first | exact (iif_t (by assumption)).symm | exact (iif_f (by assumption)).symm | exact (iif_t (by first | assumption | omega | grind)).symm | exact (iif_f (by first | assumption | omega | grind)).symm : mRecV (u1 mF 0 0) mS mV = iif (mRefR mS room size price = 0) (mRecV (u1 mF 0 0) mS mV) mV) rfl rfl)
    have hP := vPe hP ew
    have hD := vDe hD ew
    exact x_retI (congrArg iI (by first | exact (iif_t (by assumption)).symm | exact (iif_f (by assumption)).symm | exact (iif_t (by first | assumption | omega | grind)).symm | exact (iif_f (by first | assumption | omega | grind)).symm : 100 * mS (5 + 3 * room + 0) + mS (5 + 3 * room + 1) = iif (mRefR mS room size price = 0) (100 * mS (5 + 3 * room + 0) + mS (5 + 3 * room + 1)) (mRefR mS room size price))) hend hP hD hS dX5_room_33
  · refine x_ilw hC hl 0 dX5_room_19 rfl ?_
    have ew_2 : (wM h cs (u1 mF 0 0) mS mA mV mT mB) = (wM h cs (iif (mRefR mS room size price = 0) (mRecF (u1 mF 0 0)) (u1 mF 0 0)) (iif (mRefR mS room size price = 0) (mLay mS room size price) mS) mA (iif (mRefR mS room size price = 0) (mRecV (u1 mF 0 0) mS mV) mV) mT mB) := (wMc (by first | exact (iif_t (by assumption)).symm | exact (iif_f (by assumption)).symm | exact (iif_t (by first | assumption | omega | grind)).symm | exact (iif_f (by first | assumption | omega | grind)).symm : u1 mF 0 0 = iif (mRefR mS room size price = 0) (mRecF (u1 mF 0 0)) (u1 mF 0 0)) (by first | exact (iif_t (by assumption)).symm | exact (iif_f (by assumption)).symm | exact (iif_t (by first | assumption | omega | grind)).symm | exact (iif_f (by first | assumption | omega | grind)).symm : mS = iif (mRefR mS room size price = 0) (mLay mS room size price) mS) rfl (by first | exact (iif_t (by assumption)).symm | exact (iif_f (by assumption)).symm | exact (iif_t (by first | assumption | omega | grind)).symm | exact (iif_f (by first | assumption | omega | grind)).symm : mV = iif (mRefR mS room size price = 0) (mRecV (u1 mF 0 0) mS mV) mV) rfl rfl)
    have hP := vPe hP ew_2
    have hD := vDe hD ew_2
    exact x_retI (congrArg iI (by first | exact (iif_t (by assumption)).symm | exact (iif_f (by assumption)).symm | exact (iif_t (by first | assumption | omega | grind)).symm | exact (iif_f (by first | assumption | omega | grind)).symm : mRefR mS room size price = iif (mRefR mS room size price = 0) (100 * mS (5 + 3 * room + 0) + mS (5 + 3 * room + 1)) (mRefR mS room size price))) hend hP hD hS dX5_room_21
abbrev r5_close : Room := { frames := 2, cells := 0, slots := 0, locals := 45 }
set_option maxHeartbeats 4000000 in
set_option maxRecDepth 100000 in
theorem k5_close (l : Launch) (D : va_G) (cs : Nat → ClassId) (h : Nat → Nat) (mF : Int → Int) (mS : Int → Int) (mA : Int → Int) (mV : Int → Int) (mT : Int → Int) (mB : Int → Int) (room : Int) (hI : IM mS) (h4 : 0 ≤ (mF 4) ∧ (mF 4) ≤ 4) (g_room : -2147483648 ≤ room ∧ room ≤ 2147483647) : CI l D cs yX5_close cX5_close 2 .int r5_close 0 0 [.ref (h 0), .int (iI room)] (wM h cs mF mS mA mV mT mB) (wM h cs (iif ((0 ≤ room ∧ room ≤ 7) ∧ mS (5 + 3 * room + 2) = 1 ∧ mskI (fun t => mS (29 + 4 * t + 3) = room) (mS 1) = 0) (mRecF (u1 mF 0 0)) (u1 mF 0 0)) (iif ((0 ≤ room ∧ room ≤ 7) ∧ mS (5 + 3 * room + 2) = 1 ∧ mskI (fun t => mS (29 + 4 * t + 3) = room) (mS 1) = 0) (u1 mS (5 + 3 * room + 2) 0) mS) mA (iif ((0 ≤ room ∧ room ≤ 7) ∧ mS (5 + 3 * room + 2) = 1 ∧ mskI (fun t => mS (29 + 4 * t + 3) = room) (mS 1) = 0) (mRecV (u1 mF 0 0) mS mV) mV) mT mB) (iI (iif (0 ≤ room ∧ room ≤ 7) (iif (mS (5 + 3 * room + 2) = 1 ∧ mskI (fun t => mS (29 + 4 * t + 3) = room) (mS 1) = 0) (mOpenN (u1 mS (5 + 3 * room + 2) 0) 8) (-1000002)) (-1000001))) := by
  refine CI_start (own := RX5) (by decide) rfl rfl (Nat.le_of_ble_eq_true rfl) ?_
  intro p e s m args below meth c Q A ls hC hl hP hD hA hS hend
  have hl : lv_has ls 2 [(0, .ref (h 0)), (1, .int (iI room))] := hl
  obtain ⟨H, hH⟩ : ∃ H : Heap, H = s.heap := ⟨_, rfl⟩
  have hS : va_S A s.heap H [] := by rw [hH]; exact hS
  rw [← hH] at hP
  obtain ⟨locs, hlocs⟩ : ∃ locs : List Loc, locs = [] := ⟨_, rfl⟩
  rw [← hlocs] at hS
  suffices hgo : W p l e r5_close s m args below meth c H locs 0 0 Q (F0 m 0 ls []) by rw [← hH, ← hlocs]; exact hgo
  clear hH hlocs
  obtain ⟨z0, z1, -⟩ := id hI
  refine x_al hC hl 0 dX5_close_0 rfl rfl ?_
  refine x_ic hC dX5_close_1 ?_
  refine x_put5_0 hC hP hD hS 0 rfl tb_619 dX5_close_2 (fun H locs hP hD hS => ?_)
  have hP : va_P D vwCl (wM h cs (u1 mF 0 0) mS mA mV mT mB) H := hP
  have hD : va_D A (wM h cs (u1 mF 0 0) mS mA mV mT mB) := hD
  refine x_il hC hl 1 dX5_close_5 rfl rfl ?_
  refine x_sI (As := [.int (iI room)]) hC (k5_isRoom l D cs room (by first | assumption | omega)) lk5_93 (sub_none hP hD hS hA) hP hS rfl hl.1 rfl (Nat.le_of_ble_eq_true rfl) ⟨rfl, rfl⟩ ⟨Nat.le_of_ble_eq_true rfl, Nat.le_of_ble_eq_true rfl⟩ ⟨Nat.le_of_ble_eq_true rfl, Nat.le_of_ble_eq_true rfl⟩ dX5_close_6 (fun H locs hP hD hS hHs => ?_)
  refine x_if_ne_b hC 15 dX5_close_9 (by decide) (fun c_9 => ?_) (fun c_9 => ?_)
  · refine x_al hC hl 0 dX5_close_15 rfl rfl ?_
    refine x_il hC hl 1 dX5_close_16 rfl rfl ?_
    refine x_vI (As := [.int (iI room)]) hC (k5_isOpen l D cs h (u1 mF 0 0) mS mA mV mT mB room (by first | assumption | omega) (by first | assumption | omega)) lk5_56 (q0 := 0) (ci := 5) rfl rfl rfl (sub_all hP hD hS hA) hP hS rfl hl.1 rfl (Nat.le_of_ble_eq_true rfl) ⟨rfl, rfl⟩ ⟨Nat.le_of_ble_eq_true rfl, Nat.le_of_ble_eq_true rfl⟩ ⟨Nat.le_of_ble_eq_true rfl, Nat.le_of_ble_eq_true rfl⟩ dX5_close_17 (fun H locs hP hD hS hHs => ?_)
    refine x_if_eq_b hC 31 dX5_close_20 (by decide) (fun c_20 => ?_) (fun c_20 => ?_)
    · refine x_ldc hC (-1000002) tb_720 (by decide) dX5_close_31 ?_
      have ew : (wM h cs (u1 mF 0 0) mS mA mV mT mB) = (wM h cs (iif ((0 ≤ room ∧ room ≤ 7) ∧ mS (5 + 3 * room + 2) = 1 ∧ mskI (fun t => mS (29 + 4 * t + 3) = room) (mS 1) = 0) (mRecF (u1 mF 0 0)) (u1 mF 0 0)) (iif ((0 ≤ room ∧ room ≤ 7) ∧ mS (5 + 3 * room + 2) = 1 ∧ mskI (fun t => mS (29 + 4 * t + 3) = room) (mS 1) = 0) (u1 mS (5 + 3 * room + 2) 0) mS) mA (iif ((0 ≤ room ∧ room ≤ 7) ∧ mS (5 + 3 * room + 2) = 1 ∧ mskI (fun t => mS (29 + 4 * t + 3) = room) (mS 1) = 0) (mRecV (u1 mF 0 0) mS mV) mV) mT mB) := (wMc (by first | exact (iif_t ⟨c_9, c_20, c_28⟩).symm | exact (iif_f (fun h => c_28 h.2.2)).symm | exact (iif_f (fun h => c_20 h.2.1)).symm | exact (iif_f (fun h => c_9 h.1)).symm : u1 mF 0 0 = iif ((0 ≤ room ∧ room ≤ 7) ∧ mS (5 + 3 * room + 2) = 1 ∧ mskI (fun t => mS (29 + 4 * t + 3) = room) (mS 1) = 0) (mRecF (u1 mF 0 0)) (u1 mF 0 0)) (by first | exact (iif_t ⟨c_9, c_20, c_28⟩).symm | exact (iif_f (fun h => c_28 h.2.2)).symm | exact (iif_f (fun h => c_20 h.2.1)).symm | exact (iif_f (fun h => c_9 h.1)).symm : mS = iif ((0 ≤ room ∧ room ≤ 7) ∧ mS (5 + 3 * room + 2) = 1 ∧ mskI (fun t => mS (29 + 4 * t + 3) = room) (mS 1) = 0) (u1 mS (5 + 3 * room + 2) 0) mS) rfl (by first | exact (iif_t ⟨c_9, c_20, c_28⟩).symm | exact (iif_f (fun h => c_28 h.2.2)).symm | exact (iif_f (fun h => c_20 h.2.1)).symm | exact (iif_f (fun h => c_9 h.1)).symm : mV = iif ((0 ≤ room ∧ room ≤ 7) ∧ mS (5 + 3 * room + 2) = 1 ∧ mskI (fun t => mS (29 + 4 * t + 3) = room) (mS 1) = 0) (mRecV (u1 mF 0 0) mS mV) mV) rfl rfl)
      have hP := vPe hP ew
      have hD := vDe hD ew
      exact x_retI (congrArg iI (by first | (rw [iif_t c_9]; first | exact (iif_t ⟨c_20, c_28⟩).symm | exact (iif_f (fun h => c_28 h.2)).symm | exact (iif_f (fun h => c_20 h.1)).symm) | exact (iif_f c_9).symm : (-1000002) = iif (0 ≤ room ∧ room ≤ 7) (iif (mS (5 + 3 * room + 2) = 1 ∧ mskI (fun t => mS (29 + 4 * t + 3) = room) (mS 1) = 0) (mOpenN (u1 mS (5 + 3 * room + 2) 0) 8) (-1000002)) (-1000001))) hend hP hD hS dX5_close_33
    · refine x_al hC hl 0 dX5_close_23 rfl rfl ?_
      refine x_il hC hl 1 dX5_close_24 rfl rfl ?_
      refine x_vI (As := [.int (iI room)]) hC (k5_talksIn l D cs h (u1 mF 0 0) mS mA mV mT mB room (by first | assumption | omega) (by first | assumption | omega)) lk5_106 (q0 := 0) (ci := 5) rfl rfl rfl (sub_all hP hD hS hA) hP hS rfl hl.1 rfl (Nat.le_of_ble_eq_true rfl) ⟨rfl, rfl⟩ ⟨Nat.le_of_ble_eq_true rfl, Nat.le_of_ble_eq_true rfl⟩ ⟨Nat.le_of_ble_eq_true rfl, Nat.le_of_ble_eq_true rfl⟩ dX5_close_25 (fun H locs hP hD hS hHs => ?_)
      refine lv_if_eq (tgt := 34) hC.1 hC.2.1 dX5_close_28 (by decide) (fun c_28 => ?_) (fun c_28 => ?_)
      · refine x_al hC hl 0 dX5_close_34 rfl rfl ?_
        refine x_vV (As := []) hC (k5_records l D cs h (u1 mF 0 0) mS mA mV mT mB (by show 0 ≤ (mF 4) ∧ (mF 4) ≤ 4; first | assumption | omega)) lk5_81 (q0 := 0) (ci := 5) rfl rfl rfl (sub_all hP hD hS hA) hP hS rfl hl.1 rfl (Nat.le_of_ble_eq_true rfl) ⟨rfl, rfl⟩ ⟨Nat.le_of_ble_eq_true rfl, Nat.le_of_ble_eq_true rfl⟩ ⟨Nat.le_of_ble_eq_true rfl, Nat.le_of_ble_eq_true rfl⟩ dX5_close_35 (fun H locs hP hD hS hHs => ?_)
        have hP : va_P D vwCl (wM h cs (mRecF (u1 mF 0 0)) mS mA (mRecV (u1 mF 0 0) mS mV) mT mB) H := hP
        have hD : va_D A (wM h cs (mRecF (u1 mF 0 0)) mS mA (mRecV (u1 mF 0 0) mS mV) mT mB) := hD
        refine x_al hC hl 0 dX5_close_38 rfl rfl ?_
        refine x_get5 (v := .ref (h 1)) hC hP 0 rfl 1 (by decide) tb_620 rfl rfl dX5_close_39 ?_
        refine x_ic hC dX5_close_42 ?_
        refine x_ic hC dX5_close_43 ?_
        refine x_il hC hl 1 dX5_close_44 rfl rfl ?_
        refine x_imul hC dX5_close_45 ?_
        refine x_iadd hC dX5_close_46 ?_
        refine x_ic hC dX5_close_47 ?_
        refine x_iadd hC dX5_close_48 ?_
        refine x_ic hC dX5_close_49 ?_
        refine x_iast hC hP hD hS 1 rfl (by omega) (by decide) dX5_close_50 (fun H locs hP hD hS => ?_)
        have hP : va_P D vwCl (wM h cs (mRecF (u1 mF 0 0)) (u1 mS ((5 + (3 * room)) + 2) 0) mA (mRecV (u1 mF 0 0) mS mV) mT mB) H := hP
        have hD : va_D A (wM h cs (mRecF (u1 mF 0 0)) (u1 mS ((5 + (3 * room)) + 2) 0) mA (mRecV (u1 mF 0 0) mS mV) mT mB) := hD
        have hI2 : IM ((u1 mS ((5 + (3 * room)) + 2) 0)) := IM_hi hI (by omega) (by omega)
        refine x_al hC hl 0 dX5_close_51 rfl rfl ?_
        refine x_vI (As := []) hC (k5_openMany l D cs h (mRecF (u1 mF 0 0)) (u1 mS ((5 + (3 * room)) + 2) 0) mA (mRecV (u1 mF 0 0) mS mV) mT mB (by first | assumption | omega)) lk5_109 (q0 := 0) (ci := 5) rfl rfl rfl (sub_all hP hD hS hA) hP hS rfl hl.1 rfl (Nat.le_of_ble_eq_true rfl) ⟨rfl, rfl⟩ ⟨Nat.le_of_ble_eq_true rfl, Nat.le_of_ble_eq_true rfl⟩ ⟨Nat.le_of_ble_eq_true rfl, Nat.le_of_ble_eq_true rfl⟩ dX5_close_52 (fun H locs hP hD hS hHs => ?_)
        have ew_2 : (wM h cs (mRecF (u1 mF 0 0)) (u1 mS ((5 + (3 * room)) + 2) 0) mA (mRecV (u1 mF 0 0) mS mV) mT mB) = (wM h cs (iif ((0 ≤ room ∧ room ≤ 7) ∧ mS (5 + 3 * room + 2) = 1 ∧ mskI (fun t => mS (29 + 4 * t + 3) = room) (mS 1) = 0) (mRecF (u1 mF 0 0)) (u1 mF 0 0)) (iif ((0 ≤ room ∧ room ≤ 7) ∧ mS (5 + 3 * room + 2) = 1 ∧ mskI (fun t => mS (29 + 4 * t + 3) = room) (mS 1) = 0) (u1 mS (5 + 3 * room + 2) 0) mS) mA (iif ((0 ≤ room ∧ room ≤ 7) ∧ mS (5 + 3 * room + 2) = 1 ∧ mskI (fun t => mS (29 + 4 * t + 3) = room) (mS 1) = 0) (mRecV (u1 mF 0 0) mS mV) mV) mT mB) := (wMc (by first | exact (iif_t ⟨c_9, c_20, c_28⟩).symm | exact (iif_f (fun h => c_28 h.2.2)).symm | exact (iif_f (fun h => c_20 h.2.1)).symm | exact (iif_f (fun h => c_9 h.1)).symm : mRecF (u1 mF 0 0) = iif ((0 ≤ room ∧ room ≤ 7) ∧ mS (5 + 3 * room + 2) = 1 ∧ mskI (fun t => mS (29 + 4 * t + 3) = room) (mS 1) = 0) (mRecF (u1 mF 0 0)) (u1 mF 0 0)) (by first | exact (iif_t ⟨c_9, c_20, c_28⟩).symm | exact (iif_f (fun h => c_28 h.2.2)).symm | exact (iif_f (fun h => c_20 h.2.1)).symm | exact (iif_f (fun h => c_9 h.1)).symm : u1 mS ((5 + (3 * room)) + 2) 0 = iif ((0 ≤ room ∧ room ≤ 7) ∧ mS (5 + 3 * room + 2) = 1 ∧ mskI (fun t => mS (29 + 4 * t + 3) = room) (mS 1) = 0) (u1 mS (5 + 3 * room + 2) 0) mS) rfl (by first | exact (iif_t ⟨c_9, c_20, c_28⟩).symm | exact (iif_f (fun h => c_28 h.2.2)).symm | exact (iif_f (fun h => c_20 h.2.1)).symm | exact (iif_f (fun h => c_9 h.1)).symm : mRecV (u1 mF 0 0) mS mV = iif ((0 ≤ room ∧ room ≤ 7) ∧ mS (5 + 3 * room + 2) = 1 ∧ mskI (fun t => mS (29 + 4 * t + 3) = room) (mS 1) = 0) (mRecV (u1 mF 0 0) mS mV) mV) rfl rfl)
        have hP := vPe hP ew_2
        have hD := vDe hD ew_2
        exact x_retI (congrArg iI (by first | (rw [iif_t c_9]; first | exact (iif_t ⟨c_20, c_28⟩).symm | exact (iif_f (fun h => c_28 h.2)).symm | exact (iif_f (fun h => c_20 h.1)).symm) | exact (iif_f c_9).symm : mOpenN (u1 mS ((5 + (3 * room)) + 2) 0) 8 = iif (0 ≤ room ∧ room ≤ 7) (iif (mS (5 + 3 * room + 2) = 1 ∧ mskI (fun t => mS (29 + 4 * t + 3) = room) (mS 1) = 0) (mOpenN (u1 mS (5 + 3 * room + 2) 0) 8) (-1000002)) (-1000001))) hend hP hD hS dX5_close_55
      · refine x_ldc hC (-1000002) tb_720 (by decide) dX5_close_31 ?_
        have ew_3 : (wM h cs (u1 mF 0 0) mS mA mV mT mB) = (wM h cs (iif ((0 ≤ room ∧ room ≤ 7) ∧ mS (5 + 3 * room + 2) = 1 ∧ mskI (fun t => mS (29 + 4 * t + 3) = room) (mS 1) = 0) (mRecF (u1 mF 0 0)) (u1 mF 0 0)) (iif ((0 ≤ room ∧ room ≤ 7) ∧ mS (5 + 3 * room + 2) = 1 ∧ mskI (fun t => mS (29 + 4 * t + 3) = room) (mS 1) = 0) (u1 mS (5 + 3 * room + 2) 0) mS) mA (iif ((0 ≤ room ∧ room ≤ 7) ∧ mS (5 + 3 * room + 2) = 1 ∧ mskI (fun t => mS (29 + 4 * t + 3) = room) (mS 1) = 0) (mRecV (u1 mF 0 0) mS mV) mV) mT mB) := (wMc (by first | exact (iif_t ⟨c_9, c_20, c_28⟩).symm | exact (iif_f (fun h => c_28 h.2.2)).symm | exact (iif_f (fun h => c_20 h.2.1)).symm | exact (iif_f (fun h => c_9 h.1)).symm : u1 mF 0 0 = iif ((0 ≤ room ∧ room ≤ 7) ∧ mS (5 + 3 * room + 2) = 1 ∧ mskI (fun t => mS (29 + 4 * t + 3) = room) (mS 1) = 0) (mRecF (u1 mF 0 0)) (u1 mF 0 0)) (by first | exact (iif_t ⟨c_9, c_20, c_28⟩).symm | exact (iif_f (fun h => c_28 h.2.2)).symm | exact (iif_f (fun h => c_20 h.2.1)).symm | exact (iif_f (fun h => c_9 h.1)).symm : mS = iif ((0 ≤ room ∧ room ≤ 7) ∧ mS (5 + 3 * room + 2) = 1 ∧ mskI (fun t => mS (29 + 4 * t + 3) = room) (mS 1) = 0) (u1 mS (5 + 3 * room + 2) 0) mS) rfl (by first | exact (iif_t ⟨c_9, c_20, c_28⟩).symm | exact (iif_f (fun h => c_28 h.2.2)).symm | exact (iif_f (fun h => c_20 h.2.1)).symm | exact (iif_f (fun h => c_9 h.1)).symm : mV = iif ((0 ≤ room ∧ room ≤ 7) ∧ mS (5 + 3 * room + 2) = 1 ∧ mskI (fun t => mS (29 + 4 * t + 3) = room) (mS 1) = 0) (mRecV (u1 mF 0 0) mS mV) mV) rfl rfl)
        have hP := vPe hP ew_3
        have hD := vDe hD ew_3
        exact x_retI (congrArg iI (by first | (rw [iif_t c_9]; first | exact (iif_t ⟨c_20, c_28⟩).symm | exact (iif_f (fun h => c_28 h.2)).symm | exact (iif_f (fun h => c_20 h.1)).symm) | exact (iif_f c_9).symm : (-1000002) = iif (0 ≤ room ∧ room ≤ 7) (iif (mS (5 + 3 * room + 2) = 1 ∧ mskI (fun t => mS (29 + 4 * t + 3) = room) (mS 1) = 0) (mOpenN (u1 mS (5 + 3 * room + 2) 0) 8) (-1000002)) (-1000001))) hend hP hD hS dX5_close_33
  · refine x_ldc hC (-1000001) tb_683 (by decide) dX5_close_12 ?_
    have ew_4 : (wM h cs (u1 mF 0 0) mS mA mV mT mB) = (wM h cs (iif ((0 ≤ room ∧ room ≤ 7) ∧ mS (5 + 3 * room + 2) = 1 ∧ mskI (fun t => mS (29 + 4 * t + 3) = room) (mS 1) = 0) (mRecF (u1 mF 0 0)) (u1 mF 0 0)) (iif ((0 ≤ room ∧ room ≤ 7) ∧ mS (5 + 3 * room + 2) = 1 ∧ mskI (fun t => mS (29 + 4 * t + 3) = room) (mS 1) = 0) (u1 mS (5 + 3 * room + 2) 0) mS) mA (iif ((0 ≤ room ∧ room ≤ 7) ∧ mS (5 + 3 * room + 2) = 1 ∧ mskI (fun t => mS (29 + 4 * t + 3) = room) (mS 1) = 0) (mRecV (u1 mF 0 0) mS mV) mV) mT mB) := (wMc (by first | exact (iif_t ⟨c_9, c_20, c_28⟩).symm | exact (iif_f (fun h => c_28 h.2.2)).symm | exact (iif_f (fun h => c_20 h.2.1)).symm | exact (iif_f (fun h => c_9 h.1)).symm : u1 mF 0 0 = iif ((0 ≤ room ∧ room ≤ 7) ∧ mS (5 + 3 * room + 2) = 1 ∧ mskI (fun t => mS (29 + 4 * t + 3) = room) (mS 1) = 0) (mRecF (u1 mF 0 0)) (u1 mF 0 0)) (by first | exact (iif_t ⟨c_9, c_20, c_28⟩).symm | exact (iif_f (fun h => c_28 h.2.2)).symm | exact (iif_f (fun h => c_20 h.2.1)).symm | exact (iif_f (fun h => c_9 h.1)).symm : mS = iif ((0 ≤ room ∧ room ≤ 7) ∧ mS (5 + 3 * room + 2) = 1 ∧ mskI (fun t => mS (29 + 4 * t + 3) = room) (mS 1) = 0) (u1 mS (5 + 3 * room + 2) 0) mS) rfl (by first | exact (iif_t ⟨c_9, c_20, c_28⟩).symm | exact (iif_f (fun h => c_28 h.2.2)).symm | exact (iif_f (fun h => c_20 h.2.1)).symm | exact (iif_f (fun h => c_9 h.1)).symm : mV = iif ((0 ≤ room ∧ room ≤ 7) ∧ mS (5 + 3 * room + 2) = 1 ∧ mskI (fun t => mS (29 + 4 * t + 3) = room) (mS 1) = 0) (mRecV (u1 mF 0 0) mS mV) mV) rfl rfl)
    have hP := vPe hP ew_4
    have hD := vDe hD ew_4
    exact x_retI (congrArg iI (by first | (rw [iif_t c_9]; first | exact (iif_t ⟨c_20, c_28⟩).symm | exact (iif_f (fun h => c_28 h.2)).symm | exact (iif_f (fun h => c_20 h.1)).symm) | exact (iif_f c_9).symm : (-1000001) = iif (0 ≤ room ∧ room ≤ 7) (iif (mS (5 + 3 * room + 2) = 1 ∧ mskI (fun t => mS (29 + 4 * t + 3) = room) (mS 1) = 0) (mOpenN (u1 mS (5 + 3 * room + 2) 0) 8) (-1000002)) (-1000001))) hend hP hD hS dX5_close_14
abbrev r5_set : Room := { frames := 1, cells := 0, slots := 0, locals := 22 }
set_option maxHeartbeats 4000000 in
set_option maxRecDepth 100000 in
theorem k5_set (l : Launch) (D : va_G) (cs : Nat → ClassId) (h : Nat → Nat) (mF : Int → Int) (mS : Int → Int) (mA : Int → Int) (mV : Int → Int) (mT : Int → Int) (mB : Int → Int) (what : Int) (value : Int) (hI : IM mS) (h4 : 0 ≤ (mF 4) ∧ (mF 4) ≤ 4) (g_what : -2147483648 ≤ what ∧ what ≤ 2147483647) (g_value : -2147483648 ≤ value ∧ value ≤ 2147483647) : CI l D cs yX5_set cX5_set 4 .int r5_set 0 0 [.ref (h 0), .int (iI what), .int (iI value)] (wM h cs mF mS mA mV mT mB) (wM h cs (iif (what = 0 ∧ 0 ≤ value ∧ value ≤ 3) (mRecF (u1 mF 0 0)) (u1 mF 0 0)) (iif (what = 0 ∧ 0 ≤ value ∧ value ≤ 3) (u1 mS 0 value) mS) mA (iif (what = 0 ∧ 0 ≤ value ∧ value ≤ 3) (mRecV (u1 mF 0 0) mS mV) mV) mT mB) (iI (iif (what = 0 ∧ 0 ≤ value ∧ value ≤ 3) (mS 0) (-1000001))) := by
  refine CI_start (own := RX5) (by decide) rfl rfl (Nat.le_of_ble_eq_true rfl) ?_
  intro p e s m args below meth c Q A ls hC hl hP hD hA hS hend
  have hl : lv_has ls 4 [(0, .ref (h 0)), (1, .int (iI what)), (2, .int (iI value))] := hl
  obtain ⟨H, hH⟩ : ∃ H : Heap, H = s.heap := ⟨_, rfl⟩
  have hS : va_S A s.heap H [] := by rw [hH]; exact hS
  rw [← hH] at hP
  obtain ⟨locs, hlocs⟩ : ∃ locs : List Loc, locs = [] := ⟨_, rfl⟩
  rw [← hlocs] at hS
  suffices hgo : W p l e r5_set s m args below meth c H locs 0 0 Q (F0 m 0 ls []) by rw [← hH, ← hlocs]; exact hgo
  clear hH hlocs
  obtain ⟨z0, z1, -⟩ := id hI
  refine x_al hC hl 0 dX5_set_0 rfl rfl ?_
  refine x_ic hC dX5_set_1 ?_
  refine x_put5_0 hC hP hD hS 0 rfl tb_619 dX5_set_2 (fun H locs hP hD hS => ?_)
  have hP : va_P D vwCl (wM h cs (u1 mF 0 0) mS mA mV mT mB) H := hP
  have hD : va_D A (wM h cs (u1 mF 0 0) mS mA mV mT mB) := hD
  refine x_il hC hl 1 dX5_set_5 rfl rfl ?_
  refine x_if_ne hC 18 dX5_set_6 (by decide) (by omega) (fun c_6 => ?_) (fun c_6 => ?_)
  · refine x_ldc hC (-1000001) tb_683 (by decide) dX5_set_18 ?_
    have ew : (wM h cs (u1 mF 0 0) mS mA mV mT mB) = (wM h cs (iif (what = 0 ∧ 0 ≤ value ∧ value ≤ 3) (mRecF (u1 mF 0 0)) (u1 mF 0 0)) (iif (what = 0 ∧ 0 ≤ value ∧ value ≤ 3) (u1 mS 0 value) mS) mA (iif (what = 0 ∧ 0 ≤ value ∧ value ≤ 3) (mRecV (u1 mF 0 0) mS mV) mV) mT mB) := (wMc (by first | exact (iif_t ⟨c_6, c_15⟩).symm | exact (iif_f (fun h => c_15 h.2)).symm | exact (iif_f (fun h => c_6 h.1)).symm : u1 mF 0 0 = iif (what = 0 ∧ 0 ≤ value ∧ value ≤ 3) (mRecF (u1 mF 0 0)) (u1 mF 0 0)) (by first | exact (iif_t ⟨c_6, c_15⟩).symm | exact (iif_f (fun h => c_15 h.2)).symm | exact (iif_f (fun h => c_6 h.1)).symm : mS = iif (what = 0 ∧ 0 ≤ value ∧ value ≤ 3) (u1 mS 0 value) mS) rfl (by first | exact (iif_t ⟨c_6, c_15⟩).symm | exact (iif_f (fun h => c_15 h.2)).symm | exact (iif_f (fun h => c_6 h.1)).symm : mV = iif (what = 0 ∧ 0 ≤ value ∧ value ≤ 3) (mRecV (u1 mF 0 0) mS mV) mV) rfl rfl)
    have hP := vPe hP ew
    have hD := vDe hD ew
    exact x_retI (congrArg iI (by first | exact (iif_t ⟨c_6, c_15⟩).symm | exact (iif_f (fun h => c_15 h.2)).symm | exact (iif_f (fun h => c_6 h.1)).symm : (-1000001) = iif (what = 0 ∧ 0 ≤ value ∧ value ≤ 3) (mS 0) (-1000001))) hend hP hD hS dX5_set_20
  · refine x_il hC hl 2 dX5_set_9 rfl rfl ?_
    refine x_ic hC dX5_set_10 ?_
    refine x_ic hC dX5_set_11 ?_
    refine x_sI (As := [.int (iI value), .int (iI 0), .int (iI 3)]) hC (k5_in l D cs value 0 3 (by first | assumption | omega) (by first | assumption | omega) (by first | assumption | omega)) lk5_30 (sub_none hP hD hS hA) hP hS rfl hl.1 rfl (Nat.le_of_ble_eq_true rfl) ⟨rfl, rfl⟩ ⟨Nat.le_of_ble_eq_true rfl, Nat.le_of_ble_eq_true rfl⟩ ⟨Nat.le_of_ble_eq_true rfl, Nat.le_of_ble_eq_true rfl⟩ dX5_set_12 (fun H locs hP hD hS hHs => ?_)
    refine x_if_ne_b hC 21 dX5_set_15 (by decide) (fun c_15 => ?_) (fun c_15 => ?_)
    · refine x_al hC hl 0 dX5_set_21 rfl rfl ?_
      refine x_vV (As := []) hC (k5_records l D cs h (u1 mF 0 0) mS mA mV mT mB (by show 0 ≤ (mF 4) ∧ (mF 4) ≤ 4; first | assumption | omega)) lk5_81 (q0 := 0) (ci := 5) rfl rfl rfl (sub_all hP hD hS hA) hP hS rfl hl.1 rfl (Nat.le_of_ble_eq_true rfl) ⟨rfl, rfl⟩ ⟨Nat.le_of_ble_eq_true rfl, Nat.le_of_ble_eq_true rfl⟩ ⟨Nat.le_of_ble_eq_true rfl, Nat.le_of_ble_eq_true rfl⟩ dX5_set_22 (fun H locs hP hD hS hHs => ?_)
      have hP : va_P D vwCl (wM h cs (mRecF (u1 mF 0 0)) mS mA (mRecV (u1 mF 0 0) mS mV) mT mB) H := hP
      have hD : va_D A (wM h cs (mRecF (u1 mF 0 0)) mS mA (mRecV (u1 mF 0 0) mS mV) mT mB) := hD
      refine x_al hC hl 0 dX5_set_25 rfl rfl ?_
      refine x_get5 (v := .ref (h 1)) hC hP 0 rfl 1 (by decide) tb_620 rfl rfl dX5_set_26 ?_
      refine x_ic hC dX5_set_29 ?_
      refine x_iald hC hP 1 rfl (by omega) (by decide) dX5_set_30 ?_
      refine x_is hC [(3, .int (iI (mS 0))), (0, .ref (h 0)), (1, .int (iI what)), (2, .int (iI value))] hl dX5_set_31 rfl (by decide) rfl (fun ls hl => ?_)
      refine x_al hC hl 1 dX5_set_32 rfl rfl ?_
      refine x_get5 (v := .ref (h 1)) hC hP 0 rfl 1 (by decide) tb_620 rfl rfl dX5_set_33 ?_
      refine x_ic hC dX5_set_36 ?_
      refine x_il hC hl 3 dX5_set_37 rfl rfl ?_
      refine x_iast hC hP hD hS 1 rfl (by omega) (by decide) dX5_set_38 (fun H locs hP hD hS => ?_)
      have hP : va_P D vwCl (wM h cs (mRecF (u1 mF 0 0)) (u1 mS 0 value) mA (mRecV (u1 mF 0 0) mS mV) mT mB) H := hP
      have hD : va_D A (wM h cs (mRecF (u1 mF 0 0)) (u1 mS 0 value) mA (mRecV (u1 mF 0 0) mS mV) mT mB) := hD
      refine x_il hC hl 0 dX5_set_39 rfl rfl ?_
      have ew_2 : (wM h cs (mRecF (u1 mF 0 0)) (u1 mS 0 value) mA (mRecV (u1 mF 0 0) mS mV) mT mB) = (wM h cs (iif (what = 0 ∧ 0 ≤ value ∧ value ≤ 3) (mRecF (u1 mF 0 0)) (u1 mF 0 0)) (iif (what = 0 ∧ 0 ≤ value ∧ value ≤ 3) (u1 mS 0 value) mS) mA (iif (what = 0 ∧ 0 ≤ value ∧ value ≤ 3) (mRecV (u1 mF 0 0) mS mV) mV) mT mB) := (wMc (by first | exact (iif_t ⟨c_6, c_15⟩).symm | exact (iif_f (fun h => c_15 h.2)).symm | exact (iif_f (fun h => c_6 h.1)).symm : mRecF (u1 mF 0 0) = iif (what = 0 ∧ 0 ≤ value ∧ value ≤ 3) (mRecF (u1 mF 0 0)) (u1 mF 0 0)) (by first | exact (iif_t ⟨c_6, c_15⟩).symm | exact (iif_f (fun h => c_15 h.2)).symm | exact (iif_f (fun h => c_6 h.1)).symm : u1 mS 0 value = iif (what = 0 ∧ 0 ≤ value ∧ value ≤ 3) (u1 mS 0 value) mS) rfl (by first | exact (iif_t ⟨c_6, c_15⟩).symm | exact (iif_f (fun h => c_15 h.2)).symm | exact (iif_f (fun h => c_6 h.1)).symm : mRecV (u1 mF 0 0) mS mV = iif (what = 0 ∧ 0 ≤ value ∧ value ≤ 3) (mRecV (u1 mF 0 0) mS mV) mV) rfl rfl)
      have hP := vPe hP ew_2
      have hD := vDe hD ew_2
      exact x_retI (congrArg iI (by first | exact (iif_t ⟨c_6, c_15⟩).symm | exact (iif_f (fun h => c_15 h.2)).symm | exact (iif_f (fun h => c_6 h.1)).symm : mS 0 = iif (what = 0 ∧ 0 ≤ value ∧ value ≤ 3) (mS 0) (-1000001))) hend hP hD hS dX5_set_40
    · refine x_ldc hC (-1000001) tb_683 (by decide) dX5_set_18 ?_
      have ew_3 : (wM h cs (u1 mF 0 0) mS mA mV mT mB) = (wM h cs (iif (what = 0 ∧ 0 ≤ value ∧ value ≤ 3) (mRecF (u1 mF 0 0)) (u1 mF 0 0)) (iif (what = 0 ∧ 0 ≤ value ∧ value ≤ 3) (u1 mS 0 value) mS) mA (iif (what = 0 ∧ 0 ≤ value ∧ value ≤ 3) (mRecV (u1 mF 0 0) mS mV) mV) mT mB) := (wMc (by first | exact (iif_t ⟨c_6, c_15⟩).symm | exact (iif_f (fun h => c_15 h.2)).symm | exact (iif_f (fun h => c_6 h.1)).symm : u1 mF 0 0 = iif (what = 0 ∧ 0 ≤ value ∧ value ≤ 3) (mRecF (u1 mF 0 0)) (u1 mF 0 0)) (by first | exact (iif_t ⟨c_6, c_15⟩).symm | exact (iif_f (fun h => c_15 h.2)).symm | exact (iif_f (fun h => c_6 h.1)).symm : mS = iif (what = 0 ∧ 0 ≤ value ∧ value ≤ 3) (u1 mS 0 value) mS) rfl (by first | exact (iif_t ⟨c_6, c_15⟩).symm | exact (iif_f (fun h => c_15 h.2)).symm | exact (iif_f (fun h => c_6 h.1)).symm : mV = iif (what = 0 ∧ 0 ≤ value ∧ value ≤ 3) (mRecV (u1 mF 0 0) mS mV) mV) rfl rfl)
      have hP := vPe hP ew_3
      have hD := vDe hD ew_3
      exact x_retI (congrArg iI (by first | exact (iif_t ⟨c_6, c_15⟩).symm | exact (iif_f (fun h => c_15 h.2)).symm | exact (iif_f (fun h => c_6 h.1)).symm : (-1000001) = iif (what = 0 ∧ 0 ≤ value ∧ value ≤ 3) (mS 0) (-1000001))) hend hP hD hS dX5_set_20
abbrev r5_talkOf : Room := { frames := 4, cells := 0, slots := 0, locals := 94 }
set_option maxHeartbeats 4000000 in
set_option maxRecDepth 100000 in
theorem k5_talkOf (l : Launch) (D : va_G) (cs : Nat → ClassId) (h : Nat → Nat) (mF : Int → Int) (mS : Int → Int) (mA : Int → Int) (mV : Int → Int) (mT : Int → Int) (mB : Int → Int) (talk : Int) (what : Int) (hI : IM mS) (g_talk : -2147483648 ≤ talk ∧ talk ≤ 2147483647) (g_what : -2147483648 ≤ what ∧ what ≤ 2147483647) : CI l D cs yX5_talkOf cX5_talkOf 3 .int r5_talkOf 0 0 [.ref (h 0), .int (iI talk), .int (iI what)] (wM h cs mF mS mA mV mT mB) (wM h cs (u1 mF 0 0) mS mA mV mT mB) (iif (mTalkP mS talk ∧ 0 ≤ what ∧ what ≤ 5) (iif (what = 4) (mskI (fun t => mMove mS talk t) 8) (iif (what = 5) (mskI (fun t => ¬ t = talk ∧ ¬ mS (29 + 4 * t + 3) = -1 ∧ mS (29 + 4 * t + 0) < mS (29 + 4 * talk + 1) ∧ mS (29 + 4 * talk + 0) < mS (29 + 4 * t + 1)) (mS 1)) (iI (mS (29 + 4 * talk + what))))) (iI (-1000001))) := by
  refine CI_start (own := RX5) (by decide) rfl rfl (Nat.le_of_ble_eq_true rfl) ?_
  intro p e s m args below meth c Q A ls hC hl hP hD hA hS hend
  have hl : lv_has ls 3 [(0, .ref (h 0)), (1, .int (iI talk)), (2, .int (iI what))] := hl
  obtain ⟨H, hH⟩ : ∃ H : Heap, H = s.heap := ⟨_, rfl⟩
  have hS : va_S A s.heap H [] := by rw [hH]; exact hS
  rw [← hH] at hP
  obtain ⟨locs, hlocs⟩ : ∃ locs : List Loc, locs = [] := ⟨_, rfl⟩
  rw [← hlocs] at hS
  suffices hgo : W p l e r5_talkOf s m args below meth c H locs 0 0 Q (F0 m 0 ls []) by rw [← hH, ← hlocs]; exact hgo
  clear hH hlocs
  obtain ⟨z0, z1, -⟩ := id hI
  refine x_al hC hl 0 dX5_talkOf_0 rfl rfl ?_
  refine x_ic hC dX5_talkOf_1 ?_
  refine x_put5_0 hC hP hD hS 0 rfl tb_619 dX5_talkOf_2 (fun H locs hP hD hS => ?_)
  have hP : va_P D vwCl (wM h cs (u1 mF 0 0) mS mA mV mT mB) H := hP
  have hD : va_D A (wM h cs (u1 mF 0 0) mS mA mV mT mB) := hD
  refine x_al hC hl 0 dX5_talkOf_5 rfl rfl ?_
  refine x_il hC hl 1 dX5_talkOf_6 rfl rfl ?_
  refine x_vI (As := [.int (iI talk)]) hC (k5_isTalk l D cs h (u1 mF 0 0) mS mA mV mT mB talk (by first | assumption | omega) (by first | assumption | omega)) lk5_87 (q0 := 0) (ci := 5) rfl rfl rfl (sub_all hP hD hS hA) hP hS rfl hl.1 rfl (Nat.le_of_ble_eq_true rfl) ⟨rfl, rfl⟩ ⟨Nat.le_of_ble_eq_true rfl, Nat.le_of_ble_eq_true rfl⟩ ⟨Nat.le_of_ble_eq_true rfl, Nat.le_of_ble_eq_true rfl⟩ dX5_talkOf_7 (fun H locs hP hD hS hHs => ?_)
  refine x_if_eq_b hC 22 dX5_talkOf_10 (by decide) (fun c_10 => ?_) (fun c_10 => ?_)
  · refine x_ldc hC (-1000001) tb_683 (by decide) dX5_talkOf_22 ?_
    exact x_retI ((by first | exact (iif_f (fun h => c_19 h.2)).symm | exact (iif_f (fun h => c_10 h.1)).symm | (rw [iif_t ⟨c_10, c_19⟩]; first | exact (iif_t c_27).symm | (rw [iif_f c_27]; first | exact (iif_t c_40).symm | exact (iif_f c_40).symm)) : iI (-1000001) = iif (mTalkP mS talk ∧ 0 ≤ what ∧ what ≤ 5) (iif (what = 4) (mskI (fun t => mMove mS talk t) 8) (iif (what = 5) (mskI (fun t => ¬ t = talk ∧ ¬ mS (29 + 4 * t + 3) = -1 ∧ mS (29 + 4 * t + 0) < mS (29 + 4 * talk + 1) ∧ mS (29 + 4 * talk + 0) < mS (29 + 4 * t + 1)) (mS 1)) (iI (mS (29 + 4 * talk + what))))) (iI (-1000001)))) hend hP hD hS dX5_talkOf_24
  · refine x_il hC hl 2 dX5_talkOf_13 rfl rfl ?_
    refine x_ic hC dX5_talkOf_14 ?_
    refine x_ic hC dX5_talkOf_15 ?_
    refine x_sI (As := [.int (iI what), .int (iI 0), .int (iI 5)]) hC (k5_in l D cs what 0 5 (by first | assumption | omega) (by first | assumption | omega) (by first | assumption | omega)) lk5_30 (sub_none hP hD hS hA) hP hS rfl hl.1 rfl (Nat.le_of_ble_eq_true rfl) ⟨rfl, rfl⟩ ⟨Nat.le_of_ble_eq_true rfl, Nat.le_of_ble_eq_true rfl⟩ ⟨Nat.le_of_ble_eq_true rfl, Nat.le_of_ble_eq_true rfl⟩ dX5_talkOf_16 (fun H locs hP hD hS hHs => ?_)
    refine x_if_ne_b hC 25 dX5_talkOf_19 (by decide) (fun c_19 => ?_) (fun c_19 => ?_)
    · have hz := (id c_10 : mTalkP mS talk)
      unfold mTalkP at hz
      refine x_il hC hl 2 dX5_talkOf_25 rfl rfl ?_
      refine x_ic hC dX5_talkOf_26 ?_
      refine x_ic_ne hC 38 dX5_talkOf_27 (by decide) (by omega) (by omega) (fun c_27 => ?_) (fun c_27 => ?_)
      · refine x_il hC hl 2 dX5_talkOf_38 rfl rfl ?_
        refine x_ic hC dX5_talkOf_39 ?_
        refine x_ic_ne hC 51 dX5_talkOf_40 (by decide) (by omega) (by omega) (fun c_40 => ?_) (fun c_40 => ?_)
        · refine x_al hC hl 0 dX5_talkOf_51 rfl rfl ?_
          refine x_il hC hl 1 dX5_talkOf_52 rfl rfl ?_
          refine x_il hC hl 2 dX5_talkOf_53 rfl rfl ?_
          refine x_vI (As := [.int (iI talk), .int (iI what)]) hC (k5_of l D cs h (u1 mF 0 0) mS mA mV mT mB talk what (by first | assumption | omega) (by first | assumption | omega) (by first | assumption | omega)) lk5_34 (q0 := 0) (ci := 5) rfl rfl rfl (sub_all hP hD hS hA) hP hS rfl hl.1 rfl (Nat.le_of_ble_eq_true rfl) ⟨rfl, rfl⟩ ⟨Nat.le_of_ble_eq_true rfl, Nat.le_of_ble_eq_true rfl⟩ ⟨Nat.le_of_ble_eq_true rfl, Nat.le_of_ble_eq_true rfl⟩ dX5_talkOf_54 (fun H locs hP hD hS hHs => ?_)
          have q_54 := imB (S := mS) (by assumption) (29 + 4 * talk + what) (by omega)
          exact x_retI ((by first | exact (iif_f (fun h => c_19 h.2)).symm | exact (iif_f (fun h => c_10 h.1)).symm | (rw [iif_t ⟨c_10, c_19⟩]; first | exact (iif_t c_27).symm | (rw [iif_f c_27]; first | exact (iif_t c_40).symm | exact (iif_f c_40).symm)) : iI (mS (29 + 4 * talk + what)) = iif (mTalkP mS talk ∧ 0 ≤ what ∧ what ≤ 5) (iif (what = 4) (mskI (fun t => mMove mS talk t) 8) (iif (what = 5) (mskI (fun t => ¬ t = talk ∧ ¬ mS (29 + 4 * t + 3) = -1 ∧ mS (29 + 4 * t + 0) < mS (29 + 4 * talk + 1) ∧ mS (29 + 4 * talk + 0) < mS (29 + 4 * t + 1)) (mS 1)) (iI (mS (29 + 4 * talk + what))))) (iI (-1000001)))) hend hP hD hS dX5_talkOf_57
        · refine x_al hC hl 0 dX5_talkOf_43 rfl rfl ?_
          refine x_il hC hl 1 dX5_talkOf_44 rfl rfl ?_
          refine x_vI (As := [.int (iI talk)]) hC (k5_beside l D cs h (u1 mF 0 0) mS mA mV mT mB talk (by first | assumption | omega) (by first | assumption | omega)) lk5_140 (q0 := 0) (ci := 5) rfl rfl rfl (sub_all hP hD hS hA) hP hS rfl hl.1 rfl (Nat.le_of_ble_eq_true rfl) ⟨rfl, rfl⟩ ⟨Nat.le_of_ble_eq_true rfl, Nat.le_of_ble_eq_true rfl⟩ ⟨Nat.le_of_ble_eq_true rfl, Nat.le_of_ble_eq_true rfl⟩ dX5_talkOf_45 (fun H locs hP hD hS hHs => ?_)
          refine x_goto hC 57 dX5_talkOf_48 (by decide) ?_
          exact x_retI ((by first | exact (iif_f (fun h => c_19 h.2)).symm | exact (iif_f (fun h => c_10 h.1)).symm | (rw [iif_t ⟨c_10, c_19⟩]; first | exact (iif_t c_27).symm | (rw [iif_f c_27]; first | exact (iif_t c_40).symm | exact (iif_f c_40).symm)) : mskI (fun t => ¬ t = talk ∧ ¬ mS (29 + 4 * t + 3) = -1 ∧ mS (29 + 4 * t + 0) < mS (29 + 4 * talk + 1) ∧ mS (29 + 4 * talk + 0) < mS (29 + 4 * t + 1)) (mS 1) = iif (mTalkP mS talk ∧ 0 ≤ what ∧ what ≤ 5) (iif (what = 4) (mskI (fun t => mMove mS talk t) 8) (iif (what = 5) (mskI (fun t => ¬ t = talk ∧ ¬ mS (29 + 4 * t + 3) = -1 ∧ mS (29 + 4 * t + 0) < mS (29 + 4 * talk + 1) ∧ mS (29 + 4 * talk + 0) < mS (29 + 4 * t + 1)) (mS 1)) (iI (mS (29 + 4 * talk + what))))) (iI (-1000001)))) hend hP hD hS dX5_talkOf_57
      · refine x_al hC hl 0 dX5_talkOf_30 rfl rfl ?_
        refine x_il hC hl 1 dX5_talkOf_31 rfl rfl ?_
        refine x_vI (As := [.int (iI talk)]) hC (k5_instead l D cs h (u1 mF 0 0) mS mA mV mT mB talk (by first | assumption | omega) (by first | assumption | omega)) lk5_137 (q0 := 0) (ci := 5) rfl rfl rfl (sub_all hP hD hS hA) hP hS rfl hl.1 rfl (Nat.le_of_ble_eq_true rfl) ⟨rfl, rfl⟩ ⟨Nat.le_of_ble_eq_true rfl, Nat.le_of_ble_eq_true rfl⟩ ⟨Nat.le_of_ble_eq_true rfl, Nat.le_of_ble_eq_true rfl⟩ dX5_talkOf_32 (fun H locs hP hD hS hHs => ?_)
        refine x_goto hC 57 dX5_talkOf_35 (by decide) ?_
        exact x_retI ((by first | exact (iif_f (fun h => c_19 h.2)).symm | exact (iif_f (fun h => c_10 h.1)).symm | (rw [iif_t ⟨c_10, c_19⟩]; first | exact (iif_t c_27).symm | (rw [iif_f c_27]; first | exact (iif_t c_40).symm | exact (iif_f c_40).symm)) : mskI (fun t => mMove mS talk t) (8) = iif (mTalkP mS talk ∧ 0 ≤ what ∧ what ≤ 5) (iif (what = 4) (mskI (fun t => mMove mS talk t) 8) (iif (what = 5) (mskI (fun t => ¬ t = talk ∧ ¬ mS (29 + 4 * t + 3) = -1 ∧ mS (29 + 4 * t + 0) < mS (29 + 4 * talk + 1) ∧ mS (29 + 4 * talk + 0) < mS (29 + 4 * t + 1)) (mS 1)) (iI (mS (29 + 4 * talk + what))))) (iI (-1000001)))) hend hP hD hS dX5_talkOf_57
    · refine x_ldc hC (-1000001) tb_683 (by decide) dX5_talkOf_22 ?_
      exact x_retI ((by first | exact (iif_f (fun h => c_19 h.2)).symm | exact (iif_f (fun h => c_10 h.1)).symm | (rw [iif_t ⟨c_10, c_19⟩]; first | exact (iif_t c_27).symm | (rw [iif_f c_27]; first | exact (iif_t c_40).symm | exact (iif_f c_40).symm)) : iI (-1000001) = iif (mTalkP mS talk ∧ 0 ≤ what ∧ what ≤ 5) (iif (what = 4) (mskI (fun t => mMove mS talk t) 8) (iif (what = 5) (mskI (fun t => ¬ t = talk ∧ ¬ mS (29 + 4 * t + 3) = -1 ∧ mS (29 + 4 * t + 0) < mS (29 + 4 * talk + 1) ∧ mS (29 + 4 * talk + 0) < mS (29 + 4 * t + 1)) (mS 1)) (iI (mS (29 + 4 * talk + what))))) (iI (-1000001)))) hend hP hD hS dX5_talkOf_24
abbrev r5_roomOf : Room := { frames := 3, cells := 0, slots := 0, locals := 69 }
set_option maxHeartbeats 4000000 in
set_option maxRecDepth 100000 in
theorem k5_roomOf (l : Launch) (D : va_G) (cs : Nat → ClassId) (h : Nat → Nat) (mF : Int → Int) (mS : Int → Int) (mA : Int → Int) (mV : Int → Int) (mT : Int → Int) (mB : Int → Int) (room : Int) (what : Int) (hI : IM mS) (g_room : -2147483648 ≤ room ∧ room ≤ 2147483647) (g_what : -2147483648 ≤ what ∧ what ≤ 2147483647) : CI l D cs yX5_roomOf cX5_roomOf 3 .int r5_roomOf 0 0 [.ref (h 0), .int (iI room), .int (iI what)] (wM h cs mF mS mA mV mT mB) (wM h cs (u1 mF 0 0) mS mA mV mT mB) (iif (0 ≤ room ∧ room ≤ 7) (mRoomOf mS room what) (iI (-1000001))) := by
  refine CI_start (own := RX5) (by decide) rfl rfl (Nat.le_of_ble_eq_true rfl) ?_
  intro p e s m args below meth c Q A ls hC hl hP hD hA hS hend
  have hl : lv_has ls 3 [(0, .ref (h 0)), (1, .int (iI room)), (2, .int (iI what))] := hl
  obtain ⟨H, hH⟩ : ∃ H : Heap, H = s.heap := ⟨_, rfl⟩
  have hS : va_S A s.heap H [] := by rw [hH]; exact hS
  rw [← hH] at hP
  obtain ⟨locs, hlocs⟩ : ∃ locs : List Loc, locs = [] := ⟨_, rfl⟩
  rw [← hlocs] at hS
  suffices hgo : W p l e r5_roomOf s m args below meth c H locs 0 0 Q (F0 m 0 ls []) by rw [← hH, ← hlocs]; exact hgo
  clear hH hlocs
  obtain ⟨z0, z1, -⟩ := id hI
  refine x_al hC hl 0 dX5_roomOf_0 rfl rfl ?_
  refine x_ic hC dX5_roomOf_1 ?_
  refine x_put5_0 hC hP hD hS 0 rfl tb_619 dX5_roomOf_2 (fun H locs hP hD hS => ?_)
  have hP : va_P D vwCl (wM h cs (u1 mF 0 0) mS mA mV mT mB) H := hP
  have hD : va_D A (wM h cs (u1 mF 0 0) mS mA mV mT mB) := hD
  refine x_il hC hl 1 dX5_roomOf_5 rfl rfl ?_
  refine x_sI (As := [.int (iI room)]) hC (k5_isRoom l D cs room (by first | assumption | omega)) lk5_93 (sub_none hP hD hS hA) hP hS rfl hl.1 rfl (Nat.le_of_ble_eq_true rfl) ⟨rfl, rfl⟩ ⟨Nat.le_of_ble_eq_true rfl, Nat.le_of_ble_eq_true rfl⟩ ⟨Nat.le_of_ble_eq_true rfl, Nat.le_of_ble_eq_true rfl⟩ dX5_roomOf_6 (fun H locs hP hD hS hHs => ?_)
  refine x_if_ne_b hC 15 dX5_roomOf_9 (by decide) (fun c_9 => ?_) (fun c_9 => ?_)
  · refine x_il hC hl 2 dX5_roomOf_15 rfl rfl ?_
    by_cases c_16_0 : what = 0
    · refine x_tsIn hC 60 dX5_roomOf_16 (by rw [c_16_0]; omega) (by rw [c_16_0]; decide) (by rw [c_16_0]; decide) (by rw [c_16_0]; rfl) (by decide) ?_
      refine x_al hC hl 0 dX5_roomOf_60 rfl rfl ?_
      refine x_il hC hl 1 dX5_roomOf_61 rfl rfl ?_
      refine x_il hC hl 2 dX5_roomOf_62 rfl rfl ?_
      refine x_vI (As := [.int (iI room), .int (iI what)]) hC (k5_room0 l D cs h (u1 mF 0 0) mS mA mV mT mB room what (by first | assumption | omega) (by first | assumption | omega) (by first | assumption | omega)) lk5_38 (q0 := 0) (ci := 5) rfl rfl rfl (sub_all hP hD hS hA) hP hS rfl hl.1 rfl (Nat.le_of_ble_eq_true rfl) ⟨rfl, rfl⟩ ⟨Nat.le_of_ble_eq_true rfl, Nat.le_of_ble_eq_true rfl⟩ ⟨Nat.le_of_ble_eq_true rfl, Nat.le_of_ble_eq_true rfl⟩ dX5_roomOf_63 (fun H locs hP hD hS hHs => ?_)
      have q_63 := imB (S := mS) (by assumption) (5 + 3 * room + what) (by omega)
      exact x_retI ((by first | exact (iif_f c_9).symm | (rw [iif_t c_9]; unfold mRoomOf; first | (rw [iif_t (by omega)]; done) | (rw [iif_f (by omega), iif_t (by omega)]; done) | (rw [iif_f (by omega), iif_f (by omega), iif_t (by omega)]; done) | (rw [iif_f (by omega), iif_f (by omega), iif_f (by omega), iif_t (by omega)]; done) | (rw [iif_f (by omega), iif_f (by omega), iif_f (by omega), iif_f (by omega), iif_t (by omega)]; first | done | (congr 3; omega)) | (rw [iif_f (by omega), iif_f (by omega), iif_f (by omega), iif_f (by omega), iif_f (by omega)]; done)) : iI (mS (5 + 3 * room + what)) = iif (0 ≤ room ∧ room ≤ 7) (mRoomOf mS room what) (iI (-1000001)))) hend hP hD hS dX5_roomOf_66
    by_cases c_16_1 : what = 1
    · refine x_tsIn hC 60 dX5_roomOf_16 (by rw [c_16_1]; omega) (by rw [c_16_1]; decide) (by rw [c_16_1]; decide) (by rw [c_16_1]; rfl) (by decide) ?_
      refine x_al hC hl 0 dX5_roomOf_60 rfl rfl ?_
      refine x_il hC hl 1 dX5_roomOf_61 rfl rfl ?_
      refine x_il hC hl 2 dX5_roomOf_62 rfl rfl ?_
      refine x_vI (As := [.int (iI room), .int (iI what)]) hC (k5_room0 l D cs h (u1 mF 0 0) mS mA mV mT mB room what (by first | assumption | omega) (by first | assumption | omega) (by first | assumption | omega)) lk5_38 (q0 := 0) (ci := 5) rfl rfl rfl (sub_all hP hD hS hA) hP hS rfl hl.1 rfl (Nat.le_of_ble_eq_true rfl) ⟨rfl, rfl⟩ ⟨Nat.le_of_ble_eq_true rfl, Nat.le_of_ble_eq_true rfl⟩ ⟨Nat.le_of_ble_eq_true rfl, Nat.le_of_ble_eq_true rfl⟩ dX5_roomOf_63 (fun H locs hP hD hS hHs => ?_)
      have q_63_2 := imB (S := mS) (by assumption) (5 + 3 * room + what) (by omega)
      exact x_retI ((by first | exact (iif_f c_9).symm | (rw [iif_t c_9]; unfold mRoomOf; first | (rw [iif_t (by omega)]; done) | (rw [iif_f (by omega), iif_t (by omega)]; done) | (rw [iif_f (by omega), iif_f (by omega), iif_t (by omega)]; done) | (rw [iif_f (by omega), iif_f (by omega), iif_f (by omega), iif_t (by omega)]; done) | (rw [iif_f (by omega), iif_f (by omega), iif_f (by omega), iif_f (by omega), iif_t (by omega)]; first | done | (congr 3; omega)) | (rw [iif_f (by omega), iif_f (by omega), iif_f (by omega), iif_f (by omega), iif_f (by omega)]; done)) : iI (mS (5 + 3 * room + what)) = iif (0 ≤ room ∧ room ≤ 7) (mRoomOf mS room what) (iI (-1000001)))) hend hP hD hS dX5_roomOf_66
    by_cases c_16_2 : what = 2
    · refine x_tsIn hC 60 dX5_roomOf_16 (by rw [c_16_2]; omega) (by rw [c_16_2]; decide) (by rw [c_16_2]; decide) (by rw [c_16_2]; rfl) (by decide) ?_
      refine x_al hC hl 0 dX5_roomOf_60 rfl rfl ?_
      refine x_il hC hl 1 dX5_roomOf_61 rfl rfl ?_
      refine x_il hC hl 2 dX5_roomOf_62 rfl rfl ?_
      refine x_vI (As := [.int (iI room), .int (iI what)]) hC (k5_room0 l D cs h (u1 mF 0 0) mS mA mV mT mB room what (by first | assumption | omega) (by first | assumption | omega) (by first | assumption | omega)) lk5_38 (q0 := 0) (ci := 5) rfl rfl rfl (sub_all hP hD hS hA) hP hS rfl hl.1 rfl (Nat.le_of_ble_eq_true rfl) ⟨rfl, rfl⟩ ⟨Nat.le_of_ble_eq_true rfl, Nat.le_of_ble_eq_true rfl⟩ ⟨Nat.le_of_ble_eq_true rfl, Nat.le_of_ble_eq_true rfl⟩ dX5_roomOf_63 (fun H locs hP hD hS hHs => ?_)
      have q_63_3 := imB (S := mS) (by assumption) (5 + 3 * room + what) (by omega)
      exact x_retI ((by first | exact (iif_f c_9).symm | (rw [iif_t c_9]; unfold mRoomOf; first | (rw [iif_t (by omega)]; done) | (rw [iif_f (by omega), iif_t (by omega)]; done) | (rw [iif_f (by omega), iif_f (by omega), iif_t (by omega)]; done) | (rw [iif_f (by omega), iif_f (by omega), iif_f (by omega), iif_t (by omega)]; done) | (rw [iif_f (by omega), iif_f (by omega), iif_f (by omega), iif_f (by omega), iif_t (by omega)]; first | done | (congr 3; omega)) | (rw [iif_f (by omega), iif_f (by omega), iif_f (by omega), iif_f (by omega), iif_f (by omega)]; done)) : iI (mS (5 + 3 * room + what)) = iif (0 ≤ room ∧ room ≤ 7) (mRoomOf mS room what) (iI (-1000001)))) hend hP hD hS dX5_roomOf_66
    by_cases c_16_3 : what = 3
    · refine x_tsIn hC 67 dX5_roomOf_16 (by rw [c_16_3]; omega) (by rw [c_16_3]; decide) (by rw [c_16_3]; decide) (by rw [c_16_3]; rfl) (by decide) ?_
      refine x_al hC hl 0 dX5_roomOf_67 rfl rfl ?_
      refine x_il hC hl 1 dX5_roomOf_68 rfl rfl ?_
      refine x_vI (As := [.int (iI room)]) hC (k5_talksIn l D cs h (u1 mF 0 0) mS mA mV mT mB room (by first | assumption | omega) (by first | assumption | omega)) lk5_106 (q0 := 0) (ci := 5) rfl rfl rfl (sub_all hP hD hS hA) hP hS rfl hl.1 rfl (Nat.le_of_ble_eq_true rfl) ⟨rfl, rfl⟩ ⟨Nat.le_of_ble_eq_true rfl, Nat.le_of_ble_eq_true rfl⟩ ⟨Nat.le_of_ble_eq_true rfl, Nat.le_of_ble_eq_true rfl⟩ dX5_roomOf_69 (fun H locs hP hD hS hHs => ?_)
      refine x_sI (As := [.int (mskI (fun t => mS (29 + 4 * t + 3) = room) (mS 1))]) hC (k5_ones l D cs (mskI (fun t => mS (29 + 4 * t + 3) = room) (mS 1)) ) lk5_146 (sub_none hP hD hS hA) hP hS rfl hl.1 rfl (Nat.le_of_ble_eq_true rfl) ⟨rfl, rfl⟩ ⟨Nat.le_of_ble_eq_true rfl, Nat.le_of_ble_eq_true rfl⟩ ⟨Nat.le_of_ble_eq_true rfl, Nat.le_of_ble_eq_true rfl⟩ dX5_roomOf_72 (fun H locs hP hD hS hHs => ?_)
      exact x_retI ((by first | exact (iif_f c_9).symm | (rw [iif_t c_9]; unfold mRoomOf; first | (rw [iif_t (by omega)]; done) | (rw [iif_f (by omega), iif_t (by omega)]; done) | (rw [iif_f (by omega), iif_f (by omega), iif_t (by omega)]; done) | (rw [iif_f (by omega), iif_f (by omega), iif_f (by omega), iif_t (by omega)]; done) | (rw [iif_f (by omega), iif_f (by omega), iif_f (by omega), iif_f (by omega), iif_t (by omega)]; first | done | (congr 3; omega)) | (rw [iif_f (by omega), iif_f (by omega), iif_f (by omega), iif_f (by omega), iif_f (by omega)]; done)) : iI (popI (mskI (fun t => mS (29 + 4 * t + 3) = room) (mS 1)) 20) = iif (0 ≤ room ∧ room ≤ 7) (mRoomOf mS room what) (iI (-1000001)))) hend hP hD hS dX5_roomOf_75
    by_cases c_16_4 : what = 4
    · refine x_tsIn hC 76 dX5_roomOf_16 (by rw [c_16_4]; omega) (by rw [c_16_4]; decide) (by rw [c_16_4]; decide) (by rw [c_16_4]; rfl) (by decide) ?_
      refine x_al hC hl 0 dX5_roomOf_76 rfl rfl ?_
      refine x_il hC hl 1 dX5_roomOf_77 rfl rfl ?_
      refine x_vI (As := [.int (iI room)]) hC (k5_taken l D cs h (u1 mF 0 0) mS mA mV mT mB room (by first | assumption | omega) (by first | assumption | omega)) lk5_48 (q0 := 0) (ci := 5) rfl rfl rfl (sub_all hP hD hS hA) hP hS rfl hl.1 rfl (Nat.le_of_ble_eq_true rfl) ⟨rfl, rfl⟩ ⟨Nat.le_of_ble_eq_true rfl, Nat.le_of_ble_eq_true rfl⟩ ⟨Nat.le_of_ble_eq_true rfl, Nat.le_of_ble_eq_true rfl⟩ dX5_roomOf_78 (fun H locs hP hD hS hHs => ?_)
      have q_78 := mTaken_rg (S := mS) (by assumption) room (n := mS 1) (by omega) (by omega)
      exact x_retI ((by first | exact (iif_f c_9).symm | (rw [iif_t c_9]; unfold mRoomOf; first | (rw [iif_t (by omega)]; done) | (rw [iif_f (by omega), iif_t (by omega)]; done) | (rw [iif_f (by omega), iif_f (by omega), iif_t (by omega)]; done) | (rw [iif_f (by omega), iif_f (by omega), iif_f (by omega), iif_t (by omega)]; done) | (rw [iif_f (by omega), iif_f (by omega), iif_f (by omega), iif_f (by omega), iif_t (by omega)]; first | done | (congr 3; omega)) | (rw [iif_f (by omega), iif_f (by omega), iif_f (by omega), iif_f (by omega), iif_f (by omega)]; done)) : iI (mTaken mS room (mS 1)) = iif (0 ≤ room ∧ room ≤ 7) (mRoomOf mS room what) (iI (-1000001)))) hend hP hD hS dX5_roomOf_81
    by_cases c_16_5 : what = 5
    · refine x_tsIn hC 82 dX5_roomOf_16 (by rw [c_16_5]; omega) (by rw [c_16_5]; decide) (by rw [c_16_5]; decide) (by rw [c_16_5]; rfl) (by decide) ?_
      refine x_al hC hl 0 dX5_roomOf_82 rfl rfl ?_
      refine x_il hC hl 1 dX5_roomOf_83 rfl rfl ?_
      refine x_vI (As := [.int (iI room)]) hC (k5_talksIn l D cs h (u1 mF 0 0) mS mA mV mT mB room (by first | assumption | omega) (by first | assumption | omega)) lk5_106 (q0 := 0) (ci := 5) rfl rfl rfl (sub_all hP hD hS hA) hP hS rfl hl.1 rfl (Nat.le_of_ble_eq_true rfl) ⟨rfl, rfl⟩ ⟨Nat.le_of_ble_eq_true rfl, Nat.le_of_ble_eq_true rfl⟩ ⟨Nat.le_of_ble_eq_true rfl, Nat.le_of_ble_eq_true rfl⟩ dX5_roomOf_84 (fun H locs hP hD hS hHs => ?_)
      exact x_retI ((by first | exact (iif_f c_9).symm | (rw [iif_t c_9]; unfold mRoomOf; first | (rw [iif_t (by omega)]; done) | (rw [iif_f (by omega), iif_t (by omega)]; done) | (rw [iif_f (by omega), iif_f (by omega), iif_t (by omega)]; done) | (rw [iif_f (by omega), iif_f (by omega), iif_f (by omega), iif_t (by omega)]; done) | (rw [iif_f (by omega), iif_f (by omega), iif_f (by omega), iif_f (by omega), iif_t (by omega)]; first | done | (congr 3; omega)) | (rw [iif_f (by omega), iif_f (by omega), iif_f (by omega), iif_f (by omega), iif_f (by omega)]; done)) : mskI (fun t => mS (29 + 4 * t + 3) = room) (mS 1) = iif (0 ≤ room ∧ room ≤ 7) (mRoomOf mS room what) (iI (-1000001)))) hend hP hD hS dX5_roomOf_87
    by_cases c_16_6 : what = 6
    · refine x_tsIn hC 88 dX5_roomOf_16 (by rw [c_16_6]; omega) (by rw [c_16_6]; decide) (by rw [c_16_6]; decide) (by rw [c_16_6]; rfl) (by decide) ?_
      refine x_al hC hl 0 dX5_roomOf_88 rfl rfl ?_
      refine x_il hC hl 1 dX5_roomOf_89 rfl rfl ?_
      refine x_vI (As := [.int (iI room)]) hC (k5_longestFree l D cs h (u1 mF 0 0) mS mA mV mT mB room (by first | assumption | omega) (by first | assumption | omega)) lk5_149 (q0 := 0) (ci := 5) rfl rfl rfl (sub_all hP hD hS hA) hP hS rfl hl.1 rfl (Nat.le_of_ble_eq_true rfl) ⟨rfl, rfl⟩ ⟨Nat.le_of_ble_eq_true rfl, Nat.le_of_ble_eq_true rfl⟩ ⟨Nat.le_of_ble_eq_true rfl, Nat.le_of_ble_eq_true rfl⟩ dX5_roomOf_90 (fun H locs hP hD hS hHs => ?_)
      exact x_retI ((by first | exact (iif_f c_9).symm | (rw [iif_t c_9]; unfold mRoomOf; first | (rw [iif_t (by omega)]; done) | (rw [iif_f (by omega), iif_t (by omega)]; done) | (rw [iif_f (by omega), iif_f (by omega), iif_t (by omega)]; done) | (rw [iif_f (by omega), iif_f (by omega), iif_f (by omega), iif_t (by omega)]; done) | (rw [iif_f (by omega), iif_f (by omega), iif_f (by omega), iif_f (by omega), iif_t (by omega)]; first | done | (congr 3; omega)) | (rw [iif_f (by omega), iif_f (by omega), iif_f (by omega), iif_f (by omega), iif_f (by omega)]; done)) : iI ((mLong mS room 48).1) = iif (0 ≤ room ∧ room ≤ 7) (mRoomOf mS room what) (iI (-1000001)))) hend hP hD hS dX5_roomOf_93
    refine x_tsOut hC 94 dX5_roomOf_16 (by omega) (by omega) (by decide) ?_
    refine x_ldc hC (-1000001) tb_683 (by decide) dX5_roomOf_94 ?_
    exact x_retI ((by first | exact (iif_f c_9).symm | (rw [iif_t c_9]; unfold mRoomOf; first | (rw [iif_t (by omega)]; done) | (rw [iif_f (by omega), iif_t (by omega)]; done) | (rw [iif_f (by omega), iif_f (by omega), iif_t (by omega)]; done) | (rw [iif_f (by omega), iif_f (by omega), iif_f (by omega), iif_t (by omega)]; done) | (rw [iif_f (by omega), iif_f (by omega), iif_f (by omega), iif_f (by omega), iif_t (by omega)]; first | done | (congr 3; omega)) | (rw [iif_f (by omega), iif_f (by omega), iif_f (by omega), iif_f (by omega), iif_f (by omega)]; done)) : iI (-1000001) = iif (0 ≤ room ∧ room ≤ 7) (mRoomOf mS room what) (iI (-1000001)))) hend hP hD hS dX5_roomOf_96
  · refine x_ldc hC (-1000001) tb_683 (by decide) dX5_roomOf_12 ?_
    exact x_retI ((by first | exact (iif_f c_9).symm | (rw [iif_t c_9]; unfold mRoomOf; first | (rw [iif_t (by omega)]; done) | (rw [iif_f (by omega), iif_t (by omega)]; done) | (rw [iif_f (by omega), iif_f (by omega), iif_t (by omega)]; done) | (rw [iif_f (by omega), iif_f (by omega), iif_f (by omega), iif_t (by omega)]; done) | (rw [iif_f (by omega), iif_f (by omega), iif_f (by omega), iif_f (by omega), iif_t (by omega)]; first | done | (congr 3; omega)) | (rw [iif_f (by omega), iif_f (by omega), iif_f (by omega), iif_f (by omega), iif_f (by omega)]; done)) : iI (-1000001) = iif (0 ≤ room ∧ room ≤ 7) (mRoomOf mS room what) (iI (-1000001)))) hend hP hD hS dX5_roomOf_14
abbrev r5_at : Room := { frames := 2, cells := 0, slots := 0, locals := 45 }
set_option maxHeartbeats 4000000 in
set_option maxRecDepth 100000 in
theorem k5_at (l : Launch) (D : va_G) (cs : Nat → ClassId) (h : Nat → Nat) (mF : Int → Int) (mS : Int → Int) (mA : Int → Int) (mV : Int → Int) (mT : Int → Int) (mB : Int → Int) (room : Int) (hour : Int) (hI : IM mS) (g_room : -2147483648 ≤ room ∧ room ≤ 2147483647) (g_hour : -2147483648 ≤ hour ∧ hour ≤ 2147483647) : CI l D cs yX5_at cX5_at 3 .int r5_at 0 0 [.ref (h 0), .int (iI room), .int (iI hour)] (wM h cs mF mS mA mV mT mB) (wM h cs (u1 mF 0 0) mS mA mV mT mB) (iI (iif ((0 ≤ room ∧ room ≤ 7) ∧ 0 ≤ hour ∧ hour ≤ 47) (mTalkAt mS room hour) (-1000001))) := by
  refine CI_start (own := RX5) (by decide) rfl rfl (Nat.le_of_ble_eq_true rfl) ?_
  intro p e s m args below meth c Q A ls hC hl hP hD hA hS hend
  have hl : lv_has ls 3 [(0, .ref (h 0)), (1, .int (iI room)), (2, .int (iI hour))] := hl
  obtain ⟨H, hH⟩ : ∃ H : Heap, H = s.heap := ⟨_, rfl⟩
  have hS : va_S A s.heap H [] := by rw [hH]; exact hS
  rw [← hH] at hP
  obtain ⟨locs, hlocs⟩ : ∃ locs : List Loc, locs = [] := ⟨_, rfl⟩
  rw [← hlocs] at hS
  suffices hgo : W p l e r5_at s m args below meth c H locs 0 0 Q (F0 m 0 ls []) by rw [← hH, ← hlocs]; exact hgo
  clear hH hlocs
  obtain ⟨z0, z1, -⟩ := id hI
  refine x_al hC hl 0 dX5_at_0 rfl rfl ?_
  refine x_ic hC dX5_at_1 ?_
  refine x_put5_0 hC hP hD hS 0 rfl tb_619 dX5_at_2 (fun H locs hP hD hS => ?_)
  have hP : va_P D vwCl (wM h cs (u1 mF 0 0) mS mA mV mT mB) H := hP
  have hD : va_D A (wM h cs (u1 mF 0 0) mS mA mV mT mB) := hD
  refine x_il hC hl 1 dX5_at_5 rfl rfl ?_
  refine x_sI (As := [.int (iI room)]) hC (k5_isRoom l D cs room (by first | assumption | omega)) lk5_93 (sub_none hP hD hS hA) hP hS rfl hl.1 rfl (Nat.le_of_ble_eq_true rfl) ⟨rfl, rfl⟩ ⟨Nat.le_of_ble_eq_true rfl, Nat.le_of_ble_eq_true rfl⟩ ⟨Nat.le_of_ble_eq_true rfl, Nat.le_of_ble_eq_true rfl⟩ dX5_at_6 (fun H locs hP hD hS hHs => ?_)
  refine x_if_eq_b hC 31 dX5_at_9 (by decide) (fun c_9 => ?_) (fun c_9 => ?_)
  · refine x_ldc hC (-1000001) tb_683 (by decide) dX5_at_31 ?_
    exact x_retI (congrArg iI (by first | exact (iif_t ⟨c_9, c_19⟩).symm | exact (iif_f (fun h => c_19 h.2)).symm | exact (iif_f (fun h => c_9 h.1)).symm : (-1000001) = iif ((0 ≤ room ∧ room ≤ 7) ∧ 0 ≤ hour ∧ hour ≤ 47) (mTalkAt mS room hour) (-1000001))) hend hP hD hS dX5_at_33
  · refine x_il hC hl 2 dX5_at_12 rfl rfl ?_
    refine x_ic hC dX5_at_13 ?_
    refine x_bi hC dX5_at_14 (by decide) ?_
    refine x_sI (As := [.int (iI hour), .int (iI 0), .int (iI 47)]) hC (k5_in l D cs hour 0 47 (by first | assumption | omega) (by first | assumption | omega) (by first | assumption | omega)) lk5_30 (sub_none hP hD hS hA) hP hS rfl hl.1 rfl (Nat.le_of_ble_eq_true rfl) ⟨rfl, rfl⟩ ⟨Nat.le_of_ble_eq_true rfl, Nat.le_of_ble_eq_true rfl⟩ ⟨Nat.le_of_ble_eq_true rfl, Nat.le_of_ble_eq_true rfl⟩ dX5_at_16 (fun H locs hP hD hS hHs => ?_)
    refine x_if_eq_b hC 31 dX5_at_19 (by decide) (fun c_19 => ?_) (fun c_19 => ?_)
    · refine x_ldc hC (-1000001) tb_683 (by decide) dX5_at_31 ?_
      exact x_retI (congrArg iI (by first | exact (iif_t ⟨c_9, c_19⟩).symm | exact (iif_f (fun h => c_19 h.2)).symm | exact (iif_f (fun h => c_9 h.1)).symm : (-1000001) = iif ((0 ≤ room ∧ room ≤ 7) ∧ 0 ≤ hour ∧ hour ≤ 47) (mTalkAt mS room hour) (-1000001))) hend hP hD hS dX5_at_33
    · refine x_al hC hl 0 dX5_at_22 rfl rfl ?_
      refine x_il hC hl 1 dX5_at_23 rfl rfl ?_
      refine x_il hC hl 2 dX5_at_24 rfl rfl ?_
      refine x_vI (As := [.int (iI room), .int (iI hour)]) hC (k5_talkAt l D cs h (u1 mF 0 0) mS mA mV mT mB room hour (by first | assumption | omega) (by first | assumption | omega) (by first | assumption | omega)) lk5_143 (q0 := 0) (ci := 5) rfl rfl rfl (sub_all hP hD hS hA) hP hS rfl hl.1 rfl (Nat.le_of_ble_eq_true rfl) ⟨rfl, rfl⟩ ⟨Nat.le_of_ble_eq_true rfl, Nat.le_of_ble_eq_true rfl⟩ ⟨Nat.le_of_ble_eq_true rfl, Nat.le_of_ble_eq_true rfl⟩ dX5_at_25 (fun H locs hP hD hS hHs => ?_)
      refine x_goto hC 33 dX5_at_28 (by decide) ?_
      exact x_retI (congrArg iI (by first | exact (iif_t ⟨c_9, c_19⟩).symm | exact (iif_f (fun h => c_19 h.2)).symm | exact (iif_f (fun h => c_9 h.1)).symm : mTalkAt mS room hour = iif ((0 ≤ room ∧ room ≤ 7) ∧ 0 ≤ hour ∧ hour ≤ 47) (mTalkAt mS room hour) (-1000001))) hend hP hD hS dX5_at_33
abbrev r5_hourOf : Room := { frames := 3, cells := 0, slots := 0, locals := 68 }
set_option maxHeartbeats 4000000 in
set_option maxRecDepth 100000 in
theorem k5_hourOf (l : Launch) (D : va_G) (cs : Nat → ClassId) (h : Nat → Nat) (mF : Int → Int) (mS : Int → Int) (mA : Int → Int) (mV : Int → Int) (mT : Int → Int) (mB : Int → Int) (hour : Int) (what : Int) (hI : IM mS) (g_hour : -2147483648 ≤ hour ∧ hour ≤ 2147483647) (g_what : -2147483648 ≤ what ∧ what ≤ 2147483647) : CI l D cs yX5_hourOf cX5_hourOf 3 .int r5_hourOf 0 0 [.ref (h 0), .int (iI hour), .int (iI what)] (wM h cs mF mS mA mV mT mB) (wM h cs (u1 mF 0 0) mS mA mV mT mB) (iif ((0 ≤ hour ∧ hour ≤ 47) ∧ 0 ≤ what ∧ what ≤ 1) (iif (what = 0) (iI (mTalksAt mS hour 8)) (mskI (fun t => mS (5 + 3 * t + 2) = 1 ∧ mTalkAt mS t hour = -1000004) 8)) (iI (-1000001))) := by
  refine CI_start (own := RX5) (by decide) rfl rfl (Nat.le_of_ble_eq_true rfl) ?_
  intro p e s m args below meth c Q A ls hC hl hP hD hA hS hend
  have hl : lv_has ls 3 [(0, .ref (h 0)), (1, .int (iI hour)), (2, .int (iI what))] := hl
  obtain ⟨H, hH⟩ : ∃ H : Heap, H = s.heap := ⟨_, rfl⟩
  have hS : va_S A s.heap H [] := by rw [hH]; exact hS
  rw [← hH] at hP
  obtain ⟨locs, hlocs⟩ : ∃ locs : List Loc, locs = [] := ⟨_, rfl⟩
  rw [← hlocs] at hS
  suffices hgo : W p l e r5_hourOf s m args below meth c H locs 0 0 Q (F0 m 0 ls []) by rw [← hH, ← hlocs]; exact hgo
  clear hH hlocs
  obtain ⟨z0, z1, -⟩ := id hI
  refine x_al hC hl 0 dX5_hourOf_0 rfl rfl ?_
  refine x_ic hC dX5_hourOf_1 ?_
  refine x_put5_0 hC hP hD hS 0 rfl tb_619 dX5_hourOf_2 (fun H locs hP hD hS => ?_)
  have hP : va_P D vwCl (wM h cs (u1 mF 0 0) mS mA mV mT mB) H := hP
  have hD : va_D A (wM h cs (u1 mF 0 0) mS mA mV mT mB) := hD
  refine x_il hC hl 1 dX5_hourOf_5 rfl rfl ?_
  refine x_ic hC dX5_hourOf_6 ?_
  refine x_bi hC dX5_hourOf_7 (by decide) ?_
  refine x_sI (As := [.int (iI hour), .int (iI 0), .int (iI 47)]) hC (k5_in l D cs hour 0 47 (by first | assumption | omega) (by first | assumption | omega) (by first | assumption | omega)) lk5_30 (sub_none hP hD hS hA) hP hS rfl hl.1 rfl (Nat.le_of_ble_eq_true rfl) ⟨rfl, rfl⟩ ⟨Nat.le_of_ble_eq_true rfl, Nat.le_of_ble_eq_true rfl⟩ ⟨Nat.le_of_ble_eq_true rfl, Nat.le_of_ble_eq_true rfl⟩ dX5_hourOf_9 (fun H locs hP hD hS hHs => ?_)
  refine x_if_eq_b hC 24 dX5_hourOf_12 (by decide) (fun c_12 => ?_) (fun c_12 => ?_)
  · refine x_ldc hC (-1000001) tb_683 (by decide) dX5_hourOf_24 ?_
    exact x_retI ((by first | (rw [iif_t ⟨c_12, c_21⟩]; first | exact (iif_t c_28).symm | exact (iif_f c_28).symm) | exact (iif_f (fun h => c_21 h.2)).symm | exact (iif_f (fun h => c_12 h.1)).symm : iI (-1000001) = iif ((0 ≤ hour ∧ hour ≤ 47) ∧ 0 ≤ what ∧ what ≤ 1) (iif (what = 0) (iI (mTalksAt mS hour 8)) (mskI (fun t => mS (5 + 3 * t + 2) = 1 ∧ mTalkAt mS t hour = -1000004) 8)) (iI (-1000001)))) hend hP hD hS dX5_hourOf_26
  · refine x_il hC hl 2 dX5_hourOf_15 rfl rfl ?_
    refine x_ic hC dX5_hourOf_16 ?_
    refine x_ic hC dX5_hourOf_17 ?_
    refine x_sI (As := [.int (iI what), .int (iI 0), .int (iI 1)]) hC (k5_in l D cs what 0 1 (by first | assumption | omega) (by first | assumption | omega) (by first | assumption | omega)) lk5_30 (sub_none hP hD hS hA) hP hS rfl hl.1 rfl (Nat.le_of_ble_eq_true rfl) ⟨rfl, rfl⟩ ⟨Nat.le_of_ble_eq_true rfl, Nat.le_of_ble_eq_true rfl⟩ ⟨Nat.le_of_ble_eq_true rfl, Nat.le_of_ble_eq_true rfl⟩ dX5_hourOf_18 (fun H locs hP hD hS hHs => ?_)
    refine x_if_ne_b hC 27 dX5_hourOf_21 (by decide) (fun c_21 => ?_) (fun c_21 => ?_)
    · refine x_il hC hl 2 dX5_hourOf_27 rfl rfl ?_
      refine x_if_ne hC 39 dX5_hourOf_28 (by decide) (by omega) (fun c_28 => ?_) (fun c_28 => ?_)
      · refine x_al hC hl 0 dX5_hourOf_39 rfl rfl ?_
        refine x_il hC hl 1 dX5_hourOf_40 rfl rfl ?_
        refine x_vI (As := [.int (iI hour)]) hC (k5_freeAt l D cs h (u1 mF 0 0) mS mA mV mT mB hour (by first | assumption | omega) (by first | assumption | omega)) lk5_155 (q0 := 0) (ci := 5) rfl rfl rfl (sub_all hP hD hS hA) hP hS rfl hl.1 rfl (Nat.le_of_ble_eq_true rfl) ⟨rfl, rfl⟩ ⟨Nat.le_of_ble_eq_true rfl, Nat.le_of_ble_eq_true rfl⟩ ⟨Nat.le_of_ble_eq_true rfl, Nat.le_of_ble_eq_true rfl⟩ dX5_hourOf_41 (fun H locs hP hD hS hHs => ?_)
        exact x_retI ((by first | (rw [iif_t ⟨c_12, c_21⟩]; first | exact (iif_t c_28).symm | exact (iif_f c_28).symm) | exact (iif_f (fun h => c_21 h.2)).symm | exact (iif_f (fun h => c_12 h.1)).symm : mskI (fun t => mS (5 + 3 * t + 2) = 1 ∧ mTalkAt mS t hour = -1000004) (8) = iif ((0 ≤ hour ∧ hour ≤ 47) ∧ 0 ≤ what ∧ what ≤ 1) (iif (what = 0) (iI (mTalksAt mS hour 8)) (mskI (fun t => mS (5 + 3 * t + 2) = 1 ∧ mTalkAt mS t hour = -1000004) 8)) (iI (-1000001)))) hend hP hD hS dX5_hourOf_44
      · refine x_al hC hl 0 dX5_hourOf_31 rfl rfl ?_
        refine x_il hC hl 1 dX5_hourOf_32 rfl rfl ?_
        refine x_vI (As := [.int (iI hour)]) hC (k5_talksAt l D cs h (u1 mF 0 0) mS mA mV mT mB hour (by first | assumption | omega) (by first | assumption | omega)) lk5_152 (q0 := 0) (ci := 5) rfl rfl rfl (sub_all hP hD hS hA) hP hS rfl hl.1 rfl (Nat.le_of_ble_eq_true rfl) ⟨rfl, rfl⟩ ⟨Nat.le_of_ble_eq_true rfl, Nat.le_of_ble_eq_true rfl⟩ ⟨Nat.le_of_ble_eq_true rfl, Nat.le_of_ble_eq_true rfl⟩ dX5_hourOf_33 (fun H locs hP hD hS hHs => ?_)
        have q_33 := mTalksAt_rg mS hour (n := 8) (by omega)
        refine x_goto hC 44 dX5_hourOf_36 (by decide) ?_
        exact x_retI ((by first | (rw [iif_t ⟨c_12, c_21⟩]; first | exact (iif_t c_28).symm | exact (iif_f c_28).symm) | exact (iif_f (fun h => c_21 h.2)).symm | exact (iif_f (fun h => c_12 h.1)).symm : iI (mTalksAt mS hour 8) = iif ((0 ≤ hour ∧ hour ≤ 47) ∧ 0 ≤ what ∧ what ≤ 1) (iif (what = 0) (iI (mTalksAt mS hour 8)) (mskI (fun t => mS (5 + 3 * t + 2) = 1 ∧ mTalkAt mS t hour = -1000004) 8)) (iI (-1000001)))) hend hP hD hS dX5_hourOf_44
    · refine x_ldc hC (-1000001) tb_683 (by decide) dX5_hourOf_24 ?_
      exact x_retI ((by first | (rw [iif_t ⟨c_12, c_21⟩]; first | exact (iif_t c_28).symm | exact (iif_f c_28).symm) | exact (iif_f (fun h => c_21 h.2)).symm | exact (iif_f (fun h => c_12 h.1)).symm : iI (-1000001) = iif ((0 ≤ hour ∧ hour ≤ 47) ∧ 0 ≤ what ∧ what ≤ 1) (iif (what = 0) (iI (mTalksAt mS hour 8)) (mskI (fun t => mS (5 + 3 * t + 2) = 1 ∧ mTalkAt mS t hour = -1000004) 8)) (iI (-1000001)))) hend hP hD hS dX5_hourOf_26
abbrev r5_would : Room := { frames := 4, cells := 0, slots := 0, locals := 98 }
set_option maxHeartbeats 4000000 in
set_option maxRecDepth 100000 in
theorem k5_would (l : Launch) (D : va_G) (cs : Nat → ClassId) (h : Nat → Nat) (mF : Int → Int) (mS : Int → Int) (mA : Int → Int) (mV : Int → Int) (mT : Int → Int) (mB : Int → Int) (first : Int) (en : Int) (size : Int) (rule : Int) (hI : IM mS) (g_first : -2147483648 ≤ first ∧ first ≤ 2147483647) (g_en : -2147483648 ≤ en ∧ en ≤ 2147483647) (g_size : -2147483648 ≤ size ∧ size ≤ 2147483647) (g_rule : -2147483648 ≤ rule ∧ rule ≤ 2147483647) : CI l D cs yX5_would cX5_would 6 .int r5_would 0 0 [.ref (h 0), .int (iI first), .int (iI en), .int (iI size), .int (iI rule)] (wM h cs mF mS mA mV mT mB) (wM h cs (u1 mF 0 0) mS mA mV mT mB) (iI (iif (((0 ≤ first ∧ first ≤ 47) ∧ (first + 1 ≤ en ∧ en ≤ 48) ∧ (1 ≤ size ∧ size ≤ 9)) ∧ 0 ≤ rule ∧ rule ≤ 3) (iif (mGets mS first en size rule = -1) (-1000004) (mGets mS first en size rule)) (-1000001))) := by
  refine CI_start (own := RX5) (by decide) rfl rfl (Nat.le_of_ble_eq_true rfl) ?_
  intro p e s m args below meth c Q A ls hC hl hP hD hA hS hend
  have hl : lv_has ls 6 [(0, .ref (h 0)), (1, .int (iI first)), (2, .int (iI en)), (3, .int (iI size)), (4, .int (iI rule))] := hl
  obtain ⟨H, hH⟩ : ∃ H : Heap, H = s.heap := ⟨_, rfl⟩
  have hS : va_S A s.heap H [] := by rw [hH]; exact hS
  rw [← hH] at hP
  obtain ⟨locs, hlocs⟩ : ∃ locs : List Loc, locs = [] := ⟨_, rfl⟩
  rw [← hlocs] at hS
  suffices hgo : W p l e r5_would s m args below meth c H locs 0 0 Q (F0 m 0 ls []) by rw [← hH, ← hlocs]; exact hgo
  clear hH hlocs
  obtain ⟨z0, z1, -⟩ := id hI
  refine x_al hC hl 0 dX5_would_0 rfl rfl ?_
  refine x_ic hC dX5_would_1 ?_
  refine x_put5_0 hC hP hD hS 0 rfl tb_619 dX5_would_2 (fun H locs hP hD hS => ?_)
  have hP : va_P D vwCl (wM h cs (u1 mF 0 0) mS mA mV mT mB) H := hP
  have hD : va_D A (wM h cs (u1 mF 0 0) mS mA mV mT mB) := hD
  refine x_il hC hl 1 dX5_would_5 rfl rfl ?_
  refine x_ic hC dX5_would_6 ?_
  refine x_bi hC dX5_would_7 (by decide) ?_
  refine x_sI (As := [.int (iI first), .int (iI 0), .int (iI 47)]) hC (k5_in l D cs first 0 47 (by first | assumption | omega) (by first | assumption | omega) (by first | assumption | omega)) lk5_30 (sub_none hP hD hS hA) hP hS rfl hl.1 rfl (Nat.le_of_ble_eq_true rfl) ⟨rfl, rfl⟩ ⟨Nat.le_of_ble_eq_true rfl, Nat.le_of_ble_eq_true rfl⟩ ⟨Nat.le_of_ble_eq_true rfl, Nat.le_of_ble_eq_true rfl⟩ dX5_would_9 (fun H locs hP hD hS hHs => ?_)
  refine x_if_eq_b hC 47 dX5_would_12 (by decide) (fun c_12 => ?_) (fun c_12 => ?_)
  · refine x_ldc hC (-1000001) tb_683 (by decide) dX5_would_47 ?_
    exact x_retI (congrArg iI (by first | (rw [iif_t ⟨⟨c_12, c_24, c_34⟩, c_44⟩]; first | exact (iif_t c_64).symm | exact (iif_f c_64).symm) | exact (iif_f (by omega)).symm : (-1000001) = iif (((0 ≤ first ∧ first ≤ 47) ∧ (first + 1 ≤ en ∧ en ≤ 48) ∧ (1 ≤ size ∧ size ≤ 9)) ∧ 0 ≤ rule ∧ rule ≤ 3) (iif (mGets mS first en size rule = -1) (-1000004) (mGets mS first en size rule)) (-1000001))) hend hP hD hS dX5_would_49
  · refine x_il hC hl 2 dX5_would_15 rfl rfl ?_
    refine x_il hC hl 1 dX5_would_16 rfl rfl ?_
    refine x_ic hC dX5_would_17 ?_
    refine x_iadd hC dX5_would_18 ?_
    refine x_bi hC dX5_would_19 (by decide) ?_
    refine x_sI (As := [.int (iI en), .int (iI (first + 1)), .int (iI 48)]) hC (k5_in l D cs en (first + 1) 48 (by first | assumption | omega) (by first | assumption | omega) (by first | assumption | omega)) lk5_30 (sub_none hP hD hS hA) hP hS rfl hl.1 rfl (Nat.le_of_ble_eq_true rfl) ⟨rfl, rfl⟩ ⟨Nat.le_of_ble_eq_true rfl, Nat.le_of_ble_eq_true rfl⟩ ⟨Nat.le_of_ble_eq_true rfl, Nat.le_of_ble_eq_true rfl⟩ dX5_would_21 (fun H locs hP hD hS hHs => ?_)
    refine x_if_eq_b hC 47 dX5_would_24 (by decide) (fun c_24 => ?_) (fun c_24 => ?_)
    · refine x_ldc hC (-1000001) tb_683 (by decide) dX5_would_47 ?_
      exact x_retI (congrArg iI (by first | (rw [iif_t ⟨⟨c_12, c_24, c_34⟩, c_44⟩]; first | exact (iif_t c_64).symm | exact (iif_f c_64).symm) | exact (iif_f (by omega)).symm : (-1000001) = iif (((0 ≤ first ∧ first ≤ 47) ∧ (first + 1 ≤ en ∧ en ≤ 48) ∧ (1 ≤ size ∧ size ≤ 9)) ∧ 0 ≤ rule ∧ rule ≤ 3) (iif (mGets mS first en size rule = -1) (-1000004) (mGets mS first en size rule)) (-1000001))) hend hP hD hS dX5_would_49
    · refine x_il hC hl 3 dX5_would_27 rfl rfl ?_
      refine x_ic hC dX5_would_28 ?_
      refine x_bi hC dX5_would_29 (by decide) ?_
      refine x_sI (As := [.int (iI size), .int (iI 1), .int (iI 9)]) hC (k5_in l D cs size 1 9 (by first | assumption | omega) (by first | assumption | omega) (by first | assumption | omega)) lk5_30 (sub_none hP hD hS hA) hP hS rfl hl.1 rfl (Nat.le_of_ble_eq_true rfl) ⟨rfl, rfl⟩ ⟨Nat.le_of_ble_eq_true rfl, Nat.le_of_ble_eq_true rfl⟩ ⟨Nat.le_of_ble_eq_true rfl, Nat.le_of_ble_eq_true rfl⟩ dX5_would_31 (fun H locs hP hD hS hHs => ?_)
      refine x_if_eq_b hC 47 dX5_would_34 (by decide) (fun c_34 => ?_) (fun c_34 => ?_)
      · refine x_ldc hC (-1000001) tb_683 (by decide) dX5_would_47 ?_
        exact x_retI (congrArg iI (by first | (rw [iif_t ⟨⟨c_12, c_24, c_34⟩, c_44⟩]; first | exact (iif_t c_64).symm | exact (iif_f c_64).symm) | exact (iif_f (by omega)).symm : (-1000001) = iif (((0 ≤ first ∧ first ≤ 47) ∧ (first + 1 ≤ en ∧ en ≤ 48) ∧ (1 ≤ size ∧ size ≤ 9)) ∧ 0 ≤ rule ∧ rule ≤ 3) (iif (mGets mS first en size rule = -1) (-1000004) (mGets mS first en size rule)) (-1000001))) hend hP hD hS dX5_would_49
      · refine x_ilw hC hl 4 dX5_would_37 rfl ?_
        refine x_ic hC dX5_would_39 ?_
        refine x_ic hC dX5_would_40 ?_
        refine x_sI (As := [.int (iI rule), .int (iI 0), .int (iI 3)]) hC (k5_in l D cs rule 0 3 (by first | assumption | omega) (by first | assumption | omega) (by first | assumption | omega)) lk5_30 (sub_none hP hD hS hA) hP hS rfl hl.1 rfl (Nat.le_of_ble_eq_true rfl) ⟨rfl, rfl⟩ ⟨Nat.le_of_ble_eq_true rfl, Nat.le_of_ble_eq_true rfl⟩ ⟨Nat.le_of_ble_eq_true rfl, Nat.le_of_ble_eq_true rfl⟩ dX5_would_41 (fun H locs hP hD hS hHs => ?_)
        refine x_if_ne_b hC 50 dX5_would_44 (by decide) (fun c_44 => ?_) (fun c_44 => ?_)
        · refine x_al hC hl 0 dX5_would_50 rfl rfl ?_
          refine x_il hC hl 1 dX5_would_51 rfl rfl ?_
          refine x_il hC hl 2 dX5_would_52 rfl rfl ?_
          refine x_il hC hl 3 dX5_would_53 rfl rfl ?_
          refine x_ilw hC hl 4 dX5_would_54 rfl ?_
          refine x_vI (As := [.int (iI first), .int (iI en), .int (iI size), .int (iI rule)]) hC (k5_gets l D cs h (u1 mF 0 0) mS mA mV mT mB first en size rule (by first | assumption | omega) (by first | assumption | omega) (by first | assumption | omega) (by first | assumption | omega) (by first | assumption | omega)) lk5_68 (q0 := 0) (ci := 5) rfl rfl rfl (sub_all hP hD hS hA) hP hS rfl hl.1 rfl (Nat.le_of_ble_eq_true rfl) ⟨rfl, rfl⟩ ⟨Nat.le_of_ble_eq_true rfl, Nat.le_of_ble_eq_true rfl⟩ ⟨Nat.le_of_ble_eq_true rfl, Nat.le_of_ble_eq_true rfl⟩ dX5_would_56 (fun H locs hP hD hS hHs => ?_)
          have q_56 := mGets_rg mS first en size rule
          refine x_isw hC [(5, .int (iI (mGets mS first en size rule))), (0, .ref (h 0)), (1, .int (iI first)), (2, .int (iI en)), (3, .int (iI size)), (4, .int (iI rule))] hl dX5_would_59 (by decide) rfl (fun ls hl => ?_)
          refine x_ilw hC hl 0 dX5_would_61 rfl ?_
          refine x_ic hC dX5_would_63 ?_
          refine x_ic_ne hC 72 dX5_would_64 (by decide) (by omega) (by omega) (fun c_64 => ?_) (fun c_64 => ?_)
          · refine x_ilw hC hl 0 dX5_would_72 rfl ?_
            exact x_retI (congrArg iI (by first | (rw [iif_t ⟨⟨c_12, c_24, c_34⟩, c_44⟩]; first | exact (iif_t c_64).symm | exact (iif_f c_64).symm) | exact (iif_f (by omega)).symm : mGets mS first en size rule = iif (((0 ≤ first ∧ first ≤ 47) ∧ (first + 1 ≤ en ∧ en ≤ 48) ∧ (1 ≤ size ∧ size ≤ 9)) ∧ 0 ≤ rule ∧ rule ≤ 3) (iif (mGets mS first en size rule = -1) (-1000004) (mGets mS first en size rule)) (-1000001))) hend hP hD hS dX5_would_74
          · refine x_ldc hC (-1000004) tb_836 (by decide) dX5_would_67 ?_
            refine x_goto hC 74 dX5_would_69 (by decide) ?_
            exact x_retI (congrArg iI (by first | (rw [iif_t ⟨⟨c_12, c_24, c_34⟩, c_44⟩]; first | exact (iif_t c_64).symm | exact (iif_f c_64).symm) | exact (iif_f (by omega)).symm : (-1000004) = iif (((0 ≤ first ∧ first ≤ 47) ∧ (first + 1 ≤ en ∧ en ≤ 48) ∧ (1 ≤ size ∧ size ≤ 9)) ∧ 0 ≤ rule ∧ rule ≤ 3) (iif (mGets mS first en size rule = -1) (-1000004) (mGets mS first en size rule)) (-1000001))) hend hP hD hS dX5_would_74
        · refine x_ldc hC (-1000001) tb_683 (by decide) dX5_would_47 ?_
          exact x_retI (congrArg iI (by first | (rw [iif_t ⟨⟨c_12, c_24, c_34⟩, c_44⟩]; first | exact (iif_t c_64).symm | exact (iif_f c_64).symm) | exact (iif_f (by omega)).symm : (-1000001) = iif (((0 ≤ first ∧ first ≤ 47) ∧ (first + 1 ≤ en ∧ en ≤ 48) ∧ (1 ≤ size ∧ size ≤ 9)) ∧ 0 ≤ rule ∧ rule ≤ 3) (iif (mGets mS first en size rule = -1) (-1000004) (mGets mS first en size rule)) (-1000001))) hend hP hD hS dX5_would_49
abbrev r5_clearText : Room := { frames := 0, cells := 0, slots := 0, locals := 0 }
set_option maxHeartbeats 4000000 in
set_option maxRecDepth 100000 in
theorem k5_clearText (l : Launch) (D : va_G) (cs : Nat → ClassId) (h : Nat → Nat) (mF : Int → Int) (mS : Int → Int) (mA : Int → Int) (mV : Int → Int) (mT : Int → Int) (mB : Int → Int)  : CI l D cs yX5_clearText cX5_clearText 2 .int r5_clearText 0 0 [.ref (h 0)] (wM h cs mF mS mA mV mT mB) (wM h cs (u1 (u1 mF 0 0) 6 0) mS mA mV mT mB) (iI ((mF 6))) := by
  refine CI_start (own := RX5) (by decide) rfl rfl (Nat.le_of_ble_eq_true rfl) ?_
  intro p e s m args below meth c Q A ls hC hl hP hD hA hS hend
  have hl : lv_has ls 2 [(0, .ref (h 0))] := hl
  obtain ⟨H, hH⟩ : ∃ H : Heap, H = s.heap := ⟨_, rfl⟩
  have hS : va_S A s.heap H [] := by rw [hH]; exact hS
  rw [← hH] at hP
  obtain ⟨locs, hlocs⟩ : ∃ locs : List Loc, locs = [] := ⟨_, rfl⟩
  rw [← hlocs] at hS
  suffices hgo : W p l e r5_clearText s m args below meth c H locs 0 0 Q (F0 m 0 ls []) by rw [← hH, ← hlocs]; exact hgo
  clear hH hlocs
  refine x_al hC hl 0 dX5_clearText_0 rfl rfl ?_
  refine x_ic hC dX5_clearText_1 ?_
  refine x_put5_0 hC hP hD hS 0 rfl tb_619 dX5_clearText_2 (fun H locs hP hD hS => ?_)
  have hP : va_P D vwCl (wM h cs (u1 mF 0 0) mS mA mV mT mB) H := hP
  have hD : va_D A (wM h cs (u1 mF 0 0) mS mA mV mT mB) := hD
  refine x_al hC hl 0 dX5_clearText_5 rfl rfl ?_
  refine x_get5 (v := .int (iI (mF 6))) hC hP 0 rfl 6 (by decide) tb_625 rfl rfl dX5_clearText_6 ?_
  refine x_is hC [(1, .int (iI (mF 6))), (0, .ref (h 0))] hl dX5_clearText_9 rfl (by decide) rfl (fun ls hl => ?_)
  refine x_al hC hl 1 dX5_clearText_10 rfl rfl ?_
  refine x_ic hC dX5_clearText_11 ?_
  refine x_put5_6 hC hP hD hS 0 rfl tb_625 dX5_clearText_12 (fun H locs hP hD hS => ?_)
  have hP : va_P D vwCl (wM h cs (u1 (u1 mF 0 0) 6 0) mS mA mV mT mB) H := hP
  have hD : va_D A (wM h cs (u1 (u1 mF 0 0) 6 0) mS mA mV mT mB) := hD
  refine x_il hC hl 0 dX5_clearText_15 rfl rfl ?_
  exact x_retI (rfl) hend hP hD hS dX5_clearText_16
abbrev r5_type : Room := { frames := 1, cells := 0, slots := 0, locals := 22 }
set_option maxHeartbeats 4000000 in
set_option maxRecDepth 100000 in
theorem k5_type (l : Launch) (D : va_G) (cs : Nat → ClassId) (h : Nat → Nat) (mF : Int → Int) (mS : Int → Int) (mA : Int → Int) (mV : Int → Int) (mT : Int → Int) (mB : Int → Int) (character : Int) (h6 : 0 ≤ (mF 6) ∧ (mF 6) ≤ 60) (g_character : -2147483648 ≤ character ∧ character ≤ 2147483647) : CI l D cs yX5_type cX5_type 2 .int r5_type 0 0 [.ref (h 0), .int (iI character)] (wM h cs mF mS mA mV mT mB) (wM h cs (iif ((32 ≤ character ∧ character ≤ 126) ∧ ¬ (mF 6) = 60) (u1 (u1 mF 0 0) 6 ((mF 6) + 1)) (u1 mF 0 0)) mS mA mV (iif ((32 ≤ character ∧ character ≤ 126) ∧ ¬ (mF 6) = 60) (u1 mT ((mF 6)) character) mT) mB) (iI (iif (32 ≤ character ∧ character ≤ 126) (iif ((mF 6) = 60) (-1000003) ((mF 6) + 1)) (-1000001))) := by
  refine CI_start (own := RX5) (by decide) rfl rfl (Nat.le_of_ble_eq_true rfl) ?_
  intro p e s m args below meth c Q A ls hC hl hP hD hA hS hend
  have hl : lv_has ls 2 [(0, .ref (h 0)), (1, .int (iI character))] := hl
  obtain ⟨H, hH⟩ : ∃ H : Heap, H = s.heap := ⟨_, rfl⟩
  have hS : va_S A s.heap H [] := by rw [hH]; exact hS
  rw [← hH] at hP
  obtain ⟨locs, hlocs⟩ : ∃ locs : List Loc, locs = [] := ⟨_, rfl⟩
  rw [← hlocs] at hS
  suffices hgo : W p l e r5_type s m args below meth c H locs 0 0 Q (F0 m 0 ls []) by rw [← hH, ← hlocs]; exact hgo
  clear hH hlocs
  refine x_al hC hl 0 dX5_type_0 rfl rfl ?_
  refine x_ic hC dX5_type_1 ?_
  refine x_put5_0 hC hP hD hS 0 rfl tb_619 dX5_type_2 (fun H locs hP hD hS => ?_)
  have hP : va_P D vwCl (wM h cs (u1 mF 0 0) mS mA mV mT mB) H := hP
  have hD : va_D A (wM h cs (u1 mF 0 0) mS mA mV mT mB) := hD
  refine x_il hC hl 1 dX5_type_5 rfl rfl ?_
  refine x_bi hC dX5_type_6 (by decide) ?_
  refine x_bi hC dX5_type_8 (by decide) ?_
  refine x_sI (As := [.int (iI character), .int (iI 32), .int (iI 126)]) hC (k5_in l D cs character 32 126 (by first | assumption | omega) (by first | assumption | omega) (by first | assumption | omega)) lk5_30 (sub_none hP hD hS hA) hP hS rfl hl.1 rfl (Nat.le_of_ble_eq_true rfl) ⟨rfl, rfl⟩ ⟨Nat.le_of_ble_eq_true rfl, Nat.le_of_ble_eq_true rfl⟩ ⟨Nat.le_of_ble_eq_true rfl, Nat.le_of_ble_eq_true rfl⟩ dX5_type_10 (fun H locs hP hD hS hHs => ?_)
  refine x_if_ne_b hC 19 dX5_type_13 (by decide) (fun c_13 => ?_) (fun c_13 => ?_)
  · refine x_al hC hl 0 dX5_type_19 rfl rfl ?_
    refine x_get5 (v := .int (iI (mF 6))) hC hP 0 rfl 6 (by decide) tb_625 rfl rfl dX5_type_20 ?_
    refine x_bi hC dX5_type_23 (by decide) ?_
    refine x_ic_ne hC 31 dX5_type_25 (by decide) (by omega) (by omega) (fun c_25 => ?_) (fun c_25 => ?_)
    · refine x_al hC hl 0 dX5_type_31 rfl rfl ?_
      refine x_get5 (v := .ref (h 4)) hC hP 0 rfl 5 (by decide) tb_624 rfl rfl dX5_type_32 ?_
      refine x_al hC hl 0 dX5_type_35 rfl rfl ?_
      refine x_get5 (v := .int (iI (mF 6))) hC hP 0 rfl 6 (by decide) tb_625 rfl rfl dX5_type_36 ?_
      refine x_il hC hl 1 dX5_type_39 rfl rfl ?_
      refine x_iast hC hP hD hS 4 rfl (by omega) (by decide) dX5_type_40 (fun H locs hP hD hS => ?_)
      have hP : va_P D vwCl (wM h cs (u1 mF 0 0) mS mA mV (u1 mT (mF 6) character) mB) H := hP
      have hD : va_D A (wM h cs (u1 mF 0 0) mS mA mV (u1 mT (mF 6) character) mB) := hD
      refine x_al hC hl 0 dX5_type_41 rfl rfl ?_
      refine x_dup hC dX5_type_42 rfl ?_
      refine x_get5 (v := .int (iI (mF 6))) hC hP 0 rfl 6 (by decide) tb_625 rfl rfl dX5_type_43 ?_
      refine x_ic hC dX5_type_46 ?_
      refine x_iadd hC dX5_type_47 ?_
      refine x_put5_6 hC hP hD hS 0 rfl tb_625 dX5_type_48 (fun H locs hP hD hS => ?_)
      have hP : va_P D vwCl (wM h cs (u1 (u1 mF 0 0) 6 ((mF 6) + 1)) mS mA mV (u1 mT (mF 6) character) mB) H := hP
      have hD : va_D A (wM h cs (u1 (u1 mF 0 0) 6 ((mF 6) + 1)) mS mA mV (u1 mT (mF 6) character) mB) := hD
      refine x_al hC hl 0 dX5_type_51 rfl rfl ?_
      refine x_get5 (v := .int (iI ((mF 6) + 1))) hC hP 0 rfl 6 (by decide) tb_625 rfl rfl dX5_type_52 ?_
      have ew : (wM h cs (u1 (u1 mF 0 0) 6 ((mF 6) + 1)) mS mA mV (u1 mT (mF 6) character) mB) = (wM h cs (iif ((32 ≤ character ∧ character ≤ 126) ∧ ¬ (mF 6) = 60) (u1 (u1 mF 0 0) 6 ((mF 6) + 1)) (u1 mF 0 0)) mS mA mV (iif ((32 ≤ character ∧ character ≤ 126) ∧ ¬ (mF 6) = 60) (u1 mT ((mF 6)) character) mT) mB) := (wMc (by first | exact (iif_f (fun h => c_13 h.1)).symm | exact (iif_t ⟨c_13, c_25⟩).symm | exact (iif_f (fun h => h.2 c_25)).symm : u1 (u1 mF 0 0) 6 ((mF 6) + 1) = iif ((32 ≤ character ∧ character ≤ 126) ∧ ¬ (mF 6) = 60) (u1 (u1 mF 0 0) 6 ((mF 6) + 1)) (u1 mF 0 0)) rfl rfl rfl (by first | exact (iif_f (fun h => c_13 h.1)).symm | exact (iif_t ⟨c_13, c_25⟩).symm | exact (iif_f (fun h => h.2 c_25)).symm : u1 mT (mF 6) character = iif ((32 ≤ character ∧ character ≤ 126) ∧ ¬ (mF 6) = 60) (u1 mT ((mF 6)) character) mT) rfl)
      have hP := vPe hP ew
      have hD := vDe hD ew
      exact x_retI (congrArg iI (by first | (rw [iif_t c_13]; first | exact (iif_t c_25).symm | exact (iif_f c_25).symm) | exact (iif_f c_13).symm : (mF 6) + 1 = iif (32 ≤ character ∧ character ≤ 126) (iif ((mF 6) = 60) (-1000003) ((mF 6) + 1)) (-1000001))) hend hP hD hS dX5_type_55
    · refine x_ldc hC (-1000003) tb_721 (by decide) dX5_type_28 ?_
      have ew_2 : (wM h cs (u1 mF 0 0) mS mA mV mT mB) = (wM h cs (iif ((32 ≤ character ∧ character ≤ 126) ∧ ¬ (mF 6) = 60) (u1 (u1 mF 0 0) 6 ((mF 6) + 1)) (u1 mF 0 0)) mS mA mV (iif ((32 ≤ character ∧ character ≤ 126) ∧ ¬ (mF 6) = 60) (u1 mT ((mF 6)) character) mT) mB) := (wMc (by first | exact (iif_f (fun h => c_13 h.1)).symm | exact (iif_t ⟨c_13, c_25⟩).symm | exact (iif_f (fun h => h.2 c_25)).symm : u1 mF 0 0 = iif ((32 ≤ character ∧ character ≤ 126) ∧ ¬ (mF 6) = 60) (u1 (u1 mF 0 0) 6 ((mF 6) + 1)) (u1 mF 0 0)) rfl rfl rfl (by first | exact (iif_f (fun h => c_13 h.1)).symm | exact (iif_t ⟨c_13, c_25⟩).symm | exact (iif_f (fun h => h.2 c_25)).symm : mT = iif ((32 ≤ character ∧ character ≤ 126) ∧ ¬ (mF 6) = 60) (u1 mT ((mF 6)) character) mT) rfl)
      have hP := vPe hP ew_2
      have hD := vDe hD ew_2
      exact x_retI (congrArg iI (by first | (rw [iif_t c_13]; first | exact (iif_t c_25).symm | exact (iif_f c_25).symm) | exact (iif_f c_13).symm : (-1000003) = iif (32 ≤ character ∧ character ≤ 126) (iif ((mF 6) = 60) (-1000003) ((mF 6) + 1)) (-1000001))) hend hP hD hS dX5_type_30
  · refine x_ldc hC (-1000001) tb_683 (by decide) dX5_type_16 ?_
    have ew_3 : (wM h cs (u1 mF 0 0) mS mA mV mT mB) = (wM h cs (iif ((32 ≤ character ∧ character ≤ 126) ∧ ¬ (mF 6) = 60) (u1 (u1 mF 0 0) 6 ((mF 6) + 1)) (u1 mF 0 0)) mS mA mV (iif ((32 ≤ character ∧ character ≤ 126) ∧ ¬ (mF 6) = 60) (u1 mT ((mF 6)) character) mT) mB) := (wMc (by first | exact (iif_f (fun h => c_13 h.1)).symm | exact (iif_t ⟨c_13, c_25⟩).symm | exact (iif_f (fun h => h.2 c_25)).symm : u1 mF 0 0 = iif ((32 ≤ character ∧ character ≤ 126) ∧ ¬ (mF 6) = 60) (u1 (u1 mF 0 0) 6 ((mF 6) + 1)) (u1 mF 0 0)) rfl rfl rfl (by first | exact (iif_f (fun h => c_13 h.1)).symm | exact (iif_t ⟨c_13, c_25⟩).symm | exact (iif_f (fun h => h.2 c_25)).symm : mT = iif ((32 ≤ character ∧ character ≤ 126) ∧ ¬ (mF 6) = 60) (u1 mT ((mF 6)) character) mT) rfl)
    have hP := vPe hP ew_3
    have hD := vDe hD ew_3
    exact x_retI (congrArg iI (by first | (rw [iif_t c_13]; first | exact (iif_t c_25).symm | exact (iif_f c_25).symm) | exact (iif_f c_13).symm : (-1000001) = iif (32 ≤ character ∧ character ≤ 126) (iif ((mF 6) = 60) (-1000003) ((mF 6) + 1)) (-1000001))) hend hP hD hS dX5_type_18
abbrev r5_undo : Room := { frames := 0, cells := 0, slots := 0, locals := 0 }
set_option maxHeartbeats 4000000 in
set_option maxRecDepth 100000 in
theorem k5_undo (l : Launch) (D : va_G) (cs : Nat → ClassId) (h : Nat → Nat) (mF : Int → Int) (mS : Int → Int) (mA : Int → Int) (mV : Int → Int) (mT : Int → Int) (mB : Int → Int) (h4 : 0 ≤ (mF 4) ∧ (mF 4) ≤ 4) : CI l D cs yX5_undo cX5_undo 2 .int r5_undo 0 0 [.ref (h 0)] (wM h cs mF mS mA mV mT mB) (wM h cs (iif ((mF 4) = 0) (u1 mF 0 0) (u1 (u1 mF 0 0) 4 ((mF 4) - 1))) (iif ((mF 4) = 0) mS (mTake mS mV ((mF 4) - 1))) mA mV mT mB) (iI (iif ((mF 4) = 0) (-1000002) ((mF 4) - 1))) := by
  refine CI_start (own := RX5) (by decide) rfl rfl (Nat.le_of_ble_eq_true rfl) ?_
  intro p e s m args below meth c Q A ls hC hl hP hD hA hS hend
  have hl : lv_has ls 2 [(0, .ref (h 0))] := hl
  obtain ⟨H, hH⟩ : ∃ H : Heap, H = s.heap := ⟨_, rfl⟩
  have hS : va_S A s.heap H [] := by rw [hH]; exact hS
  rw [← hH] at hP
  obtain ⟨locs, hlocs⟩ : ∃ locs : List Loc, locs = [] := ⟨_, rfl⟩
  rw [← hlocs] at hS
  suffices hgo : W p l e r5_undo s m args below meth c H locs 0 0 Q (F0 m 0 ls []) by rw [← hH, ← hlocs]; exact hgo
  clear hH hlocs
  refine x_al hC hl 0 dX5_undo_0 rfl rfl ?_
  refine x_ic hC dX5_undo_1 ?_
  refine x_put5_0 hC hP hD hS 0 rfl tb_619 dX5_undo_2 (fun H locs hP hD hS => ?_)
  have hP : va_P D vwCl (wM h cs (u1 mF 0 0) mS mA mV mT mB) H := hP
  have hD : va_D A (wM h cs (u1 mF 0 0) mS mA mV mT mB) := hD
  refine x_al hC hl 0 dX5_undo_5 rfl rfl ?_
  refine x_get5 (v := .int (iI (mF 4))) hC hP 0 rfl 4 (by decide) tb_623 rfl rfl dX5_undo_6 ?_
  refine x_if_ne hC 15 dX5_undo_9 (by decide) (by omega) (fun c_9 => ?_) (fun c_9 => ?_)
  · refine x_al hC hl 0 dX5_undo_15 rfl rfl ?_
    refine x_dup hC dX5_undo_16 rfl ?_
    refine x_get5 (v := .int (iI (mF 4))) hC hP 0 rfl 4 (by decide) tb_623 rfl rfl dX5_undo_17 ?_
    refine x_ic hC dX5_undo_20 ?_
    refine x_isub hC dX5_undo_21 ?_
    refine x_put5_4 hC hP hD hS 0 rfl tb_623 dX5_undo_22 (fun H locs hP hD hS => ?_)
    have hP : va_P D vwCl (wM h cs (u1 (u1 mF 0 0) 4 ((mF 4) - 1)) mS mA mV mT mB) H := hP
    have hD : va_D A (wM h cs (u1 (u1 mF 0 0) 4 ((mF 4) - 1)) mS mA mV mT mB) := hD
    refine x_ic hC dX5_undo_25 ?_
    refine x_is hC [(1, .int (iI 0)), (0, .ref (h 0))] hl dX5_undo_26 rfl (by decide) rfl (fun ls hl => ?_)
    have loop_27 : ∀ (n : Nat) (i : Int), (hi0 : 0 ≤ i) → (hiN : i ≤ 109) → (109 - i) < (n : Int) → ∀ (H : Heap) (locs : List Loc) (ls : Array Slot), va_P D vwCl (wM h cs (u1 (u1 mF 0 0) 4 ((mF 4) - 1)) (fI (fun k s => u1 s k (mV (109 * (((mF 4) - 1)) + k))) mS i) mA mV mT mB) H → va_D A (wM h cs (u1 (u1 mF 0 0) 4 ((mF 4) - 1)) (fI (fun k s => u1 s k (mV (109 * (((mF 4) - 1)) + k))) mS i) mA mV mT mB) → va_S A s.heap H locs → lv_has ls 2 [(1, .int (iI i)), (0, .ref (h 0))] → W p l e r5_undo s m args below meth c H locs 0 0 Q (F0 m 27 ls []) := by
      intro n
      induction n with
      | zero =>
        intro i hi0 hiN hnn
        exfalso; omega
      | succ n ih_27 =>
        intro i hi0 hiN hnn H locs ls hP hD hS hl
        refine x_il hC hl 0 dX5_undo_27 rfl rfl ?_
        refine x_bi hC dX5_undo_28 (by decide) ?_
        refine x_ic_ge hC 59 dX5_undo_30 (by decide) (by omega) (by omega) (fun c_30 => ?_) (fun c_30 => ?_)
        · obtain rfl : i = 109 := by omega
          refine x_al hC hl 1 dX5_undo_59 rfl rfl ?_
          refine x_get5 (v := .int (iI ((mF 4) - 1))) hC hP 0 rfl 4 (by decide) tb_623 rfl rfl dX5_undo_60 ?_
          have ew : (wM h cs (u1 (u1 mF 0 0) 4 ((mF 4) - 1)) (fI (fun k s => u1 s k (mV (109 * (((mF 4) - 1)) + k))) mS 109) mA mV mT mB) = (wM h cs (iif ((mF 4) = 0) (u1 mF 0 0) (u1 (u1 mF 0 0) 4 ((mF 4) - 1))) (iif ((mF 4) = 0) mS (mTake mS mV ((mF 4) - 1))) mA mV mT mB) := (wMc (by first | exact (iif_t c_9).symm | exact (iif_f c_9).symm : u1 (u1 mF 0 0) 4 ((mF 4) - 1) = iif ((mF 4) = 0) (u1 mF 0 0) (u1 (u1 mF 0 0) 4 ((mF 4) - 1))) (by first | exact (iif_t c_9).symm | exact (iif_f c_9).symm : fI (fun k s => u1 s k (mV (109 * (((mF 4) - 1)) + k))) mS 109 = iif ((mF 4) = 0) mS (mTake mS mV ((mF 4) - 1))) rfl rfl rfl rfl)
          have hP := vPe hP ew
          have hD := vDe hD ew
          exact x_retI (congrArg iI (by first | exact (iif_t c_9).symm | exact (iif_f c_9).symm : (mF 4) - 1 = iif ((mF 4) = 0) (-1000002) ((mF 4) - 1))) hend hP hD hS dX5_undo_63
        · refine x_al hC hl 1 dX5_undo_33 rfl rfl ?_
          refine x_get5 (v := .ref (h 1)) hC hP 0 rfl 1 (by decide) tb_620 rfl rfl dX5_undo_34 ?_
          refine x_il hC hl 0 dX5_undo_37 rfl rfl ?_
          refine x_al hC hl 1 dX5_undo_38 rfl rfl ?_
          refine x_get5 (v := .ref (h 3)) hC hP 0 rfl 3 (by decide) tb_622 rfl rfl dX5_undo_39 ?_
          refine x_bi hC dX5_undo_42 (by decide) ?_
          refine x_al hC hl 1 dX5_undo_44 rfl rfl ?_
          refine x_get5 (v := .int (iI ((mF 4) - 1))) hC hP 0 rfl 4 (by decide) tb_623 rfl rfl dX5_undo_45 ?_
          refine x_imul hC dX5_undo_48 ?_
          refine x_il hC hl 0 dX5_undo_49 rfl rfl ?_
          refine x_iadd hC dX5_undo_50 ?_
          refine x_iald hC hP 3 rfl (by omega) (by decide) dX5_undo_51 ?_
          refine x_iast hC hP hD hS 1 rfl (by omega) (by decide) dX5_undo_52 (fun H locs hP hD hS => ?_)
          have hP : va_P D vwCl (wM h cs (u1 (u1 mF 0 0) 4 ((mF 4) - 1)) (u1 (fI (fun k s => u1 s k (mV (109 * (((mF 4) - 1)) + k))) mS i) i (mV ((109 * ((mF 4) - 1)) + i))) mA mV mT mB) H := hP
          have hD : va_D A (wM h cs (u1 (u1 mF 0 0) 4 ((mF 4) - 1)) (u1 (fI (fun k s => u1 s k (mV (109 * (((mF 4) - 1)) + k))) mS i) i (mV ((109 * ((mF 4) - 1)) + i))) mA mV mT mB) := hD
          refine x_iinc hC [(1, .int (iI (i + 1))), (0, .ref (h 0))] 0 hl dX5_undo_53 rfl (by decide) rfl (fun ls hl => ?_)
          refine x_goto hC 27 dX5_undo_56 (by decide) ?_
          have ew_2 : (wM h cs (u1 (u1 mF 0 0) 4 ((mF 4) - 1)) (u1 (fI (fun k s => u1 s k (mV (109 * (((mF 4) - 1)) + k))) mS i) i (mV ((109 * ((mF 4) - 1)) + i))) mA mV mT mB) = (wM h cs (u1 (u1 mF 0 0) 4 ((mF 4) - 1)) (fI (fun k s => u1 s k (mV (109 * (((mF 4) - 1)) + k))) mS (i + 1)) mA mV mT mB) := (wMc rfl (by rw [fI_s (by omega)] : u1 (fI (fun k s => u1 s k (mV (109 * (((mF 4) - 1)) + k))) mS i) i (mV ((109 * ((mF 4) - 1)) + i)) = fI (fun k s => u1 s k (mV (109 * (((mF 4) - 1)) + k))) mS (i + 1)) rfl rfl rfl rfl)
          have hP := vPe hP ew_2
          have hD := vDe hD ew_2
          have hl := lv_sub (l' := [(1, .int (iI (i + 1))), (0, .ref (h 0))]) hl [0, 1] rfl
          exact ih_27 (i + 1) (by omega) (by omega) (by omega) H locs ls hP hD hS hl
    have hl := lv_sub (l' := [(1, .int (iI 0)), (0, .ref (h 0))]) hl [0, 1] rfl
    exact loop_27 (Int.toNat (109 - 0) + 1) 0 (by omega) (by omega) (by omega) H locs ls hP hD hS hl
  · refine x_ldc hC (-1000002) tb_720 (by decide) dX5_undo_12 ?_
    have ew_3 : (wM h cs (u1 mF 0 0) mS mA mV mT mB) = (wM h cs (iif ((mF 4) = 0) (u1 mF 0 0) (u1 (u1 mF 0 0) 4 ((mF 4) - 1))) (iif ((mF 4) = 0) mS (mTake mS mV ((mF 4) - 1))) mA mV mT mB) := (wMc (by first | exact (iif_t c_9).symm | exact (iif_f c_9).symm : u1 mF 0 0 = iif ((mF 4) = 0) (u1 mF 0 0) (u1 (u1 mF 0 0) 4 ((mF 4) - 1))) (by first | exact (iif_t c_9).symm | exact (iif_f c_9).symm : mS = iif ((mF 4) = 0) mS (mTake mS mV ((mF 4) - 1))) rfl rfl rfl rfl)
    have hP := vPe hP ew_3
    have hD := vDe hD ew_3
    exact x_retI (congrArg iI (by first | exact (iif_t c_9).symm | exact (iif_f c_9).symm : (-1000002) = iif ((mF 4) = 0) (-1000002) ((mF 4) - 1))) hend hP hD hS dX5_undo_14
