theorem lk5_45 : LkV RX5 45 yX5_gap cX5_gap 6 (some .int) 2 := ⟨tb_711, tb_708, tb_710, tb_35, tb_76, by decide +kernel⟩
theorem lk5_48 : LkV RX5 48 yX5_taken cX5_taken 4 (some .int) 1 := ⟨tb_715, tb_712, tb_714, tb_36, tb_76, by decide +kernel⟩
theorem lk5_52 : LkV RX5 52 yX5_canBe cX5_canBe 8 (some .boolean) 5 := ⟨tb_691, tb_688, tb_690, tb_30, tb_76, by decide +kernel⟩
theorem lk5_56 : LkV RX5 56 yX5_isOpen cX5_isOpen 2 (some .boolean) 1 := ⟨tb_703, tb_700, tb_702, tb_33, tb_76, by decide +kernel⟩
theorem lk5_60 : LkV RX5 60 yX5_worth cX5_worth 4 (some .int) 3 := ⟨tb_707, tb_704, tb_706, tb_34, tb_76, by decide +kernel⟩
theorem lk5_64 : LkV RX5 64 yX5_dearness cX5_dearness 2 (some .int) 1 := ⟨tb_719, tb_716, tb_718, tb_37, tb_76, by decide +kernel⟩
theorem lk5_96 : LkV RX5 96 yX5_canMove cX5_canMove 3 (some .boolean) 2 := ⟨tb_756, tb_753, tb_755, tb_43, tb_76, by decide +kernel⟩
theorem lk5_143 : LkV RX5 143 yX5_talkAt cX5_talkAt 4 (some .int) 2 := ⟨tb_835, tb_832, tb_834, tb_56, tb_76, by decide +kernel⟩
theorem lk5_152 : LkV RX5 152 yX5_talksAt cX5_talksAt 4 (some .int) 1 := ⟨tb_848, tb_845, tb_847, tb_57, tb_76, by decide +kernel⟩
/-! the reference's readers -/
theorem iif_T {α : Type} {a b : α} : iif True a b = a := iif_t trivial
theorem iif_F {α : Type} {a b : α} : iif False a b = b := iif_f (fun h => h)
theorem mGap_rg {S : Int → Int} (hI : IM S) (r f : Int) {n : Int} (h0 : 0 ≤ n) (h1 : n ≤ S 1) : 0 ≤ mGap S r f n ∧ mGap S r f n ≤ 99 := by
  have hc := hI.2.1
  refine fI_ind (fun _ x => 0 ≤ x ∧ x ≤ 99) (by omega) (fun i x hi hin hx => ?_) h0
  have hb := imB hI (29 + 4 * i + 1) (by omega)
  unfold mGapS
  by_cases c : S (29 + 4 * i + 3) = r ∧ S (29 + 4 * i + 1) ≤ f ∧ x < S (29 + 4 * i + 1)
  · rw [iif_t c]; omega
  · rw [iif_f c]; omega
theorem mTaken_rg {S : Int → Int} (hI : IM S) (r : Int) {n : Int} (h0 : 0 ≤ n) (h1 : n ≤ S 1) : -(100 * n) ≤ mTaken S r n ∧ mTaken S r n ≤ 100 * n := by
  have hc := hI.2.1
  refine fI_ind (fun n x => -(100 * n) ≤ x ∧ x ≤ 100 * n) (by omega) (fun i x hi hin hx => ?_) h0
  have hb := imB hI (29 + 4 * i + 1) (by omega)
  have hb2 := imB hI (29 + 4 * i + 0) (by omega)
  unfold mTakenS
  by_cases c : S (29 + 4 * i + 3) = r
  · rw [iif_t c]; omega
  · rw [iif_f c]; omega
noncomputable def mWorth (S : Int → Int) (r f rule : Int) : Int := iif (rule = 0) 0 (iif (rule = 1) (f - mGap S r f (S 1)) (iif (rule = 2) (S (5 + 3 * r + 0)) (-mTaken S r (S 1))))
theorem mWorth_rg {S : Int → Int} (hI : IM S) (r f rule : Int) (hr : 0 ≤ r ∧ r < 8) (hf : -1 ≤ f ∧ f ≤ 99) : -3000 ≤ mWorth S r f rule ∧ mWorth S r f rule ≤ 3000 := by
  have hc := hI.2.1
  have h1 := mGap_rg hI r f hc.1 (Int.le_refl _)
  have h2 := mTaken_rg hI r hc.1 (Int.le_refl _)
  have h3 := imB hI (5 + 3 * r + 0) (by omega)
  unfold mWorth iif
  split
  · omega
  · split
    · omega
    · split <;> omega
def mDear (S : Int → Int) (r : Int) : Int := 10 * S (5 + 3 * r + 1) + S (5 + 3 * r + 0)
theorem mDear_rg {S : Int → Int} (hI : IM S) (r : Int) (hr : 0 ≤ r ∧ r < 8) : -3000 ≤ mDear S r ∧ mDear S r ≤ 3000 := by
  have h1 := imB hI (5 + 3 * r + 1) (by omega)
  have h3 := imB hI (5 + 3 * r + 0) (by omega)
  unfold mDear
  omega
noncomputable def mGetS (S : Int → Int) (f e z rule : Int) (r : Int) (x : Int × Int) : Int × Int := iif (mCan S r f e z (-1)) (iif (S (5 + 3 * r + 2) = 1) (iif (x.1 = -1 ∨ mWorth S r f rule < mWorth S x.1 f rule) r x.1, x.2) (x.1, iif (x.2 = -1 ∨ mDear S r < mDear S x.2) r x.2)) x
noncomputable def mGetX (S : Int → Int) (f e z rule : Int) (n : Int) : Int × Int := fI (mGetS S f e z rule) (-1, -1) n
theorem mGetX_s (S : Int → Int) (f e z rule : Int) {i : Int} (h : 0 ≤ i) : mGetX S f e z rule (i + 1) = mGetS S f e z rule i (mGetX S f e z rule i) := fI_s h
theorem mGetX_rg (S : Int → Int) (f e z rule : Int) {n : Int} (h0 : 0 ≤ n) : (-1 ≤ (mGetX S f e z rule n).1 ∧ (mGetX S f e z rule n).1 < n) ∧ -1 ≤ (mGetX S f e z rule n).2 ∧ (mGetX S f e z rule n).2 < n := by
  refine fI_ind (fun n (x : Int × Int) => (-1 ≤ x.1 ∧ x.1 < n) ∧ -1 ≤ x.2 ∧ x.2 < n) (by simp) (fun i x hi hin hx => ?_) h0
  unfold mGetS iif
  split
  · split
    · dsimp only; split <;> omega
    · dsimp only; split <;> omega
  · omega
noncomputable def mGets (S : Int → Int) (f e z rule : Int) : Int := iif ((mGetX S f e z rule 8).1 = -1) (mGetX S f e z rule 8).2 (mGetX S f e z rule 8).1
theorem mGets_rg (S : Int → Int) (f e z rule : Int) : -1 ≤ mGets S f e z rule ∧ mGets S f e z rule < 8 := by
  have h := mGetX_rg S f e z rule (n := 8) (by omega)
  unfold mGets iif
  split <;> omega
def mMove (S : Int → Int) (t r : Int) : Prop := ¬ S (29 + 4 * t + 3) = r ∧ S (5 + 3 * r + 2) = 1 ∧ mCan S r (S (29 + 4 * t + 0)) (S (29 + 4 * t + 1)) (S (29 + 4 * t + 2)) t
noncomputable def mLow (S : Int → Int) (t : Int) : Int := fstI (fun r => mMove S t r) (-1) (8 - (0 : Int)).toNat 0
def mOpenN (S : Int → Int) (n : Int) : Int := fI (fun r x => x + S (5 + 3 * r + 2)) 0 n
theorem bd_s (p : Int → Prop) (n : Int) (h : 0 ≤ n) : mkN (bd p) (n + 1).toNat = mkN (bd p) n.toNat + (if bd p n.toNat then 2 ^ n.toNat else 0) := by
  rw [show (n + 1).toNat = n.toNat + 1 by omega]
  rfl
theorem shl_1 (n : Nat) (h : n < 31) : (iI 1 : Int32) <<< (iI (n : Int) &&& 31) = nI (2 ^ n) := by
  have : ∀ n : Nat, n < 31 → (iI 1 : Int32) <<< (iI (n : Int) &&& 31) = nI (2 ^ n) := by decide +kernel
  exact this n h
theorem mskI_t {p : Int → Prop} {i : Int} (h0 : 0 ≤ i) (h1 : i < 31) (hp : p i) : mskI p i ||| (iI 1 <<< (iI i &&& 31)) = mskI p (i + 1) := by
  obtain ⟨n, rfl⟩ := Int.eq_ofNat_of_zero_le h0
  unfold mskI
  rw [shl_1 n (by omega), bd_s p n (by omega), if_pos (bd_t (by simpa using hp))]
  have hlt := mkN_lt (bd p) n
  have e := Nat.two_pow_add_eq_or_of_lt hlt 1
  rw [Nat.mul_one] at e
  show nI (mkN (bd p) n) ||| nI (2 ^ n) = nI (mkN (bd p) n + 2 ^ n)
  rw [Nat.add_comm, e, Nat.or_comm]
  exact fa_or _ _
theorem mskI_f {p : Int → Prop} {i : Int} (h0 : 0 ≤ i) (hp : ¬ p i) : mskI p i ||| iI 0 = mskI p (i + 1) := by
  obtain ⟨n, rfl⟩ := Int.eq_ofNat_of_zero_le h0
  unfold mskI
  rw [bd_s p n (by omega), bd_f (by simpa using hp)]
  show nI (mkN (bd p) n) ||| (0 : Int32) = _
  rw [Int32.or_zero]
  rfl
noncomputable def bitI (x : Int32) (k : Int) : Int := ((x >>> (iI k &&& 31)) &&& iI 1).toInt
theorem bitI_eq (x : Int32) (k : Int) : (x >>> (iI k &&& 31)) &&& iI 1 = iI (bitI x k) := by
  unfold bitI iI
  rw [Int32.ofInt_toInt]
noncomputable def popI (x : Int32) (n : Int) : Int := fI (fun k y => y + bitI x k) 0 n
theorem mTalkAt_rg (S : Int → Int) (r h : Int) (hc : S 1 ≤ 20) : -1000004 ≤ mTalkAt S r h ∧ mTalkAt S r h < 20 := by
  have hh : ∀ (p : Int → Prop) (k : Nat) (i : Int), 0 ≤ i → i + k ≤ 20 → -1000004 ≤ fstI p (-1000004) k i ∧ fstI p (-1000004) k i < 20 := by
    intro p k
    induction k with
    | zero => intro i _ _; unfold fstI; omega
    | succ k ih =>
      intro i h0 h1
      unfold fstI iif
      split
      · omega
      · exact ih (i + 1) (by omega) (by omega)
  exact hh _ _ _ (Int.le_refl 0) (by omega)
noncomputable def mLongS (S : Int → Int) (r : Int) (h : Int) (x : Int × Int) : Int × Int := iif (mTalkAt S r h = -1000004) (iif (x.1 < x.2 + 1) (x.2 + 1) x.1, x.2 + 1) (iif (x.1 < 0) 0 x.1, 0)
noncomputable def mLong (S : Int → Int) (r : Int) (n : Int) : Int × Int := fI (mLongS S r) (0, 0) n
theorem mLong_s (S : Int → Int) (r : Int) {i : Int} (h : 0 ≤ i) : mLong S r (i + 1) = mLongS S r i (mLong S r i) := fI_s h
theorem mLong_rg (S : Int → Int) (r : Int) {n : Int} (h0 : 0 ≤ n) : (0 ≤ (mLong S r n).1 ∧ (mLong S r n).1 ≤ n) ∧ 0 ≤ (mLong S r n).2 ∧ (mLong S r n).2 ≤ n := by
  refine fI_ind (fun n (x : Int × Int) => (0 ≤ x.1 ∧ x.1 ≤ n) ∧ 0 ≤ x.2 ∧ x.2 ≤ n) (by simp) (fun i x hi hin hx => ?_) h0
  unfold mLongS iif
  split
  · dsimp only; split <;> omega
  · dsimp only; split <;> omega
noncomputable def mTalksAtS (S : Int → Int) (h r x : Int) : Int := iif (mTalkAt S r h = -1000004) (x + 0) (x + 1)
noncomputable def mTalksAt (S : Int → Int) (h n : Int) : Int := fI (mTalksAtS S h) 0 n
theorem mTalksAt_rg (S : Int → Int) (h : Int) {n : Int} (h0 : 0 ≤ n) : 0 ≤ mTalksAt S h n ∧ mTalksAt S h n ≤ n := by
  refine fI_ind (fun n x => 0 ≤ x ∧ x ≤ n) (by simp) (fun i x hi hin hx => ?_) h0
  unfold mTalksAtS iif
  split <;> omega
noncomputable def mTalksS (S : Int → Int) (t x : Int) : Int := iif (S (29 + 4 * t + 3) = -1) (x + 0) (x + 1)
noncomputable def mTalks (S : Int → Int) (n : Int) : Int := fI (mTalksS S) 0 n
theorem mTalks_rg (S : Int → Int) {n : Int} (h0 : 0 ≤ n) : 0 ≤ mTalks S n ∧ mTalks S n ≤ n := by
  refine fI_ind (fun n x => 0 ≤ x ∧ x ≤ n) (by simp) (fun i x hi hin hx => ?_) h0
  unfold mTalksS iif
  split <;> omega
noncomputable def mFewS (S : Int → Int) (h x : Int) : Int := iif (x < mTalksAt S h 8) (mTalksAt S h 8) x
noncomputable def mFew (S : Int → Int) (n : Int) : Int := fI (mFewS S) 0 n
theorem mFew_s (S : Int → Int) {i : Int} (h : 0 ≤ i) : mFew S (i + 1) = mFewS S i (mFew S i) := fI_s h
theorem mFew_rg (S : Int → Int) {n : Int} (h0 : 0 ≤ n) : 0 ≤ mFew S n ∧ mFew S n ≤ 8 := by
  refine fI_ind (fun n x => 0 ≤ x ∧ x ≤ 8) (by simp) (fun i x hi hin hx => ?_) h0
  have := mTalksAt_rg S i (n := 8) (by omega)
  unfold mFewS iif
  split <;> omega
noncomputable def mHours (S : Int → Int) (n : Int) : Int := fI (fun r x => x + mTaken S r (S 1)) 0 n

abbrev r5_taken : Room := { frames := 1, cells := 0, slots := 0, locals := 22 }
set_option maxHeartbeats 4000000 in
set_option maxRecDepth 100000 in
theorem k5_taken (l : Launch) (D : va_G) (cs : Nat → ClassId) (h : Nat → Nat) (mF : Int → Int) (mS : Int → Int) (mA : Int → Int) (mV : Int → Int) (mT : Int → Int) (mB : Int → Int) (room : Int) (hI : IM mS) (h1 : 0 ≤ room ∧ room < 8) : CI l D cs yX5_taken cX5_taken 4 .int r5_taken 0 0 [.ref (h 0), .int (iI room)] (wM h cs mF mS mA mV mT mB) (wM h cs mF mS mA mV mT mB) (iI (mTaken mS room (mS 1))) := by
  refine CI_start (own := RX5) (by decide) rfl rfl (Nat.le_of_ble_eq_true rfl) ?_
  intro p e s m args below meth c Q A ls hC hl hP hD hA hS hend
  have hl : lv_has ls 4 [(0, .ref (h 0)), (1, .int (iI room))] := hl
  obtain ⟨H, hH⟩ : ∃ H : Heap, H = s.heap := ⟨_, rfl⟩
  have hS : va_S A s.heap H [] := by rw [hH]; exact hS
  rw [← hH] at hP
  obtain ⟨locs, hlocs⟩ : ∃ locs : List Loc, locs = [] := ⟨_, rfl⟩
  rw [← hlocs] at hS
  suffices hgo : W p l e r5_taken s m args below meth c H locs 0 0 Q (F0 m 0 ls []) by rw [← hH, ← hlocs]; exact hgo
  clear hH hlocs
  obtain ⟨z0, z1, -⟩ := id hI
  refine x_ic hC dX5_taken_0 ?_
  refine x_is hC [(2, .int (iI 0)), (0, .ref (h 0)), (1, .int (iI room))] hl dX5_taken_1 rfl (by decide) rfl (fun ls hl => ?_)
  refine x_ic hC dX5_taken_2 ?_
  refine x_is hC [(3, .int (iI 0)), (2, .int (iI 0)), (0, .ref (h 0)), (1, .int (iI room))] hl dX5_taken_3 rfl (by decide) rfl (fun ls hl => ?_)
  have loop_4 : ∀ (n : Nat) (i : Int), (hi0 : 0 ≤ i) → (hiN : i ≤ mS 1) → ((mS 1) - i) < (n : Int) → ∀ (H : Heap) (locs : List Loc) (ls : Array Slot), va_P D vwCl (wM h cs mF mS mA mV mT mB) H → va_D A (wM h cs mF mS mA mV mT mB) → va_S A s.heap H locs → lv_has ls 4 [(3, .int (iI i)), (2, .int (iI (mTaken mS room i))), (0, .ref (h 0)), (1, .int (iI room))] → W p l e r5_taken s m args below meth c H locs 0 0 Q (F0 m 4 ls []) := by
    intro n
    induction n with
    | zero =>
      intro i hi0 hiN hnn
      exfalso; omega
    | succ n ih_4 =>
      intro i hi0 hiN hnn H locs ls hP hD hS hl
      refine x_il hC hl 0 dX5_taken_4 rfl rfl ?_
      refine x_al hC hl 2 dX5_taken_5 rfl rfl ?_
      refine x_get5 (v := .ref (h 1)) hC hP 0 rfl 1 (by decide) tb_620 rfl rfl dX5_taken_6 ?_
      refine x_ic hC dX5_taken_9 ?_
      refine x_iald hC hP 1 rfl (by omega) (by decide) dX5_taken_10 ?_
      refine x_ic_ge hC 50 dX5_taken_11 (by decide) (by omega) (by omega) (fun c_11 => ?_) (fun c_11 => ?_)
      · obtain rfl : i = mS 1 := by omega
        refine x_il hC hl 1 dX5_taken_50 rfl rfl ?_
        exact x_retI (rfl) hend hP hD hS dX5_taken_51
      · refine x_il hC hl 1 dX5_taken_14 rfl rfl ?_
        refine x_al hC hl 2 dX5_taken_15 rfl rfl ?_
        refine x_il hC hl 0 dX5_taken_16 rfl rfl ?_
        refine x_ic hC dX5_taken_17 ?_
        refine x_vI (As := [.int (iI i), .int (iI 3)]) hC (k5_of l D cs h mF mS mA mV mT mB i 3 (by first | assumption | omega) (by first | assumption | omega) (by first | assumption | omega)) lk5_34 (q0 := 0) (ci := 5) rfl rfl rfl (sub_all hP hD hS hA) hP hS rfl hl.1 rfl (Nat.le_of_ble_eq_true rfl) ⟨rfl, rfl⟩ ⟨Nat.le_of_ble_eq_true rfl, Nat.le_of_ble_eq_true rfl⟩ ⟨Nat.le_of_ble_eq_true rfl, Nat.le_of_ble_eq_true rfl⟩ dX5_taken_18 (fun H locs hP hD hS hHs => ?_)
        have q_18 := imB (S := mS) (by assumption) (29 + 4 * i + 3) (by omega)
        refine x_il hC hl 3 dX5_taken_21 rfl rfl ?_
        refine x_ic_ne hC 41 dX5_taken_22 (by decide) (by omega) (by omega) (fun c_22 => ?_) (fun c_22 => ?_)
        · refine x_ic hC dX5_taken_41 ?_
          refine x_iadd hC dX5_taken_42 ?_
          refine x_is hC [(2, .int (iI ((mTaken mS room i) + 0))), (3, .int (iI i)), (0, .ref (h 0)), (1, .int (iI room))] hl dX5_taken_43 rfl (by decide) rfl (fun ls hl => ?_)
          refine x_iinc hC [(3, .int (iI (i + 1))), (2, .int (iI ((mTaken mS room i) + 0))), (0, .ref (h 0)), (1, .int (iI room))] 1 hl dX5_taken_44 rfl (by decide) rfl (fun ls hl => ?_)
          refine x_goto hC 4 dX5_taken_47 (by decide) ?_
          have hl : lv_has ls 4 [(3, .int (iI (i + 1))), (2, .int (iI (mTaken mS room (i + 1)))), (0, .ref (h 0)), (1, .int (iI room))] := lvE (lv_sub (l' := [(3, .int (iI (i + 1))), (2, .int (iI ((mTaken mS room i) + 0))), (0, .ref (h 0)), (1, .int (iI room))]) hl [0, 1, 2, 3] rfl) (lcE rfl (lcE (congrArg (fun z => Value.int (iI z)) (by unfold mTaken; rw [fI_s (by omega)]; first | exact (iif_t (by omega)).symm | exact (iif_f (by omega)).symm : (mTaken mS room i) + 0 = mTaken mS room (i + 1))) (lcE rfl (lcE rfl (rfl)))))
          exact ih_4 (i + 1) (by omega) (by omega) (by omega) H locs ls hP hD hS hl
        · refine x_al hC hl 2 dX5_taken_25 rfl rfl ?_
          refine x_il hC hl 0 dX5_taken_26 rfl rfl ?_
          refine x_ic hC dX5_taken_27 ?_
          refine x_vI (As := [.int (iI i), .int (iI 1)]) hC (k5_of l D cs h mF mS mA mV mT mB i 1 (by first | assumption | omega) (by first | assumption | omega) (by first | assumption | omega)) lk5_34 (q0 := 0) (ci := 5) rfl rfl rfl (sub_all hP hD hS hA) hP hS rfl hl.1 rfl (Nat.le_of_ble_eq_true rfl) ⟨rfl, rfl⟩ ⟨Nat.le_of_ble_eq_true rfl, Nat.le_of_ble_eq_true rfl⟩ ⟨Nat.le_of_ble_eq_true rfl, Nat.le_of_ble_eq_true rfl⟩ dX5_taken_28 (fun H locs hP hD hS hHs => ?_)
          have q_28 := imB (S := mS) (by assumption) (29 + 4 * i + 1) (by omega)
          refine x_al hC hl 2 dX5_taken_31 rfl rfl ?_
          refine x_il hC hl 0 dX5_taken_32 rfl rfl ?_
          refine x_ic hC dX5_taken_33 ?_
          refine x_vI (As := [.int (iI i), .int (iI 0)]) hC (k5_of l D cs h mF mS mA mV mT mB i 0 (by first | assumption | omega) (by first | assumption | omega) (by first | assumption | omega)) lk5_34 (q0 := 0) (ci := 5) rfl rfl rfl (sub_all hP hD hS hA) hP hS rfl hl.1 rfl (Nat.le_of_ble_eq_true rfl) ⟨rfl, rfl⟩ ⟨Nat.le_of_ble_eq_true rfl, Nat.le_of_ble_eq_true rfl⟩ ⟨Nat.le_of_ble_eq_true rfl, Nat.le_of_ble_eq_true rfl⟩ dX5_taken_34 (fun H locs hP hD hS hHs => ?_)
          have q_34 := imB (S := mS) (by assumption) (29 + 4 * i + 0) (by omega)
          refine x_isub hC dX5_taken_37 ?_
          refine x_goto hC 42 dX5_taken_38 (by decide) ?_
          refine x_iadd hC dX5_taken_42 ?_
          refine x_is hC [(2, .int (iI ((mTaken mS room i) + ((mS (29 + 4 * i + 1)) - (mS (29 + 4 * i + 0)))))), (3, .int (iI i)), (0, .ref (h 0)), (1, .int (iI room))] hl dX5_taken_43 rfl (by decide) rfl (fun ls hl => ?_)
          refine x_iinc hC [(3, .int (iI (i + 1))), (2, .int (iI ((mTaken mS room i) + ((mS (29 + 4 * i + 1)) - (mS (29 + 4 * i + 0)))))), (0, .ref (h 0)), (1, .int (iI room))] 1 hl dX5_taken_44 rfl (by decide) rfl (fun ls hl => ?_)
          refine x_goto hC 4 dX5_taken_47 (by decide) ?_
          have hl : lv_has ls 4 [(3, .int (iI (i + 1))), (2, .int (iI (mTaken mS room (i + 1)))), (0, .ref (h 0)), (1, .int (iI room))] := lvE (lv_sub (l' := [(3, .int (iI (i + 1))), (2, .int (iI ((mTaken mS room i) + ((mS (29 + 4 * i + 1)) - (mS (29 + 4 * i + 0)))))), (0, .ref (h 0)), (1, .int (iI room))]) hl [0, 1, 2, 3] rfl) (lcE rfl (lcE (congrArg (fun z => Value.int (iI z)) (by unfold mTaken; rw [fI_s (by omega)]; first | exact (iif_t (by omega)).symm | exact (iif_f (by omega)).symm : (mTaken mS room i) + ((mS (29 + 4 * i + 1)) - (mS (29 + 4 * i + 0))) = mTaken mS room (i + 1))) (lcE rfl (lcE rfl (rfl)))))
          exact ih_4 (i + 1) (by omega) (by omega) (by omega) H locs ls hP hD hS hl
  have hl := lv_sub (l' := [(3, .int (iI 0)), (2, .int (iI (mTaken mS room 0))), (0, .ref (h 0)), (1, .int (iI room))]) hl [0, 1, 2, 3] rfl
  exact loop_4 (Int.toNat ((mS 1) - 0) + 1) 0 (by omega) (by omega) (by omega) H locs ls hP hD hS hl
abbrev r5_gap : Room := { frames := 1, cells := 0, slots := 0, locals := 22 }
set_option maxHeartbeats 4000000 in
set_option maxRecDepth 100000 in
theorem k5_gap (l : Launch) (D : va_G) (cs : Nat → ClassId) (h : Nat → Nat) (mF : Int → Int) (mS : Int → Int) (mA : Int → Int) (mV : Int → Int) (mT : Int → Int) (mB : Int → Int) (room : Int) (first : Int) (hI : IM mS) (h1 : 0 ≤ room ∧ room < 8) (h2 : -1 ≤ first ∧ first ≤ 99) : CI l D cs yX5_gap cX5_gap 6 .int r5_gap 0 0 [.ref (h 0), .int (iI room), .int (iI first)] (wM h cs mF mS mA mV mT mB) (wM h cs mF mS mA mV mT mB) (iI (first - mGap mS room first (mS 1))) := by
  refine CI_start (own := RX5) (by decide) rfl rfl (Nat.le_of_ble_eq_true rfl) ?_
  intro p e s m args below meth c Q A ls hC hl hP hD hA hS hend
  have hl : lv_has ls 6 [(0, .ref (h 0)), (1, .int (iI room)), (2, .int (iI first))] := hl
  obtain ⟨H, hH⟩ : ∃ H : Heap, H = s.heap := ⟨_, rfl⟩
  have hS : va_S A s.heap H [] := by rw [hH]; exact hS
  rw [← hH] at hP
  obtain ⟨locs, hlocs⟩ : ∃ locs : List Loc, locs = [] := ⟨_, rfl⟩
  rw [← hlocs] at hS
  suffices hgo : W p l e r5_gap s m args below meth c H locs 0 0 Q (F0 m 0 ls []) by rw [← hH, ← hlocs]; exact hgo
  clear hH hlocs
  obtain ⟨z0, z1, -⟩ := id hI
  refine x_ic hC dX5_gap_0 ?_
  refine x_is hC [(3, .int (iI 0)), (0, .ref (h 0)), (1, .int (iI room)), (2, .int (iI first))] hl dX5_gap_1 rfl (by decide) rfl (fun ls hl => ?_)
  refine x_ic hC dX5_gap_2 ?_
  refine x_isw hC [(4, .int (iI 0)), (3, .int (iI 0)), (0, .ref (h 0)), (1, .int (iI room)), (2, .int (iI first))] hl dX5_gap_3 (by decide) rfl (fun ls hl => ?_)
  have loop_5 : ∀ (n : Nat) (i : Int), (hi0 : 0 ≤ i) → (hiN : i ≤ mS 1) → ((mS 1) - i) < (n : Int) → ∀ (H : Heap) (locs : List Loc) (ls : Array Slot), va_P D vwCl (wM h cs mF mS mA mV mT mB) H → va_D A (wM h cs mF mS mA mV mT mB) → va_S A s.heap H locs → lv_has ls 6 [(4, .int (iI i)), (3, .int (iI (mGap mS room first i))), (0, .ref (h 0)), (1, .int (iI room)), (2, .int (iI first))] → W p l e r5_gap s m args below meth c H locs 0 0 Q (F0 m 5 ls []) := by
    intro n
    induction n with
    | zero =>
      intro i hi0 hiN hnn
      exfalso; omega
    | succ n ih_5 =>
      intro i hi0 hiN hnn H locs ls hP hD hS hl
      have hx := mGap_rg hI room first hi0 hiN
      refine x_ilw hC hl 0 dX5_gap_5 rfl ?_
      refine x_al hC hl 2 dX5_gap_7 rfl rfl ?_
      refine x_get5 (v := .ref (h 1)) hC hP 0 rfl 1 (by decide) tb_620 rfl rfl dX5_gap_8 ?_
      refine x_ic hC dX5_gap_11 ?_
      refine x_iald hC hP 1 rfl (by omega) (by decide) dX5_gap_12 ?_
      refine x_ic_ge hC 79 dX5_gap_13 (by decide) (by omega) (by omega) (fun c_13 => ?_) (fun c_13 => ?_)
      · obtain rfl : i = mS 1 := by omega
        refine x_il hC hl 4 dX5_gap_79 rfl rfl ?_
        refine x_il hC hl 1 dX5_gap_80 rfl rfl ?_
        refine x_isub hC dX5_gap_81 ?_
        exact x_retI (congrArg iI (by first | rfl | omega | grind : first - (mGap mS room first (mS 1)) = first - mGap mS room first (mS 1))) hend hP hD hS dX5_gap_82
      · refine x_al hC hl 2 dX5_gap_16 rfl rfl ?_
        refine x_ilw hC hl 0 dX5_gap_17 rfl ?_
        refine x_ic hC dX5_gap_19 ?_
        refine x_vI (As := [.int (iI i), .int (iI 3)]) hC (k5_of l D cs h mF mS mA mV mT mB i 3 (by first | assumption | omega) (by first | assumption | omega) (by first | assumption | omega)) lk5_34 (q0 := 0) (ci := 5) rfl rfl rfl (sub_all hP hD hS hA) hP hS rfl hl.1 rfl (Nat.le_of_ble_eq_true rfl) ⟨rfl, rfl⟩ ⟨Nat.le_of_ble_eq_true rfl, Nat.le_of_ble_eq_true rfl⟩ ⟨Nat.le_of_ble_eq_true rfl, Nat.le_of_ble_eq_true rfl⟩ dX5_gap_20 (fun H locs hP hD hS hHs => ?_)
        have q_20 := imB (S := mS) (by assumption) (29 + 4 * i + 3) (by omega)
        refine x_il hC hl 3 dX5_gap_23 rfl rfl ?_
        refine x_ic_ne hC 42 dX5_gap_24 (by decide) (by omega) (by omega) (fun c_24 => ?_) (fun c_24 => ?_)
        · refine x_ic hC dX5_gap_42 ?_
          refine x_isw hC [(5, .int (iI 0)), (4, .int (iI i)), (3, .int (iI (mGap mS room first i))), (0, .ref (h 0)), (1, .int (iI room)), (2, .int (iI first))] hl dX5_gap_43 (by decide) rfl (fun ls hl => ?_)
          refine x_ilw hC hl 0 dX5_gap_45 rfl ?_
          refine x_if_eq hC 71 dX5_gap_47 (by decide) (by omega) (fun c_47 => ?_) (fun hz => absurd hz (by decide))
          refine x_il hC hl 2 dX5_gap_71 rfl rfl ?_
          refine x_is hC [(3, .int (iI (mGap mS room first i))), (5, .int (iI 0)), (4, .int (iI i)), (0, .ref (h 0)), (1, .int (iI room)), (2, .int (iI first))] hl dX5_gap_72 rfl (by decide) rfl (fun ls hl => ?_)
          refine x_iinc hC [(4, .int (iI (i + 1))), (3, .int (iI (mGap mS room first i))), (5, .int (iI 0)), (0, .ref (h 0)), (1, .int (iI room)), (2, .int (iI first))] 2 hl dX5_gap_73 rfl (by decide) rfl (fun ls hl => ?_)
          refine x_goto hC 5 dX5_gap_76 (by decide) ?_
          have hl : lv_has ls 6 [(4, .int (iI (i + 1))), (3, .int (iI (mGap mS room first (i + 1)))), (0, .ref (h 0)), (1, .int (iI room)), (2, .int (iI first))] := lvE (lv_sub (l' := [(4, .int (iI (i + 1))), (3, .int (iI (mGap mS room first i))), (0, .ref (h 0)), (1, .int (iI room)), (2, .int (iI first))]) hl [0, 1, 3, 4, 5] rfl) (lcE rfl (lcE (congrArg (fun z => Value.int (iI z)) (by unfold mGap; rw [fI_s (by omega)]; first | exact (iif_t (by unfold mGap at *; omega)).symm | exact (iif_f (by unfold mGap at *; omega)).symm : mGap mS room first i = mGap mS room first (i + 1))) (lcE rfl (lcE rfl (lcE rfl (rfl))))))
          exact ih_5 (i + 1) (by omega) (by omega) (by omega) H locs ls hP hD hS hl
        · refine x_al hC hl 2 dX5_gap_27 rfl rfl ?_
          refine x_ilw hC hl 0 dX5_gap_28 rfl ?_
          refine x_ic hC dX5_gap_30 ?_
          refine x_vI (As := [.int (iI i), .int (iI 1)]) hC (k5_of l D cs h mF mS mA mV mT mB i 1 (by first | assumption | omega) (by first | assumption | omega) (by first | assumption | omega)) lk5_34 (q0 := 0) (ci := 5) rfl rfl rfl (sub_all hP hD hS hA) hP hS rfl hl.1 rfl (Nat.le_of_ble_eq_true rfl) ⟨rfl, rfl⟩ ⟨Nat.le_of_ble_eq_true rfl, Nat.le_of_ble_eq_true rfl⟩ ⟨Nat.le_of_ble_eq_true rfl, Nat.le_of_ble_eq_true rfl⟩ dX5_gap_31 (fun H locs hP hD hS hHs => ?_)
          have q_31 := imB (S := mS) (by assumption) (29 + 4 * i + 1) (by omega)
          refine x_il hC hl 4 dX5_gap_34 rfl rfl ?_
          refine x_ic_gt hC 42 dX5_gap_35 (by decide) (by omega) (by omega) (fun c_35 => ?_) (fun c_35 => ?_)
          · refine x_ic hC dX5_gap_42 ?_
            refine x_isw hC [(5, .int (iI 0)), (4, .int (iI i)), (3, .int (iI (mGap mS room first i))), (0, .ref (h 0)), (1, .int (iI room)), (2, .int (iI first))] hl dX5_gap_43 (by decide) rfl (fun ls hl => ?_)
            refine x_ilw hC hl 0 dX5_gap_45 rfl ?_
            refine x_if_eq hC 71 dX5_gap_47 (by decide) (by omega) (fun c_47 => ?_) (fun hz => absurd hz (by decide))
            refine x_il hC hl 2 dX5_gap_71 rfl rfl ?_
            refine x_is hC [(3, .int (iI (mGap mS room first i))), (5, .int (iI 0)), (4, .int (iI i)), (0, .ref (h 0)), (1, .int (iI room)), (2, .int (iI first))] hl dX5_gap_72 rfl (by decide) rfl (fun ls hl => ?_)
            refine x_iinc hC [(4, .int (iI (i + 1))), (3, .int (iI (mGap mS room first i))), (5, .int (iI 0)), (0, .ref (h 0)), (1, .int (iI room)), (2, .int (iI first))] 2 hl dX5_gap_73 rfl (by decide) rfl (fun ls hl => ?_)
            refine x_goto hC 5 dX5_gap_76 (by decide) ?_
            have hl : lv_has ls 6 [(4, .int (iI (i + 1))), (3, .int (iI (mGap mS room first (i + 1)))), (0, .ref (h 0)), (1, .int (iI room)), (2, .int (iI first))] := lvE (lv_sub (l' := [(4, .int (iI (i + 1))), (3, .int (iI (mGap mS room first i))), (0, .ref (h 0)), (1, .int (iI room)), (2, .int (iI first))]) hl [0, 1, 3, 4, 5] rfl) (lcE rfl (lcE (congrArg (fun z => Value.int (iI z)) (by unfold mGap; rw [fI_s (by omega)]; first | exact (iif_t (by unfold mGap at *; omega)).symm | exact (iif_f (by unfold mGap at *; omega)).symm : mGap mS room first i = mGap mS room first (i + 1))) (lcE rfl (lcE rfl (lcE rfl (rfl))))))
            exact ih_5 (i + 1) (by omega) (by omega) (by omega) H locs ls hP hD hS hl
          · refine x_ic hC dX5_gap_38 ?_
            refine x_goto hC 43 dX5_gap_39 (by decide) ?_
            refine x_isw hC [(5, .int (iI 1)), (4, .int (iI i)), (3, .int (iI (mGap mS room first i))), (0, .ref (h 0)), (1, .int (iI room)), (2, .int (iI first))] hl dX5_gap_43 (by decide) rfl (fun ls hl => ?_)
            refine x_ilw hC hl 0 dX5_gap_45 rfl ?_
            refine x_if_eq hC 71 dX5_gap_47 (by decide) (by omega) (fun hz => absurd hz (by decide)) (fun c_47 => ?_)
            refine x_al hC hl 3 dX5_gap_50 rfl rfl ?_
            refine x_ilw hC hl 1 dX5_gap_51 rfl ?_
            refine x_ic hC dX5_gap_53 ?_
            refine x_vI (As := [.int (iI i), .int (iI 1)]) hC (k5_of l D cs h mF mS mA mV mT mB i 1 (by first | assumption | omega) (by first | assumption | omega) (by first | assumption | omega)) lk5_34 (q0 := 0) (ci := 5) rfl rfl rfl (sub_all hP hD hS hA) hP hS rfl hl.1 rfl (Nat.le_of_ble_eq_true rfl) ⟨rfl, rfl⟩ ⟨Nat.le_of_ble_eq_true rfl, Nat.le_of_ble_eq_true rfl⟩ ⟨Nat.le_of_ble_eq_true rfl, Nat.le_of_ble_eq_true rfl⟩ dX5_gap_54 (fun H locs hP hD hS hHs => ?_)
            have q_54 := imB (S := mS) (by assumption) (29 + 4 * i + 1) (by omega)
            refine x_il hC hl 2 dX5_gap_57 rfl rfl ?_
            refine x_ic_le hC 71 dX5_gap_58 (by decide) (by omega) (by omega) (fun c_58 => ?_) (fun c_58 => ?_)
            · refine x_il hC hl 2 dX5_gap_71 rfl rfl ?_
              refine x_is hC [(3, .int (iI (mGap mS room first i))), (5, .int (iI 1)), (4, .int (iI i)), (0, .ref (h 0)), (1, .int (iI room)), (2, .int (iI first))] hl dX5_gap_72 rfl (by decide) rfl (fun ls hl => ?_)
              refine x_iinc hC [(4, .int (iI (i + 1))), (3, .int (iI (mGap mS room first i))), (5, .int (iI 1)), (0, .ref (h 0)), (1, .int (iI room)), (2, .int (iI first))] 2 hl dX5_gap_73 rfl (by decide) rfl (fun ls hl => ?_)
              refine x_goto hC 5 dX5_gap_76 (by decide) ?_
              have hl : lv_has ls 6 [(4, .int (iI (i + 1))), (3, .int (iI (mGap mS room first (i + 1)))), (0, .ref (h 0)), (1, .int (iI room)), (2, .int (iI first))] := lvE (lv_sub (l' := [(4, .int (iI (i + 1))), (3, .int (iI (mGap mS room first i))), (0, .ref (h 0)), (1, .int (iI room)), (2, .int (iI first))]) hl [0, 1, 3, 4, 5] rfl) (lcE rfl (lcE (congrArg (fun z => Value.int (iI z)) (by unfold mGap; rw [fI_s (by omega)]; first | exact (iif_t (by unfold mGap at *; omega)).symm | exact (iif_f (by unfold mGap at *; omega)).symm : mGap mS room first i = mGap mS room first (i + 1))) (lcE rfl (lcE rfl (lcE rfl (rfl))))))
              exact ih_5 (i + 1) (by omega) (by omega) (by omega) H locs ls hP hD hS hl
            · refine x_al hC hl 3 dX5_gap_61 rfl rfl ?_
              refine x_ilw hC hl 1 dX5_gap_62 rfl ?_
              refine x_ic hC dX5_gap_64 ?_
              refine x_vI (As := [.int (iI i), .int (iI 1)]) hC (k5_of l D cs h mF mS mA mV mT mB i 1 (by first | assumption | omega) (by first | assumption | omega) (by first | assumption | omega)) lk5_34 (q0 := 0) (ci := 5) rfl rfl rfl (sub_all hP hD hS hA) hP hS rfl hl.1 rfl (Nat.le_of_ble_eq_true rfl) ⟨rfl, rfl⟩ ⟨Nat.le_of_ble_eq_true rfl, Nat.le_of_ble_eq_true rfl⟩ ⟨Nat.le_of_ble_eq_true rfl, Nat.le_of_ble_eq_true rfl⟩ dX5_gap_65 (fun H locs hP hD hS hHs => ?_)
              have q_65 := imB (S := mS) (by assumption) (29 + 4 * i + 1) (by omega)
              refine x_goto hC 72 dX5_gap_68 (by decide) ?_
              refine x_is hC [(3, .int (iI (mS (29 + 4 * i + 1)))), (5, .int (iI 1)), (4, .int (iI i)), (0, .ref (h 0)), (1, .int (iI room)), (2, .int (iI first))] hl dX5_gap_72 rfl (by decide) rfl (fun ls hl => ?_)
              refine x_iinc hC [(4, .int (iI (i + 1))), (3, .int (iI (mS (29 + 4 * i + 1)))), (5, .int (iI 1)), (0, .ref (h 0)), (1, .int (iI room)), (2, .int (iI first))] 2 hl dX5_gap_73 rfl (by decide) rfl (fun ls hl => ?_)
              refine x_goto hC 5 dX5_gap_76 (by decide) ?_
              have hl : lv_has ls 6 [(4, .int (iI (i + 1))), (3, .int (iI (mGap mS room first (i + 1)))), (0, .ref (h 0)), (1, .int (iI room)), (2, .int (iI first))] := lvE (lv_sub (l' := [(4, .int (iI (i + 1))), (3, .int (iI (mS (29 + 4 * i + 1)))), (0, .ref (h 0)), (1, .int (iI room)), (2, .int (iI first))]) hl [0, 1, 3, 4, 5] rfl) (lcE rfl (lcE (congrArg (fun z => Value.int (iI z)) (by unfold mGap; rw [fI_s (by omega)]; first | exact (iif_t (by unfold mGap at *; omega)).symm | exact (iif_f (by unfold mGap at *; omega)).symm : mS (29 + 4 * i + 1) = mGap mS room first (i + 1))) (lcE rfl (lcE rfl (lcE rfl (rfl))))))
              exact ih_5 (i + 1) (by omega) (by omega) (by omega) H locs ls hP hD hS hl
  have hl := lv_sub (l' := [(4, .int (iI 0)), (3, .int (iI (mGap mS room first 0))), (0, .ref (h 0)), (1, .int (iI room)), (2, .int (iI first))]) hl [0, 1, 2, 3, 4] rfl
  exact loop_5 (Int.toNat ((mS 1) - 0) + 1) 0 (by omega) (by omega) (by omega) H locs ls hP hD hS hl
abbrev r5_worth : Room := { frames := 2, cells := 0, slots := 0, locals := 47 }
set_option maxHeartbeats 4000000 in
set_option maxRecDepth 100000 in
theorem k5_worth (l : Launch) (D : va_G) (cs : Nat → ClassId) (h : Nat → Nat) (mF : Int → Int) (mS : Int → Int) (mA : Int → Int) (mV : Int → Int) (mT : Int → Int) (mB : Int → Int) (room : Int) (first : Int) (rule : Int) (hI : IM mS) (h1 : 0 ≤ room ∧ room < 8) (h2 : -1 ≤ first ∧ first ≤ 99) (h3 : 0 ≤ rule ∧ rule ≤ 3) : CI l D cs yX5_worth cX5_worth 4 .int r5_worth 0 0 [.ref (h 0), .int (iI room), .int (iI first), .int (iI rule)] (wM h cs mF mS mA mV mT mB) (wM h cs mF mS mA mV mT mB) (iI (mWorth mS room first rule)) := by
  refine CI_start (own := RX5) (by decide) rfl rfl (Nat.le_of_ble_eq_true rfl) ?_
  intro p e s m args below meth c Q A ls hC hl hP hD hA hS hend
  have hl : lv_has ls 4 [(0, .ref (h 0)), (1, .int (iI room)), (2, .int (iI first)), (3, .int (iI rule))] := hl
  obtain ⟨H, hH⟩ : ∃ H : Heap, H = s.heap := ⟨_, rfl⟩
  have hS : va_S A s.heap H [] := by rw [hH]; exact hS
  rw [← hH] at hP
  obtain ⟨locs, hlocs⟩ : ∃ locs : List Loc, locs = [] := ⟨_, rfl⟩
  rw [← hlocs] at hS
  suffices hgo : W p l e r5_worth s m args below meth c H locs 0 0 Q (F0 m 0 ls []) by rw [← hH, ← hlocs]; exact hgo
  clear hH hlocs
  obtain ⟨z0, z1, -⟩ := id hI
  refine x_il hC hl 3 dX5_worth_0 rfl rfl ?_
  refine x_if_ne hC 8 dX5_worth_1 (by decide) (by omega) (fun c_1 => ?_) (fun c_1 => ?_)
  · refine x_il hC hl 3 dX5_worth_8 rfl rfl ?_
    refine x_ic hC dX5_worth_9 ?_
    refine x_ic_ne hC 22 dX5_worth_10 (by decide) (by omega) (by omega) (fun c_10 => ?_) (fun c_10 => ?_)
    · refine x_il hC hl 3 dX5_worth_22 rfl rfl ?_
      refine x_ic hC dX5_worth_23 ?_
      refine x_ic_ne hC 36 dX5_worth_24 (by decide) (by omega) (by omega) (fun c_24 => ?_) (fun c_24 => ?_)
      · refine x_al hC hl 0 dX5_worth_36 rfl rfl ?_
        refine x_il hC hl 1 dX5_worth_37 rfl rfl ?_
        refine x_vI (As := [.int (iI room)]) hC (k5_taken l D cs h mF mS mA mV mT mB room (by first | assumption | omega) (by first | assumption | omega)) lk5_48 (q0 := 0) (ci := 5) rfl rfl rfl (sub_all hP hD hS hA) hP hS rfl hl.1 rfl (Nat.le_of_ble_eq_true rfl) ⟨rfl, rfl⟩ ⟨Nat.le_of_ble_eq_true rfl, Nat.le_of_ble_eq_true rfl⟩ ⟨Nat.le_of_ble_eq_true rfl, Nat.le_of_ble_eq_true rfl⟩ dX5_worth_38 (fun H locs hP hD hS hHs => ?_)
        have q_38 := mTaken_rg (S := mS) (by assumption) room (n := mS 1) (by omega) (by omega)
        refine x_ineg hC dX5_worth_41 ?_
        exact x_retI (congrArg iI (by unfold mWorth; first | exact (iif_t (by omega)).symm | (rw [iif_f (by omega)]; first | exact (iif_t (by omega)).symm | (rw [iif_f (by omega)]; first | exact (iif_t (by omega)).symm | exact (iif_f (by omega)).symm)) : -(mTaken mS room (mS 1)) = mWorth mS room first rule)) hend hP hD hS dX5_worth_42
      · refine x_al hC hl 0 dX5_worth_27 rfl rfl ?_
        refine x_il hC hl 1 dX5_worth_28 rfl rfl ?_
        refine x_ic hC dX5_worth_29 ?_
        refine x_vI (As := [.int (iI room), .int (iI 0)]) hC (k5_room0 l D cs h mF mS mA mV mT mB room 0 (by first | assumption | omega) (by first | assumption | omega) (by first | assumption | omega)) lk5_38 (q0 := 0) (ci := 5) rfl rfl rfl (sub_all hP hD hS hA) hP hS rfl hl.1 rfl (Nat.le_of_ble_eq_true rfl) ⟨rfl, rfl⟩ ⟨Nat.le_of_ble_eq_true rfl, Nat.le_of_ble_eq_true rfl⟩ ⟨Nat.le_of_ble_eq_true rfl, Nat.le_of_ble_eq_true rfl⟩ dX5_worth_30 (fun H locs hP hD hS hHs => ?_)
        have q_30 := imB (S := mS) (by assumption) (5 + 3 * room + 0) (by omega)
        refine x_goto hC 42 dX5_worth_33 (by decide) ?_
        exact x_retI (congrArg iI (by unfold mWorth; first | exact (iif_t (by omega)).symm | (rw [iif_f (by omega)]; first | exact (iif_t (by omega)).symm | (rw [iif_f (by omega)]; first | exact (iif_t (by omega)).symm | exact (iif_f (by omega)).symm)) : mS (5 + 3 * room + 0) = mWorth mS room first rule)) hend hP hD hS dX5_worth_42
    · refine x_al hC hl 0 dX5_worth_13 rfl rfl ?_
      refine x_il hC hl 1 dX5_worth_14 rfl rfl ?_
      refine x_il hC hl 2 dX5_worth_15 rfl rfl ?_
      refine x_vI (As := [.int (iI room), .int (iI first)]) hC (k5_gap l D cs h mF mS mA mV mT mB room first (by first | assumption | omega) (by first | assumption | omega) (by first | assumption | omega)) lk5_45 (q0 := 0) (ci := 5) rfl rfl rfl (sub_all hP hD hS hA) hP hS rfl hl.1 rfl (Nat.le_of_ble_eq_true rfl) ⟨rfl, rfl⟩ ⟨Nat.le_of_ble_eq_true rfl, Nat.le_of_ble_eq_true rfl⟩ ⟨Nat.le_of_ble_eq_true rfl, Nat.le_of_ble_eq_true rfl⟩ dX5_worth_16 (fun H locs hP hD hS hHs => ?_)
      refine x_goto hC 42 dX5_worth_19 (by decide) ?_
      exact x_retI (congrArg iI (by unfold mWorth; first | exact (iif_t (by omega)).symm | (rw [iif_f (by omega)]; first | exact (iif_t (by omega)).symm | (rw [iif_f (by omega)]; first | exact (iif_t (by omega)).symm | exact (iif_f (by omega)).symm)) : first - mGap mS room first (mS 1) = mWorth mS room first rule)) hend hP hD hS dX5_worth_42
  · refine x_ic hC dX5_worth_4 ?_
    refine x_goto hC 42 dX5_worth_5 (by decide) ?_
    exact x_retI (congrArg iI (by unfold mWorth; first | exact (iif_t (by omega)).symm | (rw [iif_f (by omega)]; first | exact (iif_t (by omega)).symm | (rw [iif_f (by omega)]; first | exact (iif_t (by omega)).symm | exact (iif_f (by omega)).symm)) : 0 = mWorth mS room first rule)) hend hP hD hS dX5_worth_42
abbrev r5_dearness : Room := { frames := 1, cells := 0, slots := 0, locals := 22 }
set_option maxHeartbeats 4000000 in
set_option maxRecDepth 100000 in
theorem k5_dearness (l : Launch) (D : va_G) (cs : Nat → ClassId) (h : Nat → Nat) (mF : Int → Int) (mS : Int → Int) (mA : Int → Int) (mV : Int → Int) (mT : Int → Int) (mB : Int → Int) (room : Int) (hI : IM mS) (h1 : 0 ≤ room ∧ room < 8) : CI l D cs yX5_dearness cX5_dearness 2 .int r5_dearness 0 0 [.ref (h 0), .int (iI room)] (wM h cs mF mS mA mV mT mB) (wM h cs mF mS mA mV mT mB) (iI (mDear mS room)) := by
  refine CI_start (own := RX5) (by decide) rfl rfl (Nat.le_of_ble_eq_true rfl) ?_
  intro p e s m args below meth c Q A ls hC hl hP hD hA hS hend
  have hl : lv_has ls 2 [(0, .ref (h 0)), (1, .int (iI room))] := hl
  obtain ⟨H, hH⟩ : ∃ H : Heap, H = s.heap := ⟨_, rfl⟩
  have hS : va_S A s.heap H [] := by rw [hH]; exact hS
  rw [← hH] at hP
  obtain ⟨locs, hlocs⟩ : ∃ locs : List Loc, locs = [] := ⟨_, rfl⟩
  rw [← hlocs] at hS
  suffices hgo : W p l e r5_dearness s m args below meth c H locs 0 0 Q (F0 m 0 ls []) by rw [← hH, ← hlocs]; exact hgo
  clear hH hlocs
  refine x_bi hC dX5_dearness_0 (by decide) ?_
  refine x_al hC hl 0 dX5_dearness_2 rfl rfl ?_
  refine x_il hC hl 1 dX5_dearness_3 rfl rfl ?_
  refine x_ic hC dX5_dearness_4 ?_
  refine x_vI (As := [.int (iI room), .int (iI 1)]) hC (k5_room0 l D cs h mF mS mA mV mT mB room 1 (by first | assumption | omega) (by first | assumption | omega) (by first | assumption | omega)) lk5_38 (q0 := 0) (ci := 5) rfl rfl rfl (sub_all hP hD hS hA) hP hS rfl hl.1 rfl (Nat.le_of_ble_eq_true rfl) ⟨rfl, rfl⟩ ⟨Nat.le_of_ble_eq_true rfl, Nat.le_of_ble_eq_true rfl⟩ ⟨Nat.le_of_ble_eq_true rfl, Nat.le_of_ble_eq_true rfl⟩ dX5_dearness_5 (fun H locs hP hD hS hHs => ?_)
  have q_5 := imB (S := mS) (by assumption) (5 + 3 * room + 1) (by omega)
  refine x_imul hC dX5_dearness_8 ?_
  refine x_al hC hl 0 dX5_dearness_9 rfl rfl ?_
  refine x_il hC hl 1 dX5_dearness_10 rfl rfl ?_
  refine x_ic hC dX5_dearness_11 ?_
  refine x_vI (As := [.int (iI room), .int (iI 0)]) hC (k5_room0 l D cs h mF mS mA mV mT mB room 0 (by first | assumption | omega) (by first | assumption | omega) (by first | assumption | omega)) lk5_38 (q0 := 0) (ci := 5) rfl rfl rfl (sub_all hP hD hS hA) hP hS rfl hl.1 rfl (Nat.le_of_ble_eq_true rfl) ⟨rfl, rfl⟩ ⟨Nat.le_of_ble_eq_true rfl, Nat.le_of_ble_eq_true rfl⟩ ⟨Nat.le_of_ble_eq_true rfl, Nat.le_of_ble_eq_true rfl⟩ dX5_dearness_12 (fun H locs hP hD hS hHs => ?_)
  have q_12 := imB (S := mS) (by assumption) (5 + 3 * room + 0) (by omega)
  refine x_iadd hC dX5_dearness_15 ?_
  exact x_retI (congrArg iI (by rfl : (10 * (mS (5 + 3 * room + 1))) + (mS (5 + 3 * room + 0)) = mDear mS room)) hend hP hD hS dX5_dearness_16
abbrev r5_gets : Room := { frames := 3, cells := 0, slots := 0, locals := 70 }
set_option maxHeartbeats 4000000 in
set_option maxRecDepth 100000 in
theorem k5_gets (l : Launch) (D : va_G) (cs : Nat → ClassId) (h : Nat → Nat) (mF : Int → Int) (mS : Int → Int) (mA : Int → Int) (mV : Int → Int) (mT : Int → Int) (mB : Int → Int) (first : Int) (en : Int) (size : Int) (rule : Int) (hI : IM mS) (h1 : -1 ≤ first ∧ first ≤ 99) (h2 : -1 ≤ en ∧ en ≤ 99) (h3 : -1 ≤ size ∧ size ≤ 99) (h4 : 0 ≤ rule ∧ rule ≤ 3) : CI l D cs yX5_gets cX5_gets 9 .int r5_gets 0 0 [.ref (h 0), .int (iI first), .int (iI en), .int (iI size), .int (iI rule)] (wM h cs mF mS mA mV mT mB) (wM h cs mF mS mA mV mT mB) (iI (mGets mS first en size rule)) := by
  refine CI_start (own := RX5) (by decide) rfl rfl (Nat.le_of_ble_eq_true rfl) ?_
  intro p e s m args below meth c Q A ls hC hl hP hD hA hS hend
  have hl : lv_has ls 9 [(0, .ref (h 0)), (1, .int (iI first)), (2, .int (iI en)), (3, .int (iI size)), (4, .int (iI rule))] := hl
  obtain ⟨H, hH⟩ : ∃ H : Heap, H = s.heap := ⟨_, rfl⟩
  have hS : va_S A s.heap H [] := by rw [hH]; exact hS
  rw [← hH] at hP
  obtain ⟨locs, hlocs⟩ : ∃ locs : List Loc, locs = [] := ⟨_, rfl⟩
  rw [← hlocs] at hS
  suffices hgo : W p l e r5_gets s m args below meth c H locs 0 0 Q (F0 m 0 ls []) by rw [← hH, ← hlocs]; exact hgo
  clear hH hlocs
  obtain ⟨z0, z1, -⟩ := id hI
  refine x_ic hC dX5_gets_0 ?_
  refine x_isw hC [(5, .int (iI (-1))), (0, .ref (h 0)), (1, .int (iI first)), (2, .int (iI en)), (3, .int (iI size)), (4, .int (iI rule))] hl dX5_gets_1 (by decide) rfl (fun ls hl => ?_)
  refine x_ic hC dX5_gets_3 ?_
  refine x_isw hC [(6, .int (iI (-1))), (5, .int (iI (-1))), (0, .ref (h 0)), (1, .int (iI first)), (2, .int (iI en)), (3, .int (iI size)), (4, .int (iI rule))] hl dX5_gets_4 (by decide) rfl (fun ls hl => ?_)
  refine x_ic hC dX5_gets_6 ?_
  refine x_isw hC [(7, .int (iI 0)), (6, .int (iI (-1))), (5, .int (iI (-1))), (0, .ref (h 0)), (1, .int (iI first)), (2, .int (iI en)), (3, .int (iI size)), (4, .int (iI rule))] hl dX5_gets_7 (by decide) rfl (fun ls hl => ?_)
  have loop_9 : ∀ (n : Nat) (i : Int), (hi0 : 0 ≤ i) → (hiN : i ≤ 8) → (8 - i) < (n : Int) → ∀ (H : Heap) (locs : List Loc) (ls : Array Slot), va_P D vwCl (wM h cs mF mS mA mV mT mB) H → va_D A (wM h cs mF mS mA mV mT mB) → va_S A s.heap H locs → lv_has ls 9 [(7, .int (iI i)), (6, .int (iI ((mGetX mS first en size rule i).2))), (5, .int (iI ((mGetX mS first en size rule i).1))), (0, .ref (h 0)), (1, .int (iI first)), (2, .int (iI en)), (3, .int (iI size)), (4, .int (iI rule))] → W p l e r5_gets s m args below meth c H locs 0 0 Q (F0 m 9 ls []) := by
    intro n
    induction n with
    | zero =>
      intro i hi0 hiN hnn
      exfalso; omega
    | succ n ih_9 =>
      intro i hi0 hiN hnn H locs ls hP hD hS hl
      have hx := mGetX_rg mS first en size rule hi0
      refine x_ilw hC hl 0 dX5_gets_9 rfl ?_
      refine x_bi hC dX5_gets_11 (by decide) ?_
      refine x_ic_ge hC 122 dX5_gets_13 (by decide) (by omega) (by omega) (fun c_13 => ?_) (fun c_13 => ?_)
      · obtain rfl : i = 8 := by omega
        have hx8 := mGetX_rg mS first en size rule (n := 8) (by omega)
        refine x_ilw hC hl 2 dX5_gets_122 rfl ?_
        refine x_ic hC dX5_gets_124 ?_
        refine x_ic_eq hC 133 dX5_gets_125 (by decide) (by omega) (by omega) (fun c_125 => ?_) (fun c_125 => ?_)
        · refine x_ilw hC hl 1 dX5_gets_133 rfl ?_
          exact x_retI (congrArg iI (by unfold mGets; first | exact (iif_t (by assumption)).symm | exact (iif_f (by assumption)).symm : (mGetX mS first en size rule 8).2 = mGets mS first en size rule)) hend hP hD hS dX5_gets_135
        · refine x_ilw hC hl 2 dX5_gets_128 rfl ?_
          refine x_goto hC 135 dX5_gets_130 (by decide) ?_
          exact x_retI (congrArg iI (by unfold mGets; first | exact (iif_t (by assumption)).symm | exact (iif_f (by assumption)).symm : (mGetX mS first en size rule 8).1 = mGets mS first en size rule)) hend hP hD hS dX5_gets_135
      · refine x_al hC hl 3 dX5_gets_16 rfl rfl ?_
        refine x_ilw hC hl 0 dX5_gets_17 rfl ?_
        refine x_il hC hl 4 dX5_gets_19 rfl rfl ?_
        refine x_il hC hl 5 dX5_gets_20 rfl rfl ?_
        refine x_il hC hl 6 dX5_gets_21 rfl rfl ?_
        refine x_ic hC dX5_gets_22 ?_
        refine x_vI (As := [.int (iI i), .int (iI first), .int (iI en), .int (iI size), .int (iI (-1))]) hC (k5_canBe l D cs h mF mS mA mV mT mB i first en size (-1) (by first | assumption | omega) (by first | assumption | omega) (by first | assumption | omega) (by first | assumption | omega) (by first | assumption | omega) (by first | assumption | omega)) lk5_52 (q0 := 0) (ci := 5) rfl rfl rfl (sub_all hP hD hS hA) hP hS rfl hl.1 rfl (Nat.le_of_ble_eq_true rfl) ⟨rfl, rfl⟩ ⟨Nat.le_of_ble_eq_true rfl, Nat.le_of_ble_eq_true rfl⟩ ⟨Nat.le_of_ble_eq_true rfl, Nat.le_of_ble_eq_true rfl⟩ dX5_gets_23 (fun H locs hP hD hS hHs => ?_)
        refine x_isw hC [(8, .int (iI (b2p (mCan mS i first en size (-1))))), (7, .int (iI i)), (6, .int (iI ((mGetX mS first en size rule i).2))), (5, .int (iI ((mGetX mS first en size rule i).1))), (0, .ref (h 0)), (1, .int (iI first)), (2, .int (iI en)), (3, .int (iI size)), (4, .int (iI rule))] hl dX5_gets_26 (by decide) rfl (fun ls hl => ?_)
        refine x_ilw hC hl 0 dX5_gets_28 rfl ?_
        refine x_if_eq_b hC 81 dX5_gets_30 (by decide) (fun c_30 => ?_) (fun c_30 => ?_)
        · refine x_ilw hC hl 0 dX5_gets_81 rfl ?_
          refine x_if_eq_b hC 116 dX5_gets_83 (by decide) (fun c_83 => ?_) (fun hz => absurd hz c_30)
          refine x_iinc hC [(7, .int (iI (i + 1))), (8, .int (iI (b2p (mCan mS i first en size (-1))))), (6, .int (iI ((mGetX mS first en size rule i).2))), (5, .int (iI ((mGetX mS first en size rule i).1))), (0, .ref (h 0)), (1, .int (iI first)), (2, .int (iI en)), (3, .int (iI size)), (4, .int (iI rule))] 1 hl dX5_gets_116 rfl (by decide) rfl (fun ls hl => ?_)
          refine x_goto hC 9 dX5_gets_119 (by decide) ?_
          have hl : lv_has ls 9 [(7, .int (iI (i + 1))), (6, .int (iI ((mGetX mS first en size rule (i + 1)).2))), (5, .int (iI ((mGetX mS first en size rule (i + 1)).1))), (0, .ref (h 0)), (1, .int (iI first)), (2, .int (iI en)), (3, .int (iI size)), (4, .int (iI rule))] := lvE (lv_sub (l' := [(7, .int (iI (i + 1))), (6, .int (iI ((mGetX mS first en size rule i).2))), (5, .int (iI ((mGetX mS first en size rule i).1))), (0, .ref (h 0)), (1, .int (iI first)), (2, .int (iI en)), (3, .int (iI size)), (4, .int (iI rule))]) hl [0, 2, 3, 4, 5, 6, 7, 8] rfl) (lcE rfl (lcE (congrArg (fun z => Value.int (iI z)) (by rw [mGetX_s _ _ _ _ _ hi0]; unfold mGetS iif; grind : (mGetX mS first en size rule i).2 = (mGetX mS first en size rule (i + 1)).2)) (lcE (congrArg (fun z => Value.int (iI z)) (by rw [mGetX_s _ _ _ _ _ hi0]; unfold mGetS iif; grind : (mGetX mS first en size rule i).1 = (mGetX mS first en size rule (i + 1)).1)) (lcE rfl (lcE rfl (lcE rfl (lcE rfl (lcE rfl (rfl)))))))))
          exact ih_9 (i + 1) (by omega) (by omega) (by omega) H locs ls hP hD hS hl
        · refine x_al hC hl 4 dX5_gets_33 rfl rfl ?_
          refine x_ilw hC hl 1 dX5_gets_34 rfl ?_
          refine x_vI (As := [.int (iI i)]) hC (k5_isOpen l D cs h mF mS mA mV mT mB i (by first | assumption | omega) (by first | assumption | omega)) lk5_56 (q0 := 0) (ci := 5) rfl rfl rfl (sub_all hP hD hS hA) hP hS rfl hl.1 rfl (Nat.le_of_ble_eq_true rfl) ⟨rfl, rfl⟩ ⟨Nat.le_of_ble_eq_true rfl, Nat.le_of_ble_eq_true rfl⟩ ⟨Nat.le_of_ble_eq_true rfl, Nat.le_of_ble_eq_true rfl⟩ dX5_gets_36 (fun H locs hP hD hS hHs => ?_)
          refine x_if_eq_b hC 81 dX5_gets_39 (by decide) (fun c_39 => ?_) (fun c_39 => ?_)
          · refine x_ilw hC hl 0 dX5_gets_81 rfl ?_
            refine x_if_eq_b hC 116 dX5_gets_83 (by decide) (fun hz => absurd c_30 hz) (fun c_83 => ?_)
            refine x_ilw hC hl 2 dX5_gets_86 rfl ?_
            refine x_ic hC dX5_gets_88 ?_
            refine x_ic_eq hC 107 dX5_gets_89 (by decide) (by omega) (by omega) (fun c_89 => ?_) (fun c_89 => ?_)
            · refine x_ilw hC hl 1 dX5_gets_107 rfl ?_
              refine x_goto hC 114 dX5_gets_109 (by decide) ?_
              refine x_isw hC [(6, .int (iI i)), (8, .int (iI (b2p (mCan mS i first en size (-1))))), (7, .int (iI i)), (5, .int (iI ((mGetX mS first en size rule i).1))), (0, .ref (h 0)), (1, .int (iI first)), (2, .int (iI en)), (3, .int (iI size)), (4, .int (iI rule))] hl dX5_gets_114 (by decide) rfl (fun ls hl => ?_)
              refine x_iinc hC [(7, .int (iI (i + 1))), (6, .int (iI i)), (8, .int (iI (b2p (mCan mS i first en size (-1))))), (5, .int (iI ((mGetX mS first en size rule i).1))), (0, .ref (h 0)), (1, .int (iI first)), (2, .int (iI en)), (3, .int (iI size)), (4, .int (iI rule))] 2 hl dX5_gets_116 rfl (by decide) rfl (fun ls hl => ?_)
              refine x_goto hC 9 dX5_gets_119 (by decide) ?_
              have hl : lv_has ls 9 [(7, .int (iI (i + 1))), (6, .int (iI ((mGetX mS first en size rule (i + 1)).2))), (5, .int (iI ((mGetX mS first en size rule (i + 1)).1))), (0, .ref (h 0)), (1, .int (iI first)), (2, .int (iI en)), (3, .int (iI size)), (4, .int (iI rule))] := lvE (lv_sub (l' := [(7, .int (iI (i + 1))), (6, .int (iI i)), (5, .int (iI ((mGetX mS first en size rule i).1))), (0, .ref (h 0)), (1, .int (iI first)), (2, .int (iI en)), (3, .int (iI size)), (4, .int (iI rule))]) hl [0, 1, 3, 4, 5, 6, 7, 8] rfl) (lcE rfl (lcE (congrArg (fun z => Value.int (iI z)) (by rw [mGetX_s _ _ _ _ _ hi0]; unfold mGetS iif; grind : i = (mGetX mS first en size rule (i + 1)).2)) (lcE (congrArg (fun z => Value.int (iI z)) (by rw [mGetX_s _ _ _ _ _ hi0]; unfold mGetS iif; grind : (mGetX mS first en size rule i).1 = (mGetX mS first en size rule (i + 1)).1)) (lcE rfl (lcE rfl (lcE rfl (lcE rfl (lcE rfl (rfl)))))))))
              exact ih_9 (i + 1) (by omega) (by omega) (by omega) H locs ls hP hD hS hl
            · refine x_al hC hl 4 dX5_gets_92 rfl rfl ?_
              refine x_ilw hC hl 1 dX5_gets_93 rfl ?_
              refine x_vI (As := [.int (iI i)]) hC (k5_dearness l D cs h mF mS mA mV mT mB i (by first | assumption | omega) (by first | assumption | omega)) lk5_64 (q0 := 0) (ci := 5) rfl rfl rfl (sub_all hP hD hS hA) hP hS rfl hl.1 rfl (Nat.le_of_ble_eq_true rfl) ⟨rfl, rfl⟩ ⟨Nat.le_of_ble_eq_true rfl, Nat.le_of_ble_eq_true rfl⟩ ⟨Nat.le_of_ble_eq_true rfl, Nat.le_of_ble_eq_true rfl⟩ dX5_gets_95 (fun H locs hP hD hS hHs => ?_)
              have q_95 := mDear_rg (S := mS) (by assumption) i (by omega)
              refine x_al hC hl 4 dX5_gets_98 rfl rfl ?_
              refine x_ilw hC hl 2 dX5_gets_99 rfl ?_
              refine x_vI (As := [.int (iI ((mGetX mS first en size rule i).2))]) hC (k5_dearness l D cs h mF mS mA mV mT mB ((mGetX mS first en size rule i).2) (by first | assumption | omega) (by first | assumption | omega)) lk5_64 (q0 := 0) (ci := 5) rfl rfl rfl (sub_all hP hD hS hA) hP hS rfl hl.1 rfl (Nat.le_of_ble_eq_true rfl) ⟨rfl, rfl⟩ ⟨Nat.le_of_ble_eq_true rfl, Nat.le_of_ble_eq_true rfl⟩ ⟨Nat.le_of_ble_eq_true rfl, Nat.le_of_ble_eq_true rfl⟩ dX5_gets_101 (fun H locs hP hD hS hHs => ?_)
              have q_101 := mDear_rg (S := mS) (by assumption) ((mGetX mS first en size rule i).2) (by omega)
              refine x_ic_ge hC 112 dX5_gets_104 (by decide) (by omega) (by omega) (fun c_104 => ?_) (fun c_104 => ?_)
              · refine x_ilw hC hl 2 dX5_gets_112 rfl ?_
                refine x_isw hC [(6, .int (iI ((mGetX mS first en size rule i).2))), (8, .int (iI (b2p (mCan mS i first en size (-1))))), (7, .int (iI i)), (5, .int (iI ((mGetX mS first en size rule i).1))), (0, .ref (h 0)), (1, .int (iI first)), (2, .int (iI en)), (3, .int (iI size)), (4, .int (iI rule))] hl dX5_gets_114 (by decide) rfl (fun ls hl => ?_)
                refine x_iinc hC [(7, .int (iI (i + 1))), (6, .int (iI ((mGetX mS first en size rule i).2))), (8, .int (iI (b2p (mCan mS i first en size (-1))))), (5, .int (iI ((mGetX mS first en size rule i).1))), (0, .ref (h 0)), (1, .int (iI first)), (2, .int (iI en)), (3, .int (iI size)), (4, .int (iI rule))] 2 hl dX5_gets_116 rfl (by decide) rfl (fun ls hl => ?_)
                refine x_goto hC 9 dX5_gets_119 (by decide) ?_
                have hl : lv_has ls 9 [(7, .int (iI (i + 1))), (6, .int (iI ((mGetX mS first en size rule (i + 1)).2))), (5, .int (iI ((mGetX mS first en size rule (i + 1)).1))), (0, .ref (h 0)), (1, .int (iI first)), (2, .int (iI en)), (3, .int (iI size)), (4, .int (iI rule))] := lvE (lv_sub (l' := [(7, .int (iI (i + 1))), (6, .int (iI ((mGetX mS first en size rule i).2))), (5, .int (iI ((mGetX mS first en size rule i).1))), (0, .ref (h 0)), (1, .int (iI first)), (2, .int (iI en)), (3, .int (iI size)), (4, .int (iI rule))]) hl [0, 1, 3, 4, 5, 6, 7, 8] rfl) (lcE rfl (lcE (congrArg (fun z => Value.int (iI z)) (by rw [mGetX_s _ _ _ _ _ hi0]; unfold mGetS iif; grind : (mGetX mS first en size rule i).2 = (mGetX mS first en size rule (i + 1)).2)) (lcE (congrArg (fun z => Value.int (iI z)) (by rw [mGetX_s _ _ _ _ _ hi0]; unfold mGetS iif; grind : (mGetX mS first en size rule i).1 = (mGetX mS first en size rule (i + 1)).1)) (lcE rfl (lcE rfl (lcE rfl (lcE rfl (lcE rfl (rfl)))))))))
                exact ih_9 (i + 1) (by omega) (by omega) (by omega) H locs ls hP hD hS hl
              · refine x_ilw hC hl 1 dX5_gets_107 rfl ?_
                refine x_goto hC 114 dX5_gets_109 (by decide) ?_
                refine x_isw hC [(6, .int (iI i)), (8, .int (iI (b2p (mCan mS i first en size (-1))))), (7, .int (iI i)), (5, .int (iI ((mGetX mS first en size rule i).1))), (0, .ref (h 0)), (1, .int (iI first)), (2, .int (iI en)), (3, .int (iI size)), (4, .int (iI rule))] hl dX5_gets_114 (by decide) rfl (fun ls hl => ?_)
                refine x_iinc hC [(7, .int (iI (i + 1))), (6, .int (iI i)), (8, .int (iI (b2p (mCan mS i first en size (-1))))), (5, .int (iI ((mGetX mS first en size rule i).1))), (0, .ref (h 0)), (1, .int (iI first)), (2, .int (iI en)), (3, .int (iI size)), (4, .int (iI rule))] 2 hl dX5_gets_116 rfl (by decide) rfl (fun ls hl => ?_)
                refine x_goto hC 9 dX5_gets_119 (by decide) ?_
                have hl : lv_has ls 9 [(7, .int (iI (i + 1))), (6, .int (iI ((mGetX mS first en size rule (i + 1)).2))), (5, .int (iI ((mGetX mS first en size rule (i + 1)).1))), (0, .ref (h 0)), (1, .int (iI first)), (2, .int (iI en)), (3, .int (iI size)), (4, .int (iI rule))] := lvE (lv_sub (l' := [(7, .int (iI (i + 1))), (6, .int (iI i)), (5, .int (iI ((mGetX mS first en size rule i).1))), (0, .ref (h 0)), (1, .int (iI first)), (2, .int (iI en)), (3, .int (iI size)), (4, .int (iI rule))]) hl [0, 1, 3, 4, 5, 6, 7, 8] rfl) (lcE rfl (lcE (congrArg (fun z => Value.int (iI z)) (by rw [mGetX_s _ _ _ _ _ hi0]; unfold mGetS iif; grind : i = (mGetX mS first en size rule (i + 1)).2)) (lcE (congrArg (fun z => Value.int (iI z)) (by rw [mGetX_s _ _ _ _ _ hi0]; unfold mGetS iif; grind : (mGetX mS first en size rule i).1 = (mGetX mS first en size rule (i + 1)).1)) (lcE rfl (lcE rfl (lcE rfl (lcE rfl (lcE rfl (rfl)))))))))
                exact ih_9 (i + 1) (by omega) (by omega) (by omega) H locs ls hP hD hS hl
          · refine x_ilw hC hl 3 dX5_gets_42 rfl ?_
            refine x_ic hC dX5_gets_44 ?_
            refine x_ic_eq hC 69 dX5_gets_45 (by decide) (by omega) (by omega) (fun c_45 => ?_) (fun c_45 => ?_)
            · refine x_ilw hC hl 1 dX5_gets_69 rfl ?_
              refine x_goto hC 76 dX5_gets_71 (by decide) ?_
              refine x_isw hC [(5, .int (iI i)), (8, .int (iI (b2p (mCan mS i first en size (-1))))), (7, .int (iI i)), (6, .int (iI ((mGetX mS first en size rule i).2))), (0, .ref (h 0)), (1, .int (iI first)), (2, .int (iI en)), (3, .int (iI size)), (4, .int (iI rule))] hl dX5_gets_76 (by decide) rfl (fun ls hl => ?_)
              refine x_goto hC 116 dX5_gets_78 (by decide) ?_
              refine x_iinc hC [(7, .int (iI (i + 1))), (5, .int (iI i)), (8, .int (iI (b2p (mCan mS i first en size (-1))))), (6, .int (iI ((mGetX mS first en size rule i).2))), (0, .ref (h 0)), (1, .int (iI first)), (2, .int (iI en)), (3, .int (iI size)), (4, .int (iI rule))] 2 hl dX5_gets_116 rfl (by decide) rfl (fun ls hl => ?_)
              refine x_goto hC 9 dX5_gets_119 (by decide) ?_
              have hl : lv_has ls 9 [(7, .int (iI (i + 1))), (6, .int (iI ((mGetX mS first en size rule (i + 1)).2))), (5, .int (iI ((mGetX mS first en size rule (i + 1)).1))), (0, .ref (h 0)), (1, .int (iI first)), (2, .int (iI en)), (3, .int (iI size)), (4, .int (iI rule))] := lvE (lv_sub (l' := [(7, .int (iI (i + 1))), (6, .int (iI ((mGetX mS first en size rule i).2))), (5, .int (iI i)), (0, .ref (h 0)), (1, .int (iI first)), (2, .int (iI en)), (3, .int (iI size)), (4, .int (iI rule))]) hl [0, 3, 1, 4, 5, 6, 7, 8] rfl) (lcE rfl (lcE (congrArg (fun z => Value.int (iI z)) (by rw [mGetX_s _ _ _ _ _ hi0]; unfold mGetS iif; grind : (mGetX mS first en size rule i).2 = (mGetX mS first en size rule (i + 1)).2)) (lcE (congrArg (fun z => Value.int (iI z)) (by rw [mGetX_s _ _ _ _ _ hi0]; unfold mGetS iif; grind : i = (mGetX mS first en size rule (i + 1)).1)) (lcE rfl (lcE rfl (lcE rfl (lcE rfl (lcE rfl (rfl)))))))))
              exact ih_9 (i + 1) (by omega) (by omega) (by omega) H locs ls hP hD hS hl
            · refine x_al hC hl 4 dX5_gets_48 rfl rfl ?_
              refine x_ilw hC hl 1 dX5_gets_49 rfl ?_
              refine x_il hC hl 5 dX5_gets_51 rfl rfl ?_
              refine x_ilw hC hl 8 dX5_gets_52 rfl ?_
              refine x_vI (As := [.int (iI i), .int (iI first), .int (iI rule)]) hC (k5_worth l D cs h mF mS mA mV mT mB i first rule (by first | assumption | omega) (by first | assumption | omega) (by first | assumption | omega) (by first | assumption | omega)) lk5_60 (q0 := 0) (ci := 5) rfl rfl rfl (sub_all hP hD hS hA) hP hS rfl hl.1 rfl (Nat.le_of_ble_eq_true rfl) ⟨rfl, rfl⟩ ⟨Nat.le_of_ble_eq_true rfl, Nat.le_of_ble_eq_true rfl⟩ ⟨Nat.le_of_ble_eq_true rfl, Nat.le_of_ble_eq_true rfl⟩ dX5_gets_54 (fun H locs hP hD hS hHs => ?_)
              have q_54 := mWorth_rg (S := mS) (by assumption) i first rule (by omega) (by omega)
              refine x_al hC hl 4 dX5_gets_57 rfl rfl ?_
              refine x_ilw hC hl 3 dX5_gets_58 rfl ?_
              refine x_il hC hl 5 dX5_gets_60 rfl rfl ?_
              refine x_ilw hC hl 8 dX5_gets_61 rfl ?_
              refine x_vI (As := [.int (iI ((mGetX mS first en size rule i).1)), .int (iI first), .int (iI rule)]) hC (k5_worth l D cs h mF mS mA mV mT mB ((mGetX mS first en size rule i).1) first rule (by first | assumption | omega) (by first | assumption | omega) (by first | assumption | omega) (by first | assumption | omega)) lk5_60 (q0 := 0) (ci := 5) rfl rfl rfl (sub_all hP hD hS hA) hP hS rfl hl.1 rfl (Nat.le_of_ble_eq_true rfl) ⟨rfl, rfl⟩ ⟨Nat.le_of_ble_eq_true rfl, Nat.le_of_ble_eq_true rfl⟩ ⟨Nat.le_of_ble_eq_true rfl, Nat.le_of_ble_eq_true rfl⟩ dX5_gets_63 (fun H locs hP hD hS hHs => ?_)
              have q_63 := mWorth_rg (S := mS) (by assumption) ((mGetX mS first en size rule i).1) first rule (by omega) (by omega)
              refine x_ic_ge hC 74 dX5_gets_66 (by decide) (by omega) (by omega) (fun c_66 => ?_) (fun c_66 => ?_)
              · refine x_ilw hC hl 3 dX5_gets_74 rfl ?_
                refine x_isw hC [(5, .int (iI ((mGetX mS first en size rule i).1))), (8, .int (iI (b2p (mCan mS i first en size (-1))))), (7, .int (iI i)), (6, .int (iI ((mGetX mS first en size rule i).2))), (0, .ref (h 0)), (1, .int (iI first)), (2, .int (iI en)), (3, .int (iI size)), (4, .int (iI rule))] hl dX5_gets_76 (by decide) rfl (fun ls hl => ?_)
                refine x_goto hC 116 dX5_gets_78 (by decide) ?_
                refine x_iinc hC [(7, .int (iI (i + 1))), (5, .int (iI ((mGetX mS first en size rule i).1))), (8, .int (iI (b2p (mCan mS i first en size (-1))))), (6, .int (iI ((mGetX mS first en size rule i).2))), (0, .ref (h 0)), (1, .int (iI first)), (2, .int (iI en)), (3, .int (iI size)), (4, .int (iI rule))] 2 hl dX5_gets_116 rfl (by decide) rfl (fun ls hl => ?_)
                refine x_goto hC 9 dX5_gets_119 (by decide) ?_
                have hl : lv_has ls 9 [(7, .int (iI (i + 1))), (6, .int (iI ((mGetX mS first en size rule (i + 1)).2))), (5, .int (iI ((mGetX mS first en size rule (i + 1)).1))), (0, .ref (h 0)), (1, .int (iI first)), (2, .int (iI en)), (3, .int (iI size)), (4, .int (iI rule))] := lvE (lv_sub (l' := [(7, .int (iI (i + 1))), (6, .int (iI ((mGetX mS first en size rule i).2))), (5, .int (iI ((mGetX mS first en size rule i).1))), (0, .ref (h 0)), (1, .int (iI first)), (2, .int (iI en)), (3, .int (iI size)), (4, .int (iI rule))]) hl [0, 3, 1, 4, 5, 6, 7, 8] rfl) (lcE rfl (lcE (congrArg (fun z => Value.int (iI z)) (by rw [mGetX_s _ _ _ _ _ hi0]; unfold mGetS iif; grind : (mGetX mS first en size rule i).2 = (mGetX mS first en size rule (i + 1)).2)) (lcE (congrArg (fun z => Value.int (iI z)) (by rw [mGetX_s _ _ _ _ _ hi0]; unfold mGetS iif; grind : (mGetX mS first en size rule i).1 = (mGetX mS first en size rule (i + 1)).1)) (lcE rfl (lcE rfl (lcE rfl (lcE rfl (lcE rfl (rfl)))))))))
                exact ih_9 (i + 1) (by omega) (by omega) (by omega) H locs ls hP hD hS hl
              · refine x_ilw hC hl 1 dX5_gets_69 rfl ?_
                refine x_goto hC 76 dX5_gets_71 (by decide) ?_
                refine x_isw hC [(5, .int (iI i)), (8, .int (iI (b2p (mCan mS i first en size (-1))))), (7, .int (iI i)), (6, .int (iI ((mGetX mS first en size rule i).2))), (0, .ref (h 0)), (1, .int (iI first)), (2, .int (iI en)), (3, .int (iI size)), (4, .int (iI rule))] hl dX5_gets_76 (by decide) rfl (fun ls hl => ?_)
                refine x_goto hC 116 dX5_gets_78 (by decide) ?_
                refine x_iinc hC [(7, .int (iI (i + 1))), (5, .int (iI i)), (8, .int (iI (b2p (mCan mS i first en size (-1))))), (6, .int (iI ((mGetX mS first en size rule i).2))), (0, .ref (h 0)), (1, .int (iI first)), (2, .int (iI en)), (3, .int (iI size)), (4, .int (iI rule))] 2 hl dX5_gets_116 rfl (by decide) rfl (fun ls hl => ?_)
                refine x_goto hC 9 dX5_gets_119 (by decide) ?_
                have hl : lv_has ls 9 [(7, .int (iI (i + 1))), (6, .int (iI ((mGetX mS first en size rule (i + 1)).2))), (5, .int (iI ((mGetX mS first en size rule (i + 1)).1))), (0, .ref (h 0)), (1, .int (iI first)), (2, .int (iI en)), (3, .int (iI size)), (4, .int (iI rule))] := lvE (lv_sub (l' := [(7, .int (iI (i + 1))), (6, .int (iI ((mGetX mS first en size rule i).2))), (5, .int (iI i)), (0, .ref (h 0)), (1, .int (iI first)), (2, .int (iI en)), (3, .int (iI size)), (4, .int (iI rule))]) hl [0, 3, 1, 4, 5, 6, 7, 8] rfl) (lcE rfl (lcE (congrArg (fun z => Value.int (iI z)) (by rw [mGetX_s _ _ _ _ _ hi0]; unfold mGetS iif; grind : (mGetX mS first en size rule i).2 = (mGetX mS first en size rule (i + 1)).2)) (lcE (congrArg (fun z => Value.int (iI z)) (by rw [mGetX_s _ _ _ _ _ hi0]; unfold mGetS iif; grind : i = (mGetX mS first en size rule (i + 1)).1)) (lcE rfl (lcE rfl (lcE rfl (lcE rfl (lcE rfl (rfl)))))))))
                exact ih_9 (i + 1) (by omega) (by omega) (by omega) H locs ls hP hD hS hl
  have hl := lv_sub (l' := [(7, .int (iI 0)), (6, .int (iI ((mGetX mS first en size rule 0).2))), (5, .int (iI ((mGetX mS first en size rule 0).1))), (0, .ref (h 0)), (1, .int (iI first)), (2, .int (iI en)), (3, .int (iI size)), (4, .int (iI rule))]) hl [0, 1, 2, 3, 4, 5, 6, 7] rfl
  exact loop_9 (Int.toNat (8 - 0) + 1) 0 (by omega) (by omega) (by omega) H locs ls hP hD hS hl
abbrev r5_openMany : Room := { frames := 1, cells := 0, slots := 0, locals := 22 }
set_option maxHeartbeats 4000000 in
set_option maxRecDepth 100000 in
theorem k5_openMany (l : Launch) (D : va_G) (cs : Nat → ClassId) (h : Nat → Nat) (mF : Int → Int) (mS : Int → Int) (mA : Int → Int) (mV : Int → Int) (mT : Int → Int) (mB : Int → Int) (hI : IM mS) : CI l D cs yX5_openMany cX5_openMany 3 .int r5_openMany 0 0 [.ref (h 0)] (wM h cs mF mS mA mV mT mB) (wM h cs mF mS mA mV mT mB) (iI (mOpenN mS 8)) := by
  refine CI_start (own := RX5) (by decide) rfl rfl (Nat.le_of_ble_eq_true rfl) ?_
  intro p e s m args below meth c Q A ls hC hl hP hD hA hS hend
  have hl : lv_has ls 3 [(0, .ref (h 0))] := hl
  obtain ⟨H, hH⟩ : ∃ H : Heap, H = s.heap := ⟨_, rfl⟩
  have hS : va_S A s.heap H [] := by rw [hH]; exact hS
  rw [← hH] at hP
  obtain ⟨locs, hlocs⟩ : ∃ locs : List Loc, locs = [] := ⟨_, rfl⟩
  rw [← hlocs] at hS
  suffices hgo : W p l e r5_openMany s m args below meth c H locs 0 0 Q (F0 m 0 ls []) by rw [← hH, ← hlocs]; exact hgo
  clear hH hlocs
  obtain ⟨z0, z1, -⟩ := id hI
  refine x_ic hC dX5_openMany_0 ?_
  refine x_is hC [(1, .int (iI 0)), (0, .ref (h 0))] hl dX5_openMany_1 rfl (by decide) rfl (fun ls hl => ?_)
  refine x_ic hC dX5_openMany_2 ?_
  refine x_is hC [(2, .int (iI 0)), (1, .int (iI 0)), (0, .ref (h 0))] hl dX5_openMany_3 rfl (by decide) rfl (fun ls hl => ?_)
  have loop_4 : ∀ (n : Nat) (i : Int), (hi0 : 0 ≤ i) → (hiN : i ≤ 8) → (8 - i) < (n : Int) → ∀ (H : Heap) (locs : List Loc) (ls : Array Slot), va_P D vwCl (wM h cs mF mS mA mV mT mB) H → va_D A (wM h cs mF mS mA mV mT mB) → va_S A s.heap H locs → lv_has ls 3 [(2, .int (iI i)), (1, .int (iI (mOpenN mS i))), (0, .ref (h 0))] → W p l e r5_openMany s m args below meth c H locs 0 0 Q (F0 m 4 ls []) := by
    intro n
    induction n with
    | zero =>
      intro i hi0 hiN hnn
      exfalso; omega
    | succ n ih_4 =>
      intro i hi0 hiN hnn H locs ls hP hD hS hl
      refine x_il hC hl 0 dX5_openMany_4 rfl rfl ?_
      refine x_bi hC dX5_openMany_5 (by decide) ?_
      refine x_ic_ge hC 25 dX5_openMany_7 (by decide) (by omega) (by omega) (fun c_7 => ?_) (fun c_7 => ?_)
      · obtain rfl : i = 8 := by omega
        refine x_il hC hl 1 dX5_openMany_25 rfl rfl ?_
        exact x_retI (rfl) hend hP hD hS dX5_openMany_26
      · refine x_il hC hl 1 dX5_openMany_10 rfl rfl ?_
        refine x_al hC hl 2 dX5_openMany_11 rfl rfl ?_
        refine x_il hC hl 0 dX5_openMany_12 rfl rfl ?_
        refine x_ic hC dX5_openMany_13 ?_
        refine x_vI (As := [.int (iI i), .int (iI 2)]) hC (k5_room0 l D cs h mF mS mA mV mT mB i 2 (by first | assumption | omega) (by first | assumption | omega) (by first | assumption | omega)) lk5_38 (q0 := 0) (ci := 5) rfl rfl rfl (sub_all hP hD hS hA) hP hS rfl hl.1 rfl (Nat.le_of_ble_eq_true rfl) ⟨rfl, rfl⟩ ⟨Nat.le_of_ble_eq_true rfl, Nat.le_of_ble_eq_true rfl⟩ ⟨Nat.le_of_ble_eq_true rfl, Nat.le_of_ble_eq_true rfl⟩ dX5_openMany_14 (fun H locs hP hD hS hHs => ?_)
        have q_14 := imB (S := mS) (by assumption) (5 + 3 * i + 2) (by omega)
        refine x_iadd hC dX5_openMany_17 ?_
        refine x_is hC [(1, .int (iI ((mOpenN mS i) + (mS (5 + 3 * i + 2))))), (2, .int (iI i)), (0, .ref (h 0))] hl dX5_openMany_18 rfl (by decide) rfl (fun ls hl => ?_)
        refine x_iinc hC [(2, .int (iI (i + 1))), (1, .int (iI ((mOpenN mS i) + (mS (5 + 3 * i + 2))))), (0, .ref (h 0))] 1 hl dX5_openMany_19 rfl (by decide) rfl (fun ls hl => ?_)
        refine x_goto hC 4 dX5_openMany_22 (by decide) ?_
        have hl : lv_has ls 3 [(2, .int (iI (i + 1))), (1, .int (iI (mOpenN mS (i + 1)))), (0, .ref (h 0))] := lvE (lv_sub (l' := [(2, .int (iI (i + 1))), (1, .int (iI ((mOpenN mS i) + (mS (5 + 3 * i + 2))))), (0, .ref (h 0))]) hl [0, 1, 2] rfl) (lcE rfl (lcE (congrArg (fun z => Value.int (iI z)) (by unfold mOpenN; rw [fI_s (by omega)] : (mOpenN mS i) + (mS (5 + 3 * i + 2)) = mOpenN mS (i + 1))) (lcE rfl (rfl))))
        exact ih_4 (i + 1) (by omega) (by omega) (by omega) H locs ls hP hD hS hl
  have hl := lv_sub (l' := [(2, .int (iI 0)), (1, .int (iI (mOpenN mS 0))), (0, .ref (h 0))]) hl [0, 1, 2] rfl
  exact loop_4 (Int.toNat (8 - 0) + 1) 0 (by omega) (by omega) (by omega) H locs ls hP hD hS hl
abbrev r5_canMove : Room := { frames := 2, cells := 0, slots := 0, locals := 49 }
set_option maxHeartbeats 4000000 in
set_option maxRecDepth 100000 in
theorem k5_canMove (l : Launch) (D : va_G) (cs : Nat → ClassId) (h : Nat → Nat) (mF : Int → Int) (mS : Int → Int) (mA : Int → Int) (mV : Int → Int) (mT : Int → Int) (mB : Int → Int) (talk : Int) (room : Int) (hI : IM mS) (h1 : 0 ≤ talk ∧ talk < 20) (h2 : 0 ≤ room ∧ room < 8) : CI l D cs yX5_canMove cX5_canMove 3 .boolean r5_canMove 0 0 [.ref (h 0), .int (iI talk), .int (iI room)] (wM h cs mF mS mA mV mT mB) (wM h cs mF mS mA mV mT mB) (iI (b2p (mMove mS talk room))) := by
  refine CI_start (own := RX5) (by decide) rfl b2p_nar (Nat.le_of_ble_eq_true rfl) ?_
  intro p e s m args below meth c Q A ls hC hl hP hD hA hS hend
  have hl : lv_has ls 3 [(0, .ref (h 0)), (1, .int (iI talk)), (2, .int (iI room))] := hl
  obtain ⟨H, hH⟩ : ∃ H : Heap, H = s.heap := ⟨_, rfl⟩
  have hS : va_S A s.heap H [] := by rw [hH]; exact hS
  rw [← hH] at hP
  obtain ⟨locs, hlocs⟩ : ∃ locs : List Loc, locs = [] := ⟨_, rfl⟩
  rw [← hlocs] at hS
  suffices hgo : W p l e r5_canMove s m args below meth c H locs 0 0 Q (F0 m 0 ls []) by rw [← hH, ← hlocs]; exact hgo
  clear hH hlocs
  obtain ⟨z0, z1, -⟩ := id hI
  refine x_al hC hl 0 dX5_canMove_0 rfl rfl ?_
  refine x_il hC hl 1 dX5_canMove_1 rfl rfl ?_
  refine x_ic hC dX5_canMove_2 ?_
  refine x_vI (As := [.int (iI talk), .int (iI 3)]) hC (k5_of l D cs h mF mS mA mV mT mB talk 3 (by first | assumption | omega) (by first | assumption | omega) (by first | assumption | omega)) lk5_34 (q0 := 0) (ci := 5) rfl rfl rfl (sub_all hP hD hS hA) hP hS rfl hl.1 rfl (Nat.le_of_ble_eq_true rfl) ⟨rfl, rfl⟩ ⟨Nat.le_of_ble_eq_true rfl, Nat.le_of_ble_eq_true rfl⟩ ⟨Nat.le_of_ble_eq_true rfl, Nat.le_of_ble_eq_true rfl⟩ dX5_canMove_3 (fun H locs hP hD hS hHs => ?_)
  have q_3 := imB (S := mS) (by assumption) (29 + 4 * talk + 3) (by omega)
  refine x_il hC hl 2 dX5_canMove_6 rfl rfl ?_
  refine x_ic_eq hC 49 dX5_canMove_7 (by decide) (by omega) (by omega) (fun c_7 => ?_) (fun c_7 => ?_)
  · refine x_ic hC dX5_canMove_49 ?_
    exact x_retI (congrArg iI (b2p_f (by unfold mMove; grind)).symm) hend hP hD hS dX5_canMove_50
  · refine x_al hC hl 0 dX5_canMove_10 rfl rfl ?_
    refine x_il hC hl 2 dX5_canMove_11 rfl rfl ?_
    refine x_vI (As := [.int (iI room)]) hC (k5_isOpen l D cs h mF mS mA mV mT mB room (by first | assumption | omega) (by first | assumption | omega)) lk5_56 (q0 := 0) (ci := 5) rfl rfl rfl (sub_all hP hD hS hA) hP hS rfl hl.1 rfl (Nat.le_of_ble_eq_true rfl) ⟨rfl, rfl⟩ ⟨Nat.le_of_ble_eq_true rfl, Nat.le_of_ble_eq_true rfl⟩ ⟨Nat.le_of_ble_eq_true rfl, Nat.le_of_ble_eq_true rfl⟩ dX5_canMove_12 (fun H locs hP hD hS hHs => ?_)
    refine x_if_eq_b hC 49 dX5_canMove_15 (by decide) (fun c_15 => ?_) (fun c_15 => ?_)
    · refine x_ic hC dX5_canMove_49 ?_
      exact x_retI (congrArg iI (b2p_f (by unfold mMove; grind)).symm) hend hP hD hS dX5_canMove_50
    · refine x_al hC hl 0 dX5_canMove_18 rfl rfl ?_
      refine x_il hC hl 2 dX5_canMove_19 rfl rfl ?_
      refine x_al hC hl 0 dX5_canMove_20 rfl rfl ?_
      refine x_il hC hl 1 dX5_canMove_21 rfl rfl ?_
      refine x_ic hC dX5_canMove_22 ?_
      refine x_vI (As := [.int (iI talk), .int (iI 0)]) hC (k5_of l D cs h mF mS mA mV mT mB talk 0 (by first | assumption | omega) (by first | assumption | omega) (by first | assumption | omega)) lk5_34 (q0 := 0) (ci := 5) rfl rfl rfl (sub_all hP hD hS hA) hP hS rfl hl.1 rfl (Nat.le_of_ble_eq_true rfl) ⟨rfl, rfl⟩ ⟨Nat.le_of_ble_eq_true rfl, Nat.le_of_ble_eq_true rfl⟩ ⟨Nat.le_of_ble_eq_true rfl, Nat.le_of_ble_eq_true rfl⟩ dX5_canMove_23 (fun H locs hP hD hS hHs => ?_)
      have q_23 := imB (S := mS) (by assumption) (29 + 4 * talk + 0) (by omega)
      refine x_al hC hl 0 dX5_canMove_26 rfl rfl ?_
      refine x_il hC hl 1 dX5_canMove_27 rfl rfl ?_
      refine x_ic hC dX5_canMove_28 ?_
      refine x_vI (As := [.int (iI talk), .int (iI 1)]) hC (k5_of l D cs h mF mS mA mV mT mB talk 1 (by first | assumption | omega) (by first | assumption | omega) (by first | assumption | omega)) lk5_34 (q0 := 0) (ci := 5) rfl rfl rfl (sub_all hP hD hS hA) hP hS rfl hl.1 rfl (Nat.le_of_ble_eq_true rfl) ⟨rfl, rfl⟩ ⟨Nat.le_of_ble_eq_true rfl, Nat.le_of_ble_eq_true rfl⟩ ⟨Nat.le_of_ble_eq_true rfl, Nat.le_of_ble_eq_true rfl⟩ dX5_canMove_29 (fun H locs hP hD hS hHs => ?_)
      have q_29 := imB (S := mS) (by assumption) (29 + 4 * talk + 1) (by omega)
      refine x_al hC hl 0 dX5_canMove_32 rfl rfl ?_
      refine x_il hC hl 1 dX5_canMove_33 rfl rfl ?_
      refine x_ic hC dX5_canMove_34 ?_
      refine x_vI (As := [.int (iI talk), .int (iI 2)]) hC (k5_of l D cs h mF mS mA mV mT mB talk 2 (by first | assumption | omega) (by first | assumption | omega) (by first | assumption | omega)) lk5_34 (q0 := 0) (ci := 5) rfl rfl rfl (sub_all hP hD hS hA) hP hS rfl hl.1 rfl (Nat.le_of_ble_eq_true rfl) ⟨rfl, rfl⟩ ⟨Nat.le_of_ble_eq_true rfl, Nat.le_of_ble_eq_true rfl⟩ ⟨Nat.le_of_ble_eq_true rfl, Nat.le_of_ble_eq_true rfl⟩ dX5_canMove_35 (fun H locs hP hD hS hHs => ?_)
      have q_35 := imB (S := mS) (by assumption) (29 + 4 * talk + 2) (by omega)
      refine x_il hC hl 1 dX5_canMove_38 rfl rfl ?_
      refine x_vI (As := [.int (iI room), .int (iI (mS (29 + 4 * talk + 0))), .int (iI (mS (29 + 4 * talk + 1))), .int (iI (mS (29 + 4 * talk + 2))), .int (iI talk)]) hC (k5_canBe l D cs h mF mS mA mV mT mB room (mS (29 + 4 * talk + 0)) (mS (29 + 4 * talk + 1)) (mS (29 + 4 * talk + 2)) talk (by first | assumption | omega) (by first | assumption | omega) (by first | assumption | omega) (by first | assumption | omega) (by first | assumption | omega) (by first | assumption | omega)) lk5_52 (q0 := 0) (ci := 5) rfl rfl rfl (sub_all hP hD hS hA) hP hS rfl hl.1 rfl (Nat.le_of_ble_eq_true rfl) ⟨rfl, rfl⟩ ⟨Nat.le_of_ble_eq_true rfl, Nat.le_of_ble_eq_true rfl⟩ ⟨Nat.le_of_ble_eq_true rfl, Nat.le_of_ble_eq_true rfl⟩ dX5_canMove_39 (fun H locs hP hD hS hHs => ?_)
      refine x_if_eq_b hC 49 dX5_canMove_42 (by decide) (fun c_42 => ?_) (fun c_42 => ?_)
      · refine x_ic hC dX5_canMove_49 ?_
        exact x_retI (congrArg iI (b2p_f (by unfold mMove; grind)).symm) hend hP hD hS dX5_canMove_50
      · refine x_ic hC dX5_canMove_45 ?_
        refine x_goto hC 50 dX5_canMove_46 (by decide) ?_
        exact x_retI (congrArg iI (b2p_t (by unfold mMove; grind)).symm) hend hP hD hS dX5_canMove_50
abbrev r5_lowestFor : Room := { frames := 3, cells := 0, slots := 0, locals := 71 }
set_option maxHeartbeats 4000000 in
set_option maxRecDepth 100000 in
theorem k5_lowestFor (l : Launch) (D : va_G) (cs : Nat → ClassId) (h : Nat → Nat) (mF : Int → Int) (mS : Int → Int) (mA : Int → Int) (mV : Int → Int) (mT : Int → Int) (mB : Int → Int) (talk : Int) (hI : IM mS) (h1 : 0 ≤ talk ∧ talk < 20) : CI l D cs yX5_lowestFor cX5_lowestFor 3 .int r5_lowestFor 0 0 [.ref (h 0), .int (iI talk)] (wM h cs mF mS mA mV mT mB) (wM h cs mF mS mA mV mT mB) (iI (mLow mS talk)) := by
  refine CI_start (own := RX5) (by decide) rfl rfl (Nat.le_of_ble_eq_true rfl) ?_
  intro p e s m args below meth c Q A ls hC hl hP hD hA hS hend
  have hl : lv_has ls 3 [(0, .ref (h 0)), (1, .int (iI talk))] := hl
  obtain ⟨H, hH⟩ : ∃ H : Heap, H = s.heap := ⟨_, rfl⟩
  have hS : va_S A s.heap H [] := by rw [hH]; exact hS
  rw [← hH] at hP
  obtain ⟨locs, hlocs⟩ : ∃ locs : List Loc, locs = [] := ⟨_, rfl⟩
  rw [← hlocs] at hS
  suffices hgo : W p l e r5_lowestFor s m args below meth c H locs 0 0 Q (F0 m 0 ls []) by rw [← hH, ← hlocs]; exact hgo
  clear hH hlocs
  obtain ⟨z0, z1, -⟩ := id hI
  refine x_ic hC dX5_lowestFor_0 ?_
  refine x_is hC [(2, .int (iI 0)), (0, .ref (h 0)), (1, .int (iI talk))] hl dX5_lowestFor_1 rfl (by decide) rfl (fun ls hl => ?_)
  have loop_2 : ∀ (n : Nat) (i : Int), (hi0 : 0 ≤ i) → (hiN : i ≤ 8) → (hf : fstI (fun r => mMove mS talk r) (-1) (8 - i).toNat i = mLow mS talk) → (8 - i) < (n : Int) → ∀ (H : Heap) (locs : List Loc) (ls : Array Slot), va_P D vwCl (wM h cs mF mS mA mV mT mB) H → va_D A (wM h cs mF mS mA mV mT mB) → va_S A s.heap H locs → lv_has ls 3 [(2, .int (iI i)), (0, .ref (h 0)), (1, .int (iI talk))] → W p l e r5_lowestFor s m args below meth c H locs 0 0 Q (F0 m 2 ls []) := by
    intro n
    induction n with
    | zero =>
      intro i hi0 hiN hf hnn
      exfalso; omega
    | succ n ih_2 =>
      intro i hi0 hiN hf hnn H locs ls hP hD hS hl
      refine x_il hC hl 0 dX5_lowestFor_2 rfl rfl ?_
      refine x_bi hC dX5_lowestFor_3 (by decide) ?_
      refine x_ic_ge hC 25 dX5_lowestFor_5 (by decide) (by omega) (by omega) (fun c_5 => ?_) (fun c_5 => ?_)
      · obtain rfl : i = 8 := by omega
        refine x_ic hC dX5_lowestFor_25 ?_
        exact x_retI (congrArg iI (by exact (fstI_e (by omega)).symm.trans hf : (-1) = mLow mS talk)) hend hP hD hS dX5_lowestFor_26
      · refine x_al hC hl 1 dX5_lowestFor_8 rfl rfl ?_
        refine x_il hC hl 2 dX5_lowestFor_9 rfl rfl ?_
        refine x_il hC hl 0 dX5_lowestFor_10 rfl rfl ?_
        refine x_vI (As := [.int (iI talk), .int (iI i)]) hC (k5_canMove l D cs h mF mS mA mV mT mB talk i (by first | assumption | omega) (by first | assumption | omega) (by first | assumption | omega)) lk5_96 (q0 := 0) (ci := 5) rfl rfl rfl (sub_all hP hD hS hA) hP hS rfl hl.1 rfl (Nat.le_of_ble_eq_true rfl) ⟨rfl, rfl⟩ ⟨Nat.le_of_ble_eq_true rfl, Nat.le_of_ble_eq_true rfl⟩ ⟨Nat.le_of_ble_eq_true rfl, Nat.le_of_ble_eq_true rfl⟩ dX5_lowestFor_11 (fun H locs hP hD hS hHs => ?_)
        refine x_if_eq_b hC 19 dX5_lowestFor_14 (by decide) (fun c_14 => ?_) (fun c_14 => ?_)
        · refine x_iinc hC [(2, .int (iI (i + 1))), (0, .ref (h 0)), (1, .int (iI talk))] 0 hl dX5_lowestFor_19 rfl (by decide) rfl (fun ls hl => ?_)
          refine x_goto hC 2 dX5_lowestFor_22 (by decide) ?_
          have hl := lv_sub (l' := [(2, .int (iI (i + 1))), (0, .ref (h 0)), (1, .int (iI talk))]) hl [0, 1, 2] rfl
          exact ih_2 (i + 1) (by omega) (by omega) ((fstI_f (by omega) (by assumption)).symm.trans hf) (by omega) H locs ls hP hD hS hl
        · refine x_il hC hl 0 dX5_lowestFor_17 rfl rfl ?_
          exact x_retI (congrArg iI (by exact (fstI_t (by omega) (by assumption)).symm.trans hf : i = mLow mS talk)) hend hP hD hS dX5_lowestFor_18
  have hl := lv_sub (l' := [(2, .int (iI 0)), (0, .ref (h 0)), (1, .int (iI talk))]) hl [0, 1, 2] rfl
  exact loop_2 (Int.toNat (8 - 0) + 1) 0 (by omega) (by omega) rfl (by omega) H locs ls hP hD hS hl
abbrev r5_talksIn : Room := { frames := 1, cells := 0, slots := 0, locals := 22 }
set_option maxHeartbeats 4000000 in
set_option maxRecDepth 100000 in
theorem k5_talksIn (l : Launch) (D : va_G) (cs : Nat → ClassId) (h : Nat → Nat) (mF : Int → Int) (mS : Int → Int) (mA : Int → Int) (mV : Int → Int) (mT : Int → Int) (mB : Int → Int) (room : Int) (hI : IM mS) (h1 : 0 ≤ room ∧ room < 8) : CI l D cs yX5_talksIn cX5_talksIn 4 .int r5_talksIn 0 0 [.ref (h 0), .int (iI room)] (wM h cs mF mS mA mV mT mB) (wM h cs mF mS mA mV mT mB) (mskI (fun t => mS (29 + 4 * t + 3) = room) (mS 1)) := by
  refine CI_start (own := RX5) (by decide) rfl rfl (Nat.le_of_ble_eq_true rfl) ?_
  intro p e s m args below meth c Q A ls hC hl hP hD hA hS hend
  have hl : lv_has ls 4 [(0, .ref (h 0)), (1, .int (iI room))] := hl
  obtain ⟨H, hH⟩ : ∃ H : Heap, H = s.heap := ⟨_, rfl⟩
  have hS : va_S A s.heap H [] := by rw [hH]; exact hS
  rw [← hH] at hP
  obtain ⟨locs, hlocs⟩ : ∃ locs : List Loc, locs = [] := ⟨_, rfl⟩
  rw [← hlocs] at hS
  suffices hgo : W p l e r5_talksIn s m args below meth c H locs 0 0 Q (F0 m 0 ls []) by rw [← hH, ← hlocs]; exact hgo
  clear hH hlocs
  obtain ⟨z0, z1, -⟩ := id hI
  refine x_ic hC dX5_talksIn_0 ?_
  refine x_is hC [(2, .int (iI 0)), (0, .ref (h 0)), (1, .int (iI room))] hl dX5_talksIn_1 rfl (by decide) rfl (fun ls hl => ?_)
  refine x_ic hC dX5_talksIn_2 ?_
  refine x_is hC [(3, .int (iI 0)), (2, .int (iI 0)), (0, .ref (h 0)), (1, .int (iI room))] hl dX5_talksIn_3 rfl (by decide) rfl (fun ls hl => ?_)
  have loop_4 : ∀ (n : Nat) (i : Int), (hi0 : 0 ≤ i) → (hiN : i ≤ mS 1) → ((mS 1) - i) < (n : Int) → ∀ (H : Heap) (locs : List Loc) (ls : Array Slot), va_P D vwCl (wM h cs mF mS mA mV mT mB) H → va_D A (wM h cs mF mS mA mV mT mB) → va_S A s.heap H locs → lv_has ls 4 [(3, .int (iI i)), (2, .int (mskI (fun t => mS (29 + 4 * t + 3) = room) i)), (0, .ref (h 0)), (1, .int (iI room))] → W p l e r5_talksIn s m args below meth c H locs 0 0 Q (F0 m 4 ls []) := by
    intro n
    induction n with
    | zero =>
      intro i hi0 hiN hnn
      exfalso; omega
    | succ n ih_4 =>
      intro i hi0 hiN hnn H locs ls hP hD hS hl
      refine x_il hC hl 0 dX5_talksIn_4 rfl rfl ?_
      refine x_al hC hl 2 dX5_talksIn_5 rfl rfl ?_
      refine x_get5 (v := .ref (h 1)) hC hP 0 rfl 1 (by decide) tb_620 rfl rfl dX5_talksIn_6 ?_
      refine x_ic hC dX5_talksIn_9 ?_
      refine x_iald hC hP 1 rfl (by omega) (by decide) dX5_talksIn_10 ?_
      refine x_ic_ge hC 40 dX5_talksIn_11 (by decide) (by omega) (by omega) (fun c_11 => ?_) (fun c_11 => ?_)
      · obtain rfl : i = mS 1 := by omega
        refine x_il hC hl 1 dX5_talksIn_40 rfl rfl ?_
        exact x_retI (rfl) hend hP hD hS dX5_talksIn_41
      · refine x_il hC hl 1 dX5_talksIn_14 rfl rfl ?_
        refine x_al hC hl 2 dX5_talksIn_15 rfl rfl ?_
        refine x_il hC hl 0 dX5_talksIn_16 rfl rfl ?_
        refine x_ic hC dX5_talksIn_17 ?_
        refine x_vI (As := [.int (iI i), .int (iI 3)]) hC (k5_of l D cs h mF mS mA mV mT mB i 3 (by first | assumption | omega) (by first | assumption | omega) (by first | assumption | omega)) lk5_34 (q0 := 0) (ci := 5) rfl rfl rfl (sub_all hP hD hS hA) hP hS rfl hl.1 rfl (Nat.le_of_ble_eq_true rfl) ⟨rfl, rfl⟩ ⟨Nat.le_of_ble_eq_true rfl, Nat.le_of_ble_eq_true rfl⟩ ⟨Nat.le_of_ble_eq_true rfl, Nat.le_of_ble_eq_true rfl⟩ dX5_talksIn_18 (fun H locs hP hD hS hHs => ?_)
        have q_18 := imB (S := mS) (by assumption) (29 + 4 * i + 3) (by omega)
        refine x_il hC hl 3 dX5_talksIn_21 rfl rfl ?_
        refine x_ic_ne hC 31 dX5_talksIn_22 (by decide) (by omega) (by omega) (fun c_22 => ?_) (fun c_22 => ?_)
        · refine x_ic hC dX5_talksIn_31 ?_
          refine x_ior hC dX5_talksIn_32 (mskI (fun t => mS (29 + 4 * t + 3) = room) (i + 1)) (by first | exact mskI_t hi0 (by omega) (by grind) | exact mskI_f hi0 (by grind)) ?_
          refine x_is hC [(2, .int (mskI (fun t => mS (29 + 4 * t + 3) = room) (i + 1))), (3, .int (iI i)), (0, .ref (h 0)), (1, .int (iI room))] hl dX5_talksIn_33 rfl (by decide) rfl (fun ls hl => ?_)
          refine x_iinc hC [(3, .int (iI (i + 1))), (2, .int (mskI (fun t => mS (29 + 4 * t + 3) = room) (i + 1))), (0, .ref (h 0)), (1, .int (iI room))] 1 hl dX5_talksIn_34 rfl (by decide) rfl (fun ls hl => ?_)
          refine x_goto hC 4 dX5_talksIn_37 (by decide) ?_
          have hl := lv_sub (l' := [(3, .int (iI (i + 1))), (2, .int (mskI (fun t => mS (29 + 4 * t + 3) = room) (i + 1))), (0, .ref (h 0)), (1, .int (iI room))]) hl [0, 1, 2, 3] rfl
          exact ih_4 (i + 1) (by omega) (by omega) (by omega) H locs ls hP hD hS hl
        · refine x_ic hC dX5_talksIn_25 ?_
          refine x_il hC hl 0 dX5_talksIn_26 rfl rfl ?_
          refine x_ishl hC dX5_talksIn_27 (iI 1 <<< (iI i &&& 31)) rfl ?_
          refine x_goto hC 32 dX5_talksIn_28 (by decide) ?_
          refine x_ior hC dX5_talksIn_32 (mskI (fun t => mS (29 + 4 * t + 3) = room) (i + 1)) (by first | exact mskI_t hi0 (by omega) (by grind) | exact mskI_f hi0 (by grind)) ?_
          refine x_is hC [(2, .int (mskI (fun t => mS (29 + 4 * t + 3) = room) (i + 1))), (3, .int (iI i)), (0, .ref (h 0)), (1, .int (iI room))] hl dX5_talksIn_33 rfl (by decide) rfl (fun ls hl => ?_)
          refine x_iinc hC [(3, .int (iI (i + 1))), (2, .int (mskI (fun t => mS (29 + 4 * t + 3) = room) (i + 1))), (0, .ref (h 0)), (1, .int (iI room))] 1 hl dX5_talksIn_34 rfl (by decide) rfl (fun ls hl => ?_)
          refine x_goto hC 4 dX5_talksIn_37 (by decide) ?_
          have hl := lv_sub (l' := [(3, .int (iI (i + 1))), (2, .int (mskI (fun t => mS (29 + 4 * t + 3) = room) (i + 1))), (0, .ref (h 0)), (1, .int (iI room))]) hl [0, 1, 2, 3] rfl
          exact ih_4 (i + 1) (by omega) (by omega) (by omega) H locs ls hP hD hS hl
  have hl := lv_sub (l' := [(3, .int (iI 0)), (2, .int (mskI (fun t => mS (29 + 4 * t + 3) = room) 0)), (0, .ref (h 0)), (1, .int (iI room))]) hl [0, 1, 2, 3] rfl
  exact loop_4 (Int.toNat ((mS 1) - 0) + 1) 0 (by omega) (by omega) (by omega) H locs ls hP hD hS hl
abbrev r5_instead : Room := { frames := 3, cells := 0, slots := 0, locals := 71 }
set_option maxHeartbeats 4000000 in
set_option maxRecDepth 100000 in
theorem k5_instead (l : Launch) (D : va_G) (cs : Nat → ClassId) (h : Nat → Nat) (mF : Int → Int) (mS : Int → Int) (mA : Int → Int) (mV : Int → Int) (mT : Int → Int) (mB : Int → Int) (talk : Int) (hI : IM mS) (h1 : 0 ≤ talk ∧ talk < 20) : CI l D cs yX5_instead cX5_instead 4 .int r5_instead 0 0 [.ref (h 0), .int (iI talk)] (wM h cs mF mS mA mV mT mB) (wM h cs mF mS mA mV mT mB) (mskI (fun t => mMove mS talk t) (8)) := by
  refine CI_start (own := RX5) (by decide) rfl rfl (Nat.le_of_ble_eq_true rfl) ?_
  intro p e s m args below meth c Q A ls hC hl hP hD hA hS hend
  have hl : lv_has ls 4 [(0, .ref (h 0)), (1, .int (iI talk))] := hl
  obtain ⟨H, hH⟩ : ∃ H : Heap, H = s.heap := ⟨_, rfl⟩
  have hS : va_S A s.heap H [] := by rw [hH]; exact hS
  rw [← hH] at hP
  obtain ⟨locs, hlocs⟩ : ∃ locs : List Loc, locs = [] := ⟨_, rfl⟩
  rw [← hlocs] at hS
  suffices hgo : W p l e r5_instead s m args below meth c H locs 0 0 Q (F0 m 0 ls []) by rw [← hH, ← hlocs]; exact hgo
  clear hH hlocs
  obtain ⟨z0, z1, -⟩ := id hI
  refine x_ic hC dX5_instead_0 ?_
  refine x_is hC [(2, .int (iI 0)), (0, .ref (h 0)), (1, .int (iI talk))] hl dX5_instead_1 rfl (by decide) rfl (fun ls hl => ?_)
  refine x_ic hC dX5_instead_2 ?_
  refine x_is hC [(3, .int (iI 0)), (2, .int (iI 0)), (0, .ref (h 0)), (1, .int (iI talk))] hl dX5_instead_3 rfl (by decide) rfl (fun ls hl => ?_)
  have loop_4 : ∀ (n : Nat) (i : Int), (hi0 : 0 ≤ i) → (hiN : i ≤ 8) → (8 - i) < (n : Int) → ∀ (H : Heap) (locs : List Loc) (ls : Array Slot), va_P D vwCl (wM h cs mF mS mA mV mT mB) H → va_D A (wM h cs mF mS mA mV mT mB) → va_S A s.heap H locs → lv_has ls 4 [(3, .int (iI i)), (2, .int (mskI (fun t => mMove mS talk t) i)), (0, .ref (h 0)), (1, .int (iI talk))] → W p l e r5_instead s m args below meth c H locs 0 0 Q (F0 m 4 ls []) := by
    intro n
    induction n with
    | zero =>
      intro i hi0 hiN hnn
      exfalso; omega
    | succ n ih_4 =>
      intro i hi0 hiN hnn H locs ls hP hD hS hl
      refine x_il hC hl 0 dX5_instead_4 rfl rfl ?_
      refine x_bi hC dX5_instead_5 (by decide) ?_
      refine x_ic_ge hC 35 dX5_instead_7 (by decide) (by omega) (by omega) (fun c_7 => ?_) (fun c_7 => ?_)
      · obtain rfl : i = 8 := by omega
        refine x_il hC hl 1 dX5_instead_35 rfl rfl ?_
        exact x_retI (rfl) hend hP hD hS dX5_instead_36
      · refine x_il hC hl 1 dX5_instead_10 rfl rfl ?_
        refine x_al hC hl 2 dX5_instead_11 rfl rfl ?_
        refine x_il hC hl 3 dX5_instead_12 rfl rfl ?_
        refine x_il hC hl 0 dX5_instead_13 rfl rfl ?_
        refine x_vI (As := [.int (iI talk), .int (iI i)]) hC (k5_canMove l D cs h mF mS mA mV mT mB talk i (by first | assumption | omega) (by first | assumption | omega) (by first | assumption | omega)) lk5_96 (q0 := 0) (ci := 5) rfl rfl rfl (sub_all hP hD hS hA) hP hS rfl hl.1 rfl (Nat.le_of_ble_eq_true rfl) ⟨rfl, rfl⟩ ⟨Nat.le_of_ble_eq_true rfl, Nat.le_of_ble_eq_true rfl⟩ ⟨Nat.le_of_ble_eq_true rfl, Nat.le_of_ble_eq_true rfl⟩ dX5_instead_14 (fun H locs hP hD hS hHs => ?_)
        refine x_if_eq_b hC 26 dX5_instead_17 (by decide) (fun c_17 => ?_) (fun c_17 => ?_)
        · refine x_ic hC dX5_instead_26 ?_
          refine x_ior hC dX5_instead_27 (mskI (fun t => mMove mS talk t) (i + 1)) (by first | exact mskI_t hi0 (by omega) (by grind) | exact mskI_f hi0 (by grind)) ?_
          refine x_is hC [(2, .int (mskI (fun t => mMove mS talk t) (i + 1))), (3, .int (iI i)), (0, .ref (h 0)), (1, .int (iI talk))] hl dX5_instead_28 rfl (by decide) rfl (fun ls hl => ?_)
          refine x_iinc hC [(3, .int (iI (i + 1))), (2, .int (mskI (fun t => mMove mS talk t) (i + 1))), (0, .ref (h 0)), (1, .int (iI talk))] 1 hl dX5_instead_29 rfl (by decide) rfl (fun ls hl => ?_)
          refine x_goto hC 4 dX5_instead_32 (by decide) ?_
          have hl := lv_sub (l' := [(3, .int (iI (i + 1))), (2, .int (mskI (fun t => mMove mS talk t) (i + 1))), (0, .ref (h 0)), (1, .int (iI talk))]) hl [0, 1, 2, 3] rfl
          exact ih_4 (i + 1) (by omega) (by omega) (by omega) H locs ls hP hD hS hl
        · refine x_ic hC dX5_instead_20 ?_
          refine x_il hC hl 0 dX5_instead_21 rfl rfl ?_
          refine x_ishl hC dX5_instead_22 (iI 1 <<< (iI i &&& 31)) rfl ?_
          refine x_goto hC 27 dX5_instead_23 (by decide) ?_
          refine x_ior hC dX5_instead_27 (mskI (fun t => mMove mS talk t) (i + 1)) (by first | exact mskI_t hi0 (by omega) (by grind) | exact mskI_f hi0 (by grind)) ?_
          refine x_is hC [(2, .int (mskI (fun t => mMove mS talk t) (i + 1))), (3, .int (iI i)), (0, .ref (h 0)), (1, .int (iI talk))] hl dX5_instead_28 rfl (by decide) rfl (fun ls hl => ?_)
          refine x_iinc hC [(3, .int (iI (i + 1))), (2, .int (mskI (fun t => mMove mS talk t) (i + 1))), (0, .ref (h 0)), (1, .int (iI talk))] 1 hl dX5_instead_29 rfl (by decide) rfl (fun ls hl => ?_)
          refine x_goto hC 4 dX5_instead_32 (by decide) ?_
          have hl := lv_sub (l' := [(3, .int (iI (i + 1))), (2, .int (mskI (fun t => mMove mS talk t) (i + 1))), (0, .ref (h 0)), (1, .int (iI talk))]) hl [0, 1, 2, 3] rfl
          exact ih_4 (i + 1) (by omega) (by omega) (by omega) H locs ls hP hD hS hl
  have hl := lv_sub (l' := [(3, .int (iI 0)), (2, .int (mskI (fun t => mMove mS talk t) 0)), (0, .ref (h 0)), (1, .int (iI talk))]) hl [0, 1, 2, 3] rfl
  exact loop_4 (Int.toNat (8 - 0) + 1) 0 (by omega) (by omega) (by omega) H locs ls hP hD hS hl
abbrev r5_beside : Room := { frames := 1, cells := 0, slots := 0, locals := 22 }
set_option maxHeartbeats 4000000 in
set_option maxRecDepth 100000 in
theorem k5_beside (l : Launch) (D : va_G) (cs : Nat → ClassId) (h : Nat → Nat) (mF : Int → Int) (mS : Int → Int) (mA : Int → Int) (mV : Int → Int) (mT : Int → Int) (mB : Int → Int) (talk : Int) (hI : IM mS) (h1 : 0 ≤ talk ∧ talk < 20) : CI l D cs yX5_beside cX5_beside 5 .int r5_beside 0 0 [.ref (h 0), .int (iI talk)] (wM h cs mF mS mA mV mT mB) (wM h cs mF mS mA mV mT mB) (mskI (fun t => ¬ t = talk ∧ ¬ mS (29 + 4 * t + 3) = -1 ∧ mS (29 + 4 * t + 0) < mS (29 + 4 * talk + 1) ∧ mS (29 + 4 * talk + 0) < mS (29 + 4 * t + 1)) (mS 1)) := by
  refine CI_start (own := RX5) (by decide) rfl rfl (Nat.le_of_ble_eq_true rfl) ?_
  intro p e s m args below meth c Q A ls hC hl hP hD hA hS hend
  have hl : lv_has ls 5 [(0, .ref (h 0)), (1, .int (iI talk))] := hl
  obtain ⟨H, hH⟩ : ∃ H : Heap, H = s.heap := ⟨_, rfl⟩
  have hS : va_S A s.heap H [] := by rw [hH]; exact hS
  rw [← hH] at hP
  obtain ⟨locs, hlocs⟩ : ∃ locs : List Loc, locs = [] := ⟨_, rfl⟩
  rw [← hlocs] at hS
  suffices hgo : W p l e r5_beside s m args below meth c H locs 0 0 Q (F0 m 0 ls []) by rw [← hH, ← hlocs]; exact hgo
  clear hH hlocs
  obtain ⟨z0, z1, -⟩ := id hI
  refine x_ic hC dX5_beside_0 ?_
  refine x_is hC [(2, .int (iI 0)), (0, .ref (h 0)), (1, .int (iI talk))] hl dX5_beside_1 rfl (by decide) rfl (fun ls hl => ?_)
  refine x_ic hC dX5_beside_2 ?_
  refine x_is hC [(3, .int (iI 0)), (2, .int (iI 0)), (0, .ref (h 0)), (1, .int (iI talk))] hl dX5_beside_3 rfl (by decide) rfl (fun ls hl => ?_)
  have loop_4 : ∀ (n : Nat) (i : Int), (hi0 : 0 ≤ i) → (hiN : i ≤ mS 1) → ((mS 1) - i) < (n : Int) → ∀ (H : Heap) (locs : List Loc) (ls : Array Slot), va_P D vwCl (wM h cs mF mS mA mV mT mB) H → va_D A (wM h cs mF mS mA mV mT mB) → va_S A s.heap H locs → lv_has ls 5 [(3, .int (iI i)), (2, .int (mskI (fun t => ¬ t = talk ∧ ¬ mS (29 + 4 * t + 3) = -1 ∧ mS (29 + 4 * t + 0) < mS (29 + 4 * talk + 1) ∧ mS (29 + 4 * talk + 0) < mS (29 + 4 * t + 1)) i)), (0, .ref (h 0)), (1, .int (iI talk))] → W p l e r5_beside s m args below meth c H locs 0 0 Q (F0 m 4 ls []) := by
    intro n
    induction n with
    | zero =>
      intro i hi0 hiN hnn
      exfalso; omega
    | succ n ih_4 =>
      intro i hi0 hiN hnn H locs ls hP hD hS hl
      refine x_il hC hl 0 dX5_beside_4 rfl rfl ?_
      refine x_al hC hl 2 dX5_beside_5 rfl rfl ?_
      refine x_get5 (v := .ref (h 1)) hC hP 0 rfl 1 (by decide) tb_620 rfl rfl dX5_beside_6 ?_
      refine x_ic hC dX5_beside_9 ?_
      refine x_iald hC hP 1 rfl (by omega) (by decide) dX5_beside_10 ?_
      refine x_ic_ge hC 87 dX5_beside_11 (by decide) (by omega) (by omega) (fun c_11 => ?_) (fun c_11 => ?_)
      · obtain rfl : i = mS 1 := by omega
        refine x_il hC hl 1 dX5_beside_87 rfl rfl ?_
        exact x_retI (rfl) hend hP hD hS dX5_beside_88
      · refine x_il hC hl 0 dX5_beside_14 rfl rfl ?_
        refine x_il hC hl 3 dX5_beside_15 rfl rfl ?_
        refine x_ic_eq hC 63 dX5_beside_16 (by decide) (by omega) (by omega) (fun c_16 => ?_) (fun c_16 => ?_)
        · refine x_ic hC dX5_beside_63 ?_
          refine x_isw hC [(4, .int (iI 0)), (3, .int (iI i)), (2, .int (mskI (fun t => ¬ t = talk ∧ ¬ mS (29 + 4 * t + 3) = -1 ∧ mS (29 + 4 * t + 0) < mS (29 + 4 * talk + 1) ∧ mS (29 + 4 * talk + 0) < mS (29 + 4 * t + 1)) i)), (0, .ref (h 0)), (1, .int (iI talk))] hl dX5_beside_64 (by decide) rfl (fun ls hl => ?_)
          refine x_il hC hl 2 dX5_beside_66 rfl rfl ?_
          refine x_ilw hC hl 0 dX5_beside_67 rfl ?_
          refine x_if_eq hC 78 dX5_beside_69 (by decide) (by omega) (fun c_69 => ?_) (fun hz => absurd hz (by decide))
          refine x_ic hC dX5_beside_78 ?_
          refine x_ior hC dX5_beside_79 (mskI (fun t => ¬ t = talk ∧ ¬ mS (29 + 4 * t + 3) = -1 ∧ mS (29 + 4 * t + 0) < mS (29 + 4 * talk + 1) ∧ mS (29 + 4 * talk + 0) < mS (29 + 4 * t + 1)) (i + 1)) (by first | exact mskI_t hi0 (by omega) (by grind) | exact mskI_f hi0 (by grind)) ?_
          refine x_is hC [(2, .int (mskI (fun t => ¬ t = talk ∧ ¬ mS (29 + 4 * t + 3) = -1 ∧ mS (29 + 4 * t + 0) < mS (29 + 4 * talk + 1) ∧ mS (29 + 4 * talk + 0) < mS (29 + 4 * t + 1)) (i + 1))), (4, .int (iI 0)), (3, .int (iI i)), (0, .ref (h 0)), (1, .int (iI talk))] hl dX5_beside_80 rfl (by decide) rfl (fun ls hl => ?_)
          refine x_iinc hC [(3, .int (iI (i + 1))), (2, .int (mskI (fun t => ¬ t = talk ∧ ¬ mS (29 + 4 * t + 3) = -1 ∧ mS (29 + 4 * t + 0) < mS (29 + 4 * talk + 1) ∧ mS (29 + 4 * talk + 0) < mS (29 + 4 * t + 1)) (i + 1))), (4, .int (iI 0)), (0, .ref (h 0)), (1, .int (iI talk))] 2 hl dX5_beside_81 rfl (by decide) rfl (fun ls hl => ?_)
          refine x_goto hC 4 dX5_beside_84 (by decide) ?_
          have hl := lv_sub (l' := [(3, .int (iI (i + 1))), (2, .int (mskI (fun t => ¬ t = talk ∧ ¬ mS (29 + 4 * t + 3) = -1 ∧ mS (29 + 4 * t + 0) < mS (29 + 4 * talk + 1) ∧ mS (29 + 4 * talk + 0) < mS (29 + 4 * t + 1)) (i + 1))), (0, .ref (h 0)), (1, .int (iI talk))]) hl [0, 1, 3, 4] rfl
          exact ih_4 (i + 1) (by omega) (by omega) (by omega) H locs ls hP hD hS hl
        · refine x_al hC hl 2 dX5_beside_19 rfl rfl ?_
          refine x_il hC hl 0 dX5_beside_20 rfl rfl ?_
          refine x_ic hC dX5_beside_21 ?_
          refine x_vI (As := [.int (iI i), .int (iI 3)]) hC (k5_of l D cs h mF mS mA mV mT mB i 3 (by first | assumption | omega) (by first | assumption | omega) (by first | assumption | omega)) lk5_34 (q0 := 0) (ci := 5) rfl rfl rfl (sub_all hP hD hS hA) hP hS rfl hl.1 rfl (Nat.le_of_ble_eq_true rfl) ⟨rfl, rfl⟩ ⟨Nat.le_of_ble_eq_true rfl, Nat.le_of_ble_eq_true rfl⟩ ⟨Nat.le_of_ble_eq_true rfl, Nat.le_of_ble_eq_true rfl⟩ dX5_beside_22 (fun H locs hP hD hS hHs => ?_)
          have q_22 := imB (S := mS) (by assumption) (29 + 4 * i + 3) (by omega)
          refine x_ic hC dX5_beside_25 ?_
          refine x_ic_eq hC 63 dX5_beside_26 (by decide) (by omega) (by omega) (fun c_26 => ?_) (fun c_26 => ?_)
          · refine x_ic hC dX5_beside_63 ?_
            refine x_isw hC [(4, .int (iI 0)), (3, .int (iI i)), (2, .int (mskI (fun t => ¬ t = talk ∧ ¬ mS (29 + 4 * t + 3) = -1 ∧ mS (29 + 4 * t + 0) < mS (29 + 4 * talk + 1) ∧ mS (29 + 4 * talk + 0) < mS (29 + 4 * t + 1)) i)), (0, .ref (h 0)), (1, .int (iI talk))] hl dX5_beside_64 (by decide) rfl (fun ls hl => ?_)
            refine x_il hC hl 2 dX5_beside_66 rfl rfl ?_
            refine x_ilw hC hl 0 dX5_beside_67 rfl ?_
            refine x_if_eq hC 78 dX5_beside_69 (by decide) (by omega) (fun c_69 => ?_) (fun hz => absurd hz (by decide))
            refine x_ic hC dX5_beside_78 ?_
            refine x_ior hC dX5_beside_79 (mskI (fun t => ¬ t = talk ∧ ¬ mS (29 + 4 * t + 3) = -1 ∧ mS (29 + 4 * t + 0) < mS (29 + 4 * talk + 1) ∧ mS (29 + 4 * talk + 0) < mS (29 + 4 * t + 1)) (i + 1)) (by first | exact mskI_t hi0 (by omega) (by grind) | exact mskI_f hi0 (by grind)) ?_
            refine x_is hC [(2, .int (mskI (fun t => ¬ t = talk ∧ ¬ mS (29 + 4 * t + 3) = -1 ∧ mS (29 + 4 * t + 0) < mS (29 + 4 * talk + 1) ∧ mS (29 + 4 * talk + 0) < mS (29 + 4 * t + 1)) (i + 1))), (4, .int (iI 0)), (3, .int (iI i)), (0, .ref (h 0)), (1, .int (iI talk))] hl dX5_beside_80 rfl (by decide) rfl (fun ls hl => ?_)
            refine x_iinc hC [(3, .int (iI (i + 1))), (2, .int (mskI (fun t => ¬ t = talk ∧ ¬ mS (29 + 4 * t + 3) = -1 ∧ mS (29 + 4 * t + 0) < mS (29 + 4 * talk + 1) ∧ mS (29 + 4 * talk + 0) < mS (29 + 4 * t + 1)) (i + 1))), (4, .int (iI 0)), (0, .ref (h 0)), (1, .int (iI talk))] 2 hl dX5_beside_81 rfl (by decide) rfl (fun ls hl => ?_)
            refine x_goto hC 4 dX5_beside_84 (by decide) ?_
            have hl := lv_sub (l' := [(3, .int (iI (i + 1))), (2, .int (mskI (fun t => ¬ t = talk ∧ ¬ mS (29 + 4 * t + 3) = -1 ∧ mS (29 + 4 * t + 0) < mS (29 + 4 * talk + 1) ∧ mS (29 + 4 * talk + 0) < mS (29 + 4 * t + 1)) (i + 1))), (0, .ref (h 0)), (1, .int (iI talk))]) hl [0, 1, 3, 4] rfl
            exact ih_4 (i + 1) (by omega) (by omega) (by omega) H locs ls hP hD hS hl
          · refine x_al hC hl 2 dX5_beside_29 rfl rfl ?_
            refine x_il hC hl 0 dX5_beside_30 rfl rfl ?_
            refine x_ic hC dX5_beside_31 ?_
            refine x_vI (As := [.int (iI i), .int (iI 0)]) hC (k5_of l D cs h mF mS mA mV mT mB i 0 (by first | assumption | omega) (by first | assumption | omega) (by first | assumption | omega)) lk5_34 (q0 := 0) (ci := 5) rfl rfl rfl (sub_all hP hD hS hA) hP hS rfl hl.1 rfl (Nat.le_of_ble_eq_true rfl) ⟨rfl, rfl⟩ ⟨Nat.le_of_ble_eq_true rfl, Nat.le_of_ble_eq_true rfl⟩ ⟨Nat.le_of_ble_eq_true rfl, Nat.le_of_ble_eq_true rfl⟩ dX5_beside_32 (fun H locs hP hD hS hHs => ?_)
            have q_32 := imB (S := mS) (by assumption) (29 + 4 * i + 0) (by omega)
            refine x_al hC hl 2 dX5_beside_35 rfl rfl ?_
            refine x_il hC hl 3 dX5_beside_36 rfl rfl ?_
            refine x_ic hC dX5_beside_37 ?_
            refine x_vI (As := [.int (iI talk), .int (iI 1)]) hC (k5_of l D cs h mF mS mA mV mT mB talk 1 (by first | assumption | omega) (by first | assumption | omega) (by first | assumption | omega)) lk5_34 (q0 := 0) (ci := 5) rfl rfl rfl (sub_all hP hD hS hA) hP hS rfl hl.1 rfl (Nat.le_of_ble_eq_true rfl) ⟨rfl, rfl⟩ ⟨Nat.le_of_ble_eq_true rfl, Nat.le_of_ble_eq_true rfl⟩ ⟨Nat.le_of_ble_eq_true rfl, Nat.le_of_ble_eq_true rfl⟩ dX5_beside_38 (fun H locs hP hD hS hHs => ?_)
            have q_38 := imB (S := mS) (by assumption) (29 + 4 * talk + 1) (by omega)
            refine x_ic_ge hC 63 dX5_beside_41 (by decide) (by omega) (by omega) (fun c_41 => ?_) (fun c_41 => ?_)
            · refine x_ic hC dX5_beside_63 ?_
              refine x_isw hC [(4, .int (iI 0)), (3, .int (iI i)), (2, .int (mskI (fun t => ¬ t = talk ∧ ¬ mS (29 + 4 * t + 3) = -1 ∧ mS (29 + 4 * t + 0) < mS (29 + 4 * talk + 1) ∧ mS (29 + 4 * talk + 0) < mS (29 + 4 * t + 1)) i)), (0, .ref (h 0)), (1, .int (iI talk))] hl dX5_beside_64 (by decide) rfl (fun ls hl => ?_)
              refine x_il hC hl 2 dX5_beside_66 rfl rfl ?_
              refine x_ilw hC hl 0 dX5_beside_67 rfl ?_
              refine x_if_eq hC 78 dX5_beside_69 (by decide) (by omega) (fun c_69 => ?_) (fun hz => absurd hz (by decide))
              refine x_ic hC dX5_beside_78 ?_
              refine x_ior hC dX5_beside_79 (mskI (fun t => ¬ t = talk ∧ ¬ mS (29 + 4 * t + 3) = -1 ∧ mS (29 + 4 * t + 0) < mS (29 + 4 * talk + 1) ∧ mS (29 + 4 * talk + 0) < mS (29 + 4 * t + 1)) (i + 1)) (by first | exact mskI_t hi0 (by omega) (by grind) | exact mskI_f hi0 (by grind)) ?_
              refine x_is hC [(2, .int (mskI (fun t => ¬ t = talk ∧ ¬ mS (29 + 4 * t + 3) = -1 ∧ mS (29 + 4 * t + 0) < mS (29 + 4 * talk + 1) ∧ mS (29 + 4 * talk + 0) < mS (29 + 4 * t + 1)) (i + 1))), (4, .int (iI 0)), (3, .int (iI i)), (0, .ref (h 0)), (1, .int (iI talk))] hl dX5_beside_80 rfl (by decide) rfl (fun ls hl => ?_)
              refine x_iinc hC [(3, .int (iI (i + 1))), (2, .int (mskI (fun t => ¬ t = talk ∧ ¬ mS (29 + 4 * t + 3) = -1 ∧ mS (29 + 4 * t + 0) < mS (29 + 4 * talk + 1) ∧ mS (29 + 4 * talk + 0) < mS (29 + 4 * t + 1)) (i + 1))), (4, .int (iI 0)), (0, .ref (h 0)), (1, .int (iI talk))] 2 hl dX5_beside_81 rfl (by decide) rfl (fun ls hl => ?_)
              refine x_goto hC 4 dX5_beside_84 (by decide) ?_
              have hl := lv_sub (l' := [(3, .int (iI (i + 1))), (2, .int (mskI (fun t => ¬ t = talk ∧ ¬ mS (29 + 4 * t + 3) = -1 ∧ mS (29 + 4 * t + 0) < mS (29 + 4 * talk + 1) ∧ mS (29 + 4 * talk + 0) < mS (29 + 4 * t + 1)) (i + 1))), (0, .ref (h 0)), (1, .int (iI talk))]) hl [0, 1, 3, 4] rfl
              exact ih_4 (i + 1) (by omega) (by omega) (by omega) H locs ls hP hD hS hl
            · refine x_al hC hl 2 dX5_beside_44 rfl rfl ?_
              refine x_il hC hl 3 dX5_beside_45 rfl rfl ?_
              refine x_ic hC dX5_beside_46 ?_
              refine x_vI (As := [.int (iI talk), .int (iI 0)]) hC (k5_of l D cs h mF mS mA mV mT mB talk 0 (by first | assumption | omega) (by first | assumption | omega) (by first | assumption | omega)) lk5_34 (q0 := 0) (ci := 5) rfl rfl rfl (sub_all hP hD hS hA) hP hS rfl hl.1 rfl (Nat.le_of_ble_eq_true rfl) ⟨rfl, rfl⟩ ⟨Nat.le_of_ble_eq_true rfl, Nat.le_of_ble_eq_true rfl⟩ ⟨Nat.le_of_ble_eq_true rfl, Nat.le_of_ble_eq_true rfl⟩ dX5_beside_47 (fun H locs hP hD hS hHs => ?_)
              have q_47 := imB (S := mS) (by assumption) (29 + 4 * talk + 0) (by omega)
              refine x_al hC hl 2 dX5_beside_50 rfl rfl ?_
              refine x_il hC hl 0 dX5_beside_51 rfl rfl ?_
              refine x_ic hC dX5_beside_52 ?_
              refine x_vI (As := [.int (iI i), .int (iI 1)]) hC (k5_of l D cs h mF mS mA mV mT mB i 1 (by first | assumption | omega) (by first | assumption | omega) (by first | assumption | omega)) lk5_34 (q0 := 0) (ci := 5) rfl rfl rfl (sub_all hP hD hS hA) hP hS rfl hl.1 rfl (Nat.le_of_ble_eq_true rfl) ⟨rfl, rfl⟩ ⟨Nat.le_of_ble_eq_true rfl, Nat.le_of_ble_eq_true rfl⟩ ⟨Nat.le_of_ble_eq_true rfl, Nat.le_of_ble_eq_true rfl⟩ dX5_beside_53 (fun H locs hP hD hS hHs => ?_)
              have q_53 := imB (S := mS) (by assumption) (29 + 4 * i + 1) (by omega)
              refine x_ic_ge hC 63 dX5_beside_56 (by decide) (by omega) (by omega) (fun c_56 => ?_) (fun c_56 => ?_)
              · refine x_ic hC dX5_beside_63 ?_
                refine x_isw hC [(4, .int (iI 0)), (3, .int (iI i)), (2, .int (mskI (fun t => ¬ t = talk ∧ ¬ mS (29 + 4 * t + 3) = -1 ∧ mS (29 + 4 * t + 0) < mS (29 + 4 * talk + 1) ∧ mS (29 + 4 * talk + 0) < mS (29 + 4 * t + 1)) i)), (0, .ref (h 0)), (1, .int (iI talk))] hl dX5_beside_64 (by decide) rfl (fun ls hl => ?_)
                refine x_il hC hl 2 dX5_beside_66 rfl rfl ?_
                refine x_ilw hC hl 0 dX5_beside_67 rfl ?_
                refine x_if_eq hC 78 dX5_beside_69 (by decide) (by omega) (fun c_69 => ?_) (fun hz => absurd hz (by decide))
                refine x_ic hC dX5_beside_78 ?_
                refine x_ior hC dX5_beside_79 (mskI (fun t => ¬ t = talk ∧ ¬ mS (29 + 4 * t + 3) = -1 ∧ mS (29 + 4 * t + 0) < mS (29 + 4 * talk + 1) ∧ mS (29 + 4 * talk + 0) < mS (29 + 4 * t + 1)) (i + 1)) (by first | exact mskI_t hi0 (by omega) (by grind) | exact mskI_f hi0 (by grind)) ?_
                refine x_is hC [(2, .int (mskI (fun t => ¬ t = talk ∧ ¬ mS (29 + 4 * t + 3) = -1 ∧ mS (29 + 4 * t + 0) < mS (29 + 4 * talk + 1) ∧ mS (29 + 4 * talk + 0) < mS (29 + 4 * t + 1)) (i + 1))), (4, .int (iI 0)), (3, .int (iI i)), (0, .ref (h 0)), (1, .int (iI talk))] hl dX5_beside_80 rfl (by decide) rfl (fun ls hl => ?_)
                refine x_iinc hC [(3, .int (iI (i + 1))), (2, .int (mskI (fun t => ¬ t = talk ∧ ¬ mS (29 + 4 * t + 3) = -1 ∧ mS (29 + 4 * t + 0) < mS (29 + 4 * talk + 1) ∧ mS (29 + 4 * talk + 0) < mS (29 + 4 * t + 1)) (i + 1))), (4, .int (iI 0)), (0, .ref (h 0)), (1, .int (iI talk))] 2 hl dX5_beside_81 rfl (by decide) rfl (fun ls hl => ?_)
                refine x_goto hC 4 dX5_beside_84 (by decide) ?_
                have hl := lv_sub (l' := [(3, .int (iI (i + 1))), (2, .int (mskI (fun t => ¬ t = talk ∧ ¬ mS (29 + 4 * t + 3) = -1 ∧ mS (29 + 4 * t + 0) < mS (29 + 4 * talk + 1) ∧ mS (29 + 4 * talk + 0) < mS (29 + 4 * t + 1)) (i + 1))), (0, .ref (h 0)), (1, .int (iI talk))]) hl [0, 1, 3, 4] rfl
                exact ih_4 (i + 1) (by omega) (by omega) (by omega) H locs ls hP hD hS hl
              · refine x_ic hC dX5_beside_59 ?_
                refine x_goto hC 64 dX5_beside_60 (by decide) ?_
                refine x_isw hC [(4, .int (iI 1)), (3, .int (iI i)), (2, .int (mskI (fun t => ¬ t = talk ∧ ¬ mS (29 + 4 * t + 3) = -1 ∧ mS (29 + 4 * t + 0) < mS (29 + 4 * talk + 1) ∧ mS (29 + 4 * talk + 0) < mS (29 + 4 * t + 1)) i)), (0, .ref (h 0)), (1, .int (iI talk))] hl dX5_beside_64 (by decide) rfl (fun ls hl => ?_)
                refine x_il hC hl 2 dX5_beside_66 rfl rfl ?_
                refine x_ilw hC hl 0 dX5_beside_67 rfl ?_
                refine x_if_eq hC 78 dX5_beside_69 (by decide) (by omega) (fun hz => absurd hz (by decide)) (fun c_69 => ?_)
                refine x_ic hC dX5_beside_72 ?_
                refine x_il hC hl 1 dX5_beside_73 rfl rfl ?_
                refine x_ishl hC dX5_beside_74 (iI 1 <<< (iI i &&& 31)) rfl ?_
                refine x_goto hC 79 dX5_beside_75 (by decide) ?_
                refine x_ior hC dX5_beside_79 (mskI (fun t => ¬ t = talk ∧ ¬ mS (29 + 4 * t + 3) = -1 ∧ mS (29 + 4 * t + 0) < mS (29 + 4 * talk + 1) ∧ mS (29 + 4 * talk + 0) < mS (29 + 4 * t + 1)) (i + 1)) (by first | exact mskI_t hi0 (by omega) (by grind) | exact mskI_f hi0 (by grind)) ?_
                refine x_is hC [(2, .int (mskI (fun t => ¬ t = talk ∧ ¬ mS (29 + 4 * t + 3) = -1 ∧ mS (29 + 4 * t + 0) < mS (29 + 4 * talk + 1) ∧ mS (29 + 4 * talk + 0) < mS (29 + 4 * t + 1)) (i + 1))), (4, .int (iI 1)), (3, .int (iI i)), (0, .ref (h 0)), (1, .int (iI talk))] hl dX5_beside_80 rfl (by decide) rfl (fun ls hl => ?_)
                refine x_iinc hC [(3, .int (iI (i + 1))), (2, .int (mskI (fun t => ¬ t = talk ∧ ¬ mS (29 + 4 * t + 3) = -1 ∧ mS (29 + 4 * t + 0) < mS (29 + 4 * talk + 1) ∧ mS (29 + 4 * talk + 0) < mS (29 + 4 * t + 1)) (i + 1))), (4, .int (iI 1)), (0, .ref (h 0)), (1, .int (iI talk))] 2 hl dX5_beside_81 rfl (by decide) rfl (fun ls hl => ?_)
                refine x_goto hC 4 dX5_beside_84 (by decide) ?_
                have hl := lv_sub (l' := [(3, .int (iI (i + 1))), (2, .int (mskI (fun t => ¬ t = talk ∧ ¬ mS (29 + 4 * t + 3) = -1 ∧ mS (29 + 4 * t + 0) < mS (29 + 4 * talk + 1) ∧ mS (29 + 4 * talk + 0) < mS (29 + 4 * t + 1)) (i + 1))), (0, .ref (h 0)), (1, .int (iI talk))]) hl [0, 1, 3, 4] rfl
                exact ih_4 (i + 1) (by omega) (by omega) (by omega) H locs ls hP hD hS hl
  have hl := lv_sub (l' := [(3, .int (iI 0)), (2, .int (mskI (fun t => ¬ t = talk ∧ ¬ mS (29 + 4 * t + 3) = -1 ∧ mS (29 + 4 * t + 0) < mS (29 + 4 * talk + 1) ∧ mS (29 + 4 * talk + 0) < mS (29 + 4 * t + 1)) 0)), (0, .ref (h 0)), (1, .int (iI talk))]) hl [0, 1, 2, 3] rfl
  exact loop_4 (Int.toNat ((mS 1) - 0) + 1) 0 (by omega) (by omega) (by omega) H locs ls hP hD hS hl
abbrev r5_ones : Room := { frames := 0, cells := 0, slots := 0, locals := 0 }
set_option maxHeartbeats 4000000 in
set_option maxRecDepth 100000 in
theorem k5_ones (l : Launch) (D : va_G) (cs : Nat → ClassId) (set : Int32)  : CI l D cs yX5_ones cX5_ones 3 .int r5_ones 0 0 [.int set] (([] : va_W)) (([] : va_W)) (iI (popI set 20)) := by
  refine CI_start (own := RX5) (by decide) rfl rfl (Nat.le_of_ble_eq_true rfl) ?_
  intro p e s m args below meth c Q A ls hC hl hP hD hA hS hend
  have hl : lv_has ls 3 [(0, .int set)] := hl
  obtain ⟨H, hH⟩ : ∃ H : Heap, H = s.heap := ⟨_, rfl⟩
  have hS : va_S A s.heap H [] := by rw [hH]; exact hS
  rw [← hH] at hP
  obtain ⟨locs, hlocs⟩ : ∃ locs : List Loc, locs = [] := ⟨_, rfl⟩
  rw [← hlocs] at hS
  suffices hgo : W p l e r5_ones s m args below meth c H locs 0 0 Q (F0 m 0 ls []) by rw [← hH, ← hlocs]; exact hgo
  clear hH hlocs
  refine x_ic hC dX5_ones_0 ?_
  refine x_is hC [(1, .int (iI 0)), (0, .int set)] hl dX5_ones_1 rfl (by decide) rfl (fun ls hl => ?_)
  refine x_ic hC dX5_ones_2 ?_
  refine x_is hC [(2, .int (iI 0)), (1, .int (iI 0)), (0, .int set)] hl dX5_ones_3 rfl (by decide) rfl (fun ls hl => ?_)
  have loop_4 : ∀ (n : Nat) (i : Int), (hi0 : 0 ≤ i) → (hiN : i ≤ 20) → (20 - i) < (n : Int) → ∀ (H : Heap) (locs : List Loc) (ls : Array Slot), va_P D vwCl (([] : va_W)) H → va_D A (([] : va_W)) → va_S A s.heap H locs → lv_has ls 3 [(2, .int (iI i)), (1, .int (iI (popI set i))), (0, .int set)] → W p l e r5_ones s m args below meth c H locs 0 0 Q (F0 m 4 ls []) := by
    intro n
    induction n with
    | zero =>
      intro i hi0 hiN hnn
      exfalso; omega
    | succ n ih_4 =>
      intro i hi0 hiN hnn H locs ls hP hD hS hl
      refine x_il hC hl 0 dX5_ones_4 rfl rfl ?_
      refine x_bi hC dX5_ones_5 (by decide) ?_
      refine x_ic_ge hC 24 dX5_ones_7 (by decide) (by omega) (by omega) (fun c_7 => ?_) (fun c_7 => ?_)
      · obtain rfl : i = 20 := by omega
        refine x_il hC hl 1 dX5_ones_24 rfl rfl ?_
        exact x_retI (rfl) hend hP hD hS dX5_ones_25
      · refine x_il hC hl 1 dX5_ones_10 rfl rfl ?_
        refine x_il hC hl 2 dX5_ones_11 rfl rfl ?_
        refine x_il hC hl 0 dX5_ones_12 rfl rfl ?_
        refine x_ishr hC dX5_ones_13 (set >>> (iI i &&& 31)) rfl ?_
        refine x_ic hC dX5_ones_14 ?_
        refine x_iand hC dX5_ones_15 (iI (bitI set i)) (bitI_eq set i) ?_
        refine x_iadd hC dX5_ones_16 ?_
        refine x_is hC [(1, .int (iI ((popI set i) + (bitI set i)))), (2, .int (iI i)), (0, .int set)] hl dX5_ones_17 rfl (by decide) rfl (fun ls hl => ?_)
        refine x_iinc hC [(2, .int (iI (i + 1))), (1, .int (iI ((popI set i) + (bitI set i)))), (0, .int set)] 1 hl dX5_ones_18 rfl (by decide) rfl (fun ls hl => ?_)
        refine x_goto hC 4 dX5_ones_21 (by decide) ?_
        have hl : lv_has ls 3 [(2, .int (iI (i + 1))), (1, .int (iI (popI set (i + 1)))), (0, .int set)] := lvE (lv_sub (l' := [(2, .int (iI (i + 1))), (1, .int (iI ((popI set i) + (bitI set i)))), (0, .int set)]) hl [0, 1, 2] rfl) (lcE rfl (lcE (congrArg (fun z => Value.int (iI z)) (by unfold popI; rw [fI_s (by omega)] : (popI set i) + (bitI set i) = popI set (i + 1))) (lcE rfl (rfl))))
        exact ih_4 (i + 1) (by omega) (by omega) (by omega) H locs ls hP hD hS hl
  have hl := lv_sub (l' := [(2, .int (iI 0)), (1, .int (iI (popI set 0))), (0, .int set)]) hl [0, 1, 2] rfl
  exact loop_4 (Int.toNat (20 - 0) + 1) 0 (by omega) (by omega) (by omega) H locs ls hP hD hS hl
abbrev r5_longestFree : Room := { frames := 2, cells := 0, slots := 0, locals := 45 }
set_option maxHeartbeats 4000000 in
set_option maxRecDepth 100000 in
theorem k5_longestFree (l : Launch) (D : va_G) (cs : Nat → ClassId) (h : Nat → Nat) (mF : Int → Int) (mS : Int → Int) (mA : Int → Int) (mV : Int → Int) (mT : Int → Int) (mB : Int → Int) (room : Int) (hI : IM mS) (h1 : 0 ≤ room ∧ room < 8) : CI l D cs yX5_longestFree cX5_longestFree 5 .int r5_longestFree 0 0 [.ref (h 0), .int (iI room)] (wM h cs mF mS mA mV mT mB) (wM h cs mF mS mA mV mT mB) (iI ((mLong mS room 48).1)) := by
  refine CI_start (own := RX5) (by decide) rfl rfl (Nat.le_of_ble_eq_true rfl) ?_
  intro p e s m args below meth c Q A ls hC hl hP hD hA hS hend
  have hl : lv_has ls 5 [(0, .ref (h 0)), (1, .int (iI room))] := hl
  obtain ⟨H, hH⟩ : ∃ H : Heap, H = s.heap := ⟨_, rfl⟩
  have hS : va_S A s.heap H [] := by rw [hH]; exact hS
  rw [← hH] at hP
  obtain ⟨locs, hlocs⟩ : ∃ locs : List Loc, locs = [] := ⟨_, rfl⟩
  rw [← hlocs] at hS
  suffices hgo : W p l e r5_longestFree s m args below meth c H locs 0 0 Q (F0 m 0 ls []) by rw [← hH, ← hlocs]; exact hgo
  clear hH hlocs
  obtain ⟨z0, z1, -⟩ := id hI
  refine x_ic hC dX5_longestFree_0 ?_
  refine x_is hC [(2, .int (iI 0)), (0, .ref (h 0)), (1, .int (iI room))] hl dX5_longestFree_1 rfl (by decide) rfl (fun ls hl => ?_)
  refine x_ic hC dX5_longestFree_2 ?_
  refine x_is hC [(3, .int (iI 0)), (2, .int (iI 0)), (0, .ref (h 0)), (1, .int (iI room))] hl dX5_longestFree_3 rfl (by decide) rfl (fun ls hl => ?_)
  refine x_ic hC dX5_longestFree_4 ?_
  refine x_isw hC [(4, .int (iI 0)), (3, .int (iI 0)), (2, .int (iI 0)), (0, .ref (h 0)), (1, .int (iI room))] hl dX5_longestFree_5 (by decide) rfl (fun ls hl => ?_)
  have loop_7 : ∀ (n : Nat) (i : Int), (hi0 : 0 ≤ i) → (hiN : i ≤ 48) → (48 - i) < (n : Int) → ∀ (H : Heap) (locs : List Loc) (ls : Array Slot), va_P D vwCl (wM h cs mF mS mA mV mT mB) H → va_D A (wM h cs mF mS mA mV mT mB) → va_S A s.heap H locs → lv_has ls 5 [(4, .int (iI i)), (3, .int (iI ((mLong mS room i).2))), (2, .int (iI ((mLong mS room i).1))), (0, .ref (h 0)), (1, .int (iI room))] → W p l e r5_longestFree s m args below meth c H locs 0 0 Q (F0 m 7 ls []) := by
    intro n
    induction n with
    | zero =>
      intro i hi0 hiN hnn
      exfalso; omega
    | succ n ih_7 =>
      intro i hi0 hiN hnn H locs ls hP hD hS hl
      have hx := mLong_rg mS room hi0
      have qt := mTalkAt_rg mS room i (by omega)
      refine x_ilw hC hl 0 dX5_longestFree_7 rfl ?_
      refine x_bi hC dX5_longestFree_9 (by decide) ?_
      refine x_ic_ge hC 51 dX5_longestFree_11 (by decide) (by omega) (by omega) (fun c_11 => ?_) (fun c_11 => ?_)
      · obtain rfl : i = 48 := by omega
        refine x_il hC hl 2 dX5_longestFree_51 rfl rfl ?_
        exact x_retI (rfl) hend hP hD hS dX5_longestFree_52
      · refine x_al hC hl 3 dX5_longestFree_14 rfl rfl ?_
        refine x_il hC hl 4 dX5_longestFree_15 rfl rfl ?_
        refine x_ilw hC hl 0 dX5_longestFree_16 rfl ?_
        refine x_vI (As := [.int (iI room), .int (iI i)]) hC (k5_talkAt l D cs h mF mS mA mV mT mB room i (by first | assumption | omega) (by first | assumption | omega) (by first | assumption | omega)) lk5_143 (q0 := 0) (ci := 5) rfl rfl rfl (sub_all hP hD hS hA) hP hS rfl hl.1 rfl (Nat.le_of_ble_eq_true rfl) ⟨rfl, rfl⟩ ⟨Nat.le_of_ble_eq_true rfl, Nat.le_of_ble_eq_true rfl⟩ ⟨Nat.le_of_ble_eq_true rfl, Nat.le_of_ble_eq_true rfl⟩ dX5_longestFree_18 (fun H locs hP hD hS hHs => ?_)
        refine x_ldc hC (-1000004) tb_836 (by decide) dX5_longestFree_21 ?_
        refine x_ic_ne hC 32 dX5_longestFree_23 (by decide) (by omega) (by omega) (fun c_23 => ?_) (fun c_23 => ?_)
        · refine x_ic hC dX5_longestFree_32 ?_
          refine x_is hC [(3, .int (iI 0)), (4, .int (iI i)), (2, .int (iI ((mLong mS room i).1))), (0, .ref (h 0)), (1, .int (iI room))] hl dX5_longestFree_33 rfl (by decide) rfl (fun ls hl => ?_)
          refine x_il hC hl 0 dX5_longestFree_34 rfl rfl ?_
          refine x_il hC hl 2 dX5_longestFree_35 rfl rfl ?_
          refine x_ic_le hC 43 dX5_longestFree_36 (by decide) (by omega) (by omega) (fun c_36 => ?_) (fun c_36 => ?_)
          · refine x_il hC hl 2 dX5_longestFree_43 rfl rfl ?_
            refine x_is hC [(2, .int (iI ((mLong mS room i).1))), (3, .int (iI 0)), (4, .int (iI i)), (0, .ref (h 0)), (1, .int (iI room))] hl dX5_longestFree_44 rfl (by decide) rfl (fun ls hl => ?_)
            refine x_iinc hC [(4, .int (iI (i + 1))), (2, .int (iI ((mLong mS room i).1))), (3, .int (iI 0)), (0, .ref (h 0)), (1, .int (iI room))] 2 hl dX5_longestFree_45 rfl (by decide) rfl (fun ls hl => ?_)
            refine x_goto hC 7 dX5_longestFree_48 (by decide) ?_
            have hl : lv_has ls 5 [(4, .int (iI (i + 1))), (3, .int (iI ((mLong mS room (i + 1)).2))), (2, .int (iI ((mLong mS room (i + 1)).1))), (0, .ref (h 0)), (1, .int (iI room))] := lvE (lv_sub (l' := [(4, .int (iI (i + 1))), (3, .int (iI 0)), (2, .int (iI ((mLong mS room i).1))), (0, .ref (h 0)), (1, .int (iI room))]) hl [0, 2, 1, 3, 4] rfl) (lcE rfl (lcE (congrArg (fun z => Value.int (iI z)) (by rw [mLong_s _ _ hi0]; unfold mLongS iif; grind : 0 = (mLong mS room (i + 1)).2)) (lcE (congrArg (fun z => Value.int (iI z)) (by rw [mLong_s _ _ hi0]; unfold mLongS iif; grind : (mLong mS room i).1 = (mLong mS room (i + 1)).1)) (lcE rfl (lcE rfl (rfl))))))
            exact ih_7 (i + 1) (by omega) (by omega) (by omega) H locs ls hP hD hS hl
          · refine x_il hC hl 0 dX5_longestFree_39 rfl rfl ?_
            refine x_goto hC 44 dX5_longestFree_40 (by decide) ?_
            refine x_is hC [(2, .int (iI 0)), (3, .int (iI 0)), (4, .int (iI i)), (0, .ref (h 0)), (1, .int (iI room))] hl dX5_longestFree_44 rfl (by decide) rfl (fun ls hl => ?_)
            refine x_iinc hC [(4, .int (iI (i + 1))), (2, .int (iI 0)), (3, .int (iI 0)), (0, .ref (h 0)), (1, .int (iI room))] 2 hl dX5_longestFree_45 rfl (by decide) rfl (fun ls hl => ?_)
            refine x_goto hC 7 dX5_longestFree_48 (by decide) ?_
            have hl : lv_has ls 5 [(4, .int (iI (i + 1))), (3, .int (iI ((mLong mS room (i + 1)).2))), (2, .int (iI ((mLong mS room (i + 1)).1))), (0, .ref (h 0)), (1, .int (iI room))] := lvE (lv_sub (l' := [(4, .int (iI (i + 1))), (3, .int (iI 0)), (2, .int (iI 0)), (0, .ref (h 0)), (1, .int (iI room))]) hl [0, 2, 1, 3, 4] rfl) (lcE rfl (lcE (congrArg (fun z => Value.int (iI z)) (by rw [mLong_s _ _ hi0]; unfold mLongS iif; grind : 0 = (mLong mS room (i + 1)).2)) (lcE (congrArg (fun z => Value.int (iI z)) (by rw [mLong_s _ _ hi0]; unfold mLongS iif; grind : 0 = (mLong mS room (i + 1)).1)) (lcE rfl (lcE rfl (rfl))))))
            exact ih_7 (i + 1) (by omega) (by omega) (by omega) H locs ls hP hD hS hl
        · refine x_il hC hl 1 dX5_longestFree_26 rfl rfl ?_
          refine x_ic hC dX5_longestFree_27 ?_
          refine x_iadd hC dX5_longestFree_28 ?_
          refine x_goto hC 33 dX5_longestFree_29 (by decide) ?_
          refine x_is hC [(3, .int (iI (((mLong mS room i).2) + 1))), (4, .int (iI i)), (2, .int (iI ((mLong mS room i).1))), (0, .ref (h 0)), (1, .int (iI room))] hl dX5_longestFree_33 rfl (by decide) rfl (fun ls hl => ?_)
          refine x_il hC hl 0 dX5_longestFree_34 rfl rfl ?_
          refine x_il hC hl 2 dX5_longestFree_35 rfl rfl ?_
          refine x_ic_le hC 43 dX5_longestFree_36 (by decide) (by omega) (by omega) (fun c_36 => ?_) (fun c_36 => ?_)
          · refine x_il hC hl 2 dX5_longestFree_43 rfl rfl ?_
            refine x_is hC [(2, .int (iI ((mLong mS room i).1))), (3, .int (iI (((mLong mS room i).2) + 1))), (4, .int (iI i)), (0, .ref (h 0)), (1, .int (iI room))] hl dX5_longestFree_44 rfl (by decide) rfl (fun ls hl => ?_)
            refine x_iinc hC [(4, .int (iI (i + 1))), (2, .int (iI ((mLong mS room i).1))), (3, .int (iI (((mLong mS room i).2) + 1))), (0, .ref (h 0)), (1, .int (iI room))] 2 hl dX5_longestFree_45 rfl (by decide) rfl (fun ls hl => ?_)
            refine x_goto hC 7 dX5_longestFree_48 (by decide) ?_
            have hl : lv_has ls 5 [(4, .int (iI (i + 1))), (3, .int (iI ((mLong mS room (i + 1)).2))), (2, .int (iI ((mLong mS room (i + 1)).1))), (0, .ref (h 0)), (1, .int (iI room))] := lvE (lv_sub (l' := [(4, .int (iI (i + 1))), (3, .int (iI (((mLong mS room i).2) + 1))), (2, .int (iI ((mLong mS room i).1))), (0, .ref (h 0)), (1, .int (iI room))]) hl [0, 2, 1, 3, 4] rfl) (lcE rfl (lcE (congrArg (fun z => Value.int (iI z)) (by rw [mLong_s _ _ hi0]; unfold mLongS iif; grind : ((mLong mS room i).2) + 1 = (mLong mS room (i + 1)).2)) (lcE (congrArg (fun z => Value.int (iI z)) (by rw [mLong_s _ _ hi0]; unfold mLongS iif; grind : (mLong mS room i).1 = (mLong mS room (i + 1)).1)) (lcE rfl (lcE rfl (rfl))))))
            exact ih_7 (i + 1) (by omega) (by omega) (by omega) H locs ls hP hD hS hl
          · refine x_il hC hl 0 dX5_longestFree_39 rfl rfl ?_
            refine x_goto hC 44 dX5_longestFree_40 (by decide) ?_
            refine x_is hC [(2, .int (iI (((mLong mS room i).2) + 1))), (3, .int (iI (((mLong mS room i).2) + 1))), (4, .int (iI i)), (0, .ref (h 0)), (1, .int (iI room))] hl dX5_longestFree_44 rfl (by decide) rfl (fun ls hl => ?_)
            refine x_iinc hC [(4, .int (iI (i + 1))), (2, .int (iI (((mLong mS room i).2) + 1))), (3, .int (iI (((mLong mS room i).2) + 1))), (0, .ref (h 0)), (1, .int (iI room))] 2 hl dX5_longestFree_45 rfl (by decide) rfl (fun ls hl => ?_)
            refine x_goto hC 7 dX5_longestFree_48 (by decide) ?_
            have hl : lv_has ls 5 [(4, .int (iI (i + 1))), (3, .int (iI ((mLong mS room (i + 1)).2))), (2, .int (iI ((mLong mS room (i + 1)).1))), (0, .ref (h 0)), (1, .int (iI room))] := lvE (lv_sub (l' := [(4, .int (iI (i + 1))), (3, .int (iI (((mLong mS room i).2) + 1))), (2, .int (iI (((mLong mS room i).2) + 1))), (0, .ref (h 0)), (1, .int (iI room))]) hl [0, 2, 1, 3, 4] rfl) (lcE rfl (lcE (congrArg (fun z => Value.int (iI z)) (by rw [mLong_s _ _ hi0]; unfold mLongS iif; grind : ((mLong mS room i).2) + 1 = (mLong mS room (i + 1)).2)) (lcE (congrArg (fun z => Value.int (iI z)) (by rw [mLong_s _ _ hi0]; unfold mLongS iif; grind : ((mLong mS room i).2) + 1 = (mLong mS room (i + 1)).1)) (lcE rfl (lcE rfl (rfl))))))
            exact ih_7 (i + 1) (by omega) (by omega) (by omega) H locs ls hP hD hS hl
  have hl := lv_sub (l' := [(4, .int (iI 0)), (3, .int (iI ((mLong mS room 0).2))), (2, .int (iI ((mLong mS room 0).1))), (0, .ref (h 0)), (1, .int (iI room))]) hl [0, 1, 2, 3, 4] rfl
  exact loop_7 (Int.toNat (48 - 0) + 1) 0 (by omega) (by omega) (by omega) H locs ls hP hD hS hl
abbrev r5_talksAt : Room := { frames := 2, cells := 0, slots := 0, locals := 45 }
set_option maxHeartbeats 4000000 in
set_option maxRecDepth 100000 in
theorem k5_talksAt (l : Launch) (D : va_G) (cs : Nat → ClassId) (h : Nat → Nat) (mF : Int → Int) (mS : Int → Int) (mA : Int → Int) (mV : Int → Int) (mT : Int → Int) (mB : Int → Int) (hour : Int) (hI : IM mS) (h1 : 0 ≤ hour ∧ hour < 48) : CI l D cs yX5_talksAt cX5_talksAt 4 .int r5_talksAt 0 0 [.ref (h 0), .int (iI hour)] (wM h cs mF mS mA mV mT mB) (wM h cs mF mS mA mV mT mB) (iI (mTalksAt mS hour 8)) := by
  refine CI_start (own := RX5) (by decide) rfl rfl (Nat.le_of_ble_eq_true rfl) ?_
  intro p e s m args below meth c Q A ls hC hl hP hD hA hS hend
  have hl : lv_has ls 4 [(0, .ref (h 0)), (1, .int (iI hour))] := hl
  obtain ⟨H, hH⟩ : ∃ H : Heap, H = s.heap := ⟨_, rfl⟩
  have hS : va_S A s.heap H [] := by rw [hH]; exact hS
  rw [← hH] at hP
  obtain ⟨locs, hlocs⟩ : ∃ locs : List Loc, locs = [] := ⟨_, rfl⟩
  rw [← hlocs] at hS
  suffices hgo : W p l e r5_talksAt s m args below meth c H locs 0 0 Q (F0 m 0 ls []) by rw [← hH, ← hlocs]; exact hgo
  clear hH hlocs
  obtain ⟨z0, z1, -⟩ := id hI
  refine x_ic hC dX5_talksAt_0 ?_
  refine x_is hC [(2, .int (iI 0)), (0, .ref (h 0)), (1, .int (iI hour))] hl dX5_talksAt_1 rfl (by decide) rfl (fun ls hl => ?_)
  refine x_ic hC dX5_talksAt_2 ?_
  refine x_is hC [(3, .int (iI 0)), (2, .int (iI 0)), (0, .ref (h 0)), (1, .int (iI hour))] hl dX5_talksAt_3 rfl (by decide) rfl (fun ls hl => ?_)
  have loop_4 : ∀ (n : Nat) (i : Int), (hi0 : 0 ≤ i) → (hiN : i ≤ 8) → (8 - i) < (n : Int) → ∀ (H : Heap) (locs : List Loc) (ls : Array Slot), va_P D vwCl (wM h cs mF mS mA mV mT mB) H → va_D A (wM h cs mF mS mA mV mT mB) → va_S A s.heap H locs → lv_has ls 4 [(3, .int (iI i)), (2, .int (iI (mTalksAt mS hour i))), (0, .ref (h 0)), (1, .int (iI hour))] → W p l e r5_talksAt s m args below meth c H locs 0 0 Q (F0 m 4 ls []) := by
    intro n
    induction n with
    | zero =>
      intro i hi0 hiN hnn
      exfalso; omega
    | succ n ih_4 =>
      intro i hi0 hiN hnn H locs ls hP hD hS hl
      have qt := mTalkAt_rg mS i hour (by omega)
      refine x_il hC hl 0 dX5_talksAt_4 rfl rfl ?_
      refine x_bi hC dX5_talksAt_5 (by decide) ?_
      refine x_ic_ge hC 35 dX5_talksAt_7 (by decide) (by omega) (by omega) (fun c_7 => ?_) (fun c_7 => ?_)
      · obtain rfl : i = 8 := by omega
        refine x_il hC hl 1 dX5_talksAt_35 rfl rfl ?_
        exact x_retI (rfl) hend hP hD hS dX5_talksAt_36
      · refine x_il hC hl 1 dX5_talksAt_10 rfl rfl ?_
        refine x_al hC hl 2 dX5_talksAt_11 rfl rfl ?_
        refine x_il hC hl 0 dX5_talksAt_12 rfl rfl ?_
        refine x_il hC hl 3 dX5_talksAt_13 rfl rfl ?_
        refine x_vI (As := [.int (iI i), .int (iI hour)]) hC (k5_talkAt l D cs h mF mS mA mV mT mB i hour (by first | assumption | omega) (by first | assumption | omega) (by first | assumption | omega)) lk5_143 (q0 := 0) (ci := 5) rfl rfl rfl (sub_all hP hD hS hA) hP hS rfl hl.1 rfl (Nat.le_of_ble_eq_true rfl) ⟨rfl, rfl⟩ ⟨Nat.le_of_ble_eq_true rfl, Nat.le_of_ble_eq_true rfl⟩ ⟨Nat.le_of_ble_eq_true rfl, Nat.le_of_ble_eq_true rfl⟩ dX5_talksAt_14 (fun H locs hP hD hS hHs => ?_)
        refine x_ldc hC (-1000004) tb_836 (by decide) dX5_talksAt_17 ?_
        refine x_ic_ne hC 26 dX5_talksAt_19 (by decide) (by omega) (by omega) (fun c_19 => ?_) (fun c_19 => ?_)
        · refine x_ic hC dX5_talksAt_26 ?_
          refine x_iadd hC dX5_talksAt_27 ?_
          refine x_is hC [(2, .int (iI ((mTalksAt mS hour i) + 1))), (3, .int (iI i)), (0, .ref (h 0)), (1, .int (iI hour))] hl dX5_talksAt_28 rfl (by decide) rfl (fun ls hl => ?_)
          refine x_iinc hC [(3, .int (iI (i + 1))), (2, .int (iI ((mTalksAt mS hour i) + 1))), (0, .ref (h 0)), (1, .int (iI hour))] 1 hl dX5_talksAt_29 rfl (by decide) rfl (fun ls hl => ?_)
          refine x_goto hC 4 dX5_talksAt_32 (by decide) ?_
          have hl : lv_has ls 4 [(3, .int (iI (i + 1))), (2, .int (iI (mTalksAt mS hour (i + 1)))), (0, .ref (h 0)), (1, .int (iI hour))] := lvE (lv_sub (l' := [(3, .int (iI (i + 1))), (2, .int (iI ((mTalksAt mS hour i) + 1))), (0, .ref (h 0)), (1, .int (iI hour))]) hl [0, 1, 2, 3] rfl) (lcE rfl (lcE (congrArg (fun z => Value.int (iI z)) (by unfold mTalksAt; rw [fI_s (by omega)]; unfold mTalksAtS; first | exact (iif_t (by omega)).symm | exact (iif_f (by omega)).symm : (mTalksAt mS hour i) + 1 = mTalksAt mS hour (i + 1))) (lcE rfl (lcE rfl (rfl)))))
          exact ih_4 (i + 1) (by omega) (by omega) (by omega) H locs ls hP hD hS hl
        · refine x_ic hC dX5_talksAt_22 ?_
          refine x_goto hC 27 dX5_talksAt_23 (by decide) ?_
          refine x_iadd hC dX5_talksAt_27 ?_
          refine x_is hC [(2, .int (iI ((mTalksAt mS hour i) + 0))), (3, .int (iI i)), (0, .ref (h 0)), (1, .int (iI hour))] hl dX5_talksAt_28 rfl (by decide) rfl (fun ls hl => ?_)
          refine x_iinc hC [(3, .int (iI (i + 1))), (2, .int (iI ((mTalksAt mS hour i) + 0))), (0, .ref (h 0)), (1, .int (iI hour))] 1 hl dX5_talksAt_29 rfl (by decide) rfl (fun ls hl => ?_)
          refine x_goto hC 4 dX5_talksAt_32 (by decide) ?_
          have hl : lv_has ls 4 [(3, .int (iI (i + 1))), (2, .int (iI (mTalksAt mS hour (i + 1)))), (0, .ref (h 0)), (1, .int (iI hour))] := lvE (lv_sub (l' := [(3, .int (iI (i + 1))), (2, .int (iI ((mTalksAt mS hour i) + 0))), (0, .ref (h 0)), (1, .int (iI hour))]) hl [0, 1, 2, 3] rfl) (lcE rfl (lcE (congrArg (fun z => Value.int (iI z)) (by unfold mTalksAt; rw [fI_s (by omega)]; unfold mTalksAtS; first | exact (iif_t (by omega)).symm | exact (iif_f (by omega)).symm : (mTalksAt mS hour i) + 0 = mTalksAt mS hour (i + 1))) (lcE rfl (lcE rfl (rfl)))))
          exact ih_4 (i + 1) (by omega) (by omega) (by omega) H locs ls hP hD hS hl
  have hl := lv_sub (l' := [(3, .int (iI 0)), (2, .int (iI (mTalksAt mS hour 0))), (0, .ref (h 0)), (1, .int (iI hour))]) hl [0, 1, 2, 3] rfl
  exact loop_4 (Int.toNat (8 - 0) + 1) 0 (by omega) (by omega) (by omega) H locs ls hP hD hS hl
abbrev r5_freeAt : Room := { frames := 2, cells := 0, slots := 0, locals := 45 }
set_option maxHeartbeats 4000000 in
set_option maxRecDepth 100000 in
theorem k5_freeAt (l : Launch) (D : va_G) (cs : Nat → ClassId) (h : Nat → Nat) (mF : Int → Int) (mS : Int → Int) (mA : Int → Int) (mV : Int → Int) (mT : Int → Int) (mB : Int → Int) (hour : Int) (hI : IM mS) (h1 : 0 ≤ hour ∧ hour < 48) : CI l D cs yX5_freeAt cX5_freeAt 4 .int r5_freeAt 0 0 [.ref (h 0), .int (iI hour)] (wM h cs mF mS mA mV mT mB) (wM h cs mF mS mA mV mT mB) (mskI (fun t => mS (5 + 3 * t + 2) = 1 ∧ mTalkAt mS t hour = -1000004) (8)) := by
  refine CI_start (own := RX5) (by decide) rfl rfl (Nat.le_of_ble_eq_true rfl) ?_
  intro p e s m args below meth c Q A ls hC hl hP hD hA hS hend
  have hl : lv_has ls 4 [(0, .ref (h 0)), (1, .int (iI hour))] := hl
  obtain ⟨H, hH⟩ : ∃ H : Heap, H = s.heap := ⟨_, rfl⟩
  have hS : va_S A s.heap H [] := by rw [hH]; exact hS
  rw [← hH] at hP
  obtain ⟨locs, hlocs⟩ : ∃ locs : List Loc, locs = [] := ⟨_, rfl⟩
  rw [← hlocs] at hS
  suffices hgo : W p l e r5_freeAt s m args below meth c H locs 0 0 Q (F0 m 0 ls []) by rw [← hH, ← hlocs]; exact hgo
  clear hH hlocs
  obtain ⟨z0, z1, -⟩ := id hI
  refine x_ic hC dX5_freeAt_0 ?_
  refine x_is hC [(2, .int (iI 0)), (0, .ref (h 0)), (1, .int (iI hour))] hl dX5_freeAt_1 rfl (by decide) rfl (fun ls hl => ?_)
  refine x_ic hC dX5_freeAt_2 ?_
  refine x_is hC [(3, .int (iI 0)), (2, .int (iI 0)), (0, .ref (h 0)), (1, .int (iI hour))] hl dX5_freeAt_3 rfl (by decide) rfl (fun ls hl => ?_)
  have loop_4 : ∀ (n : Nat) (i : Int), (hi0 : 0 ≤ i) → (hiN : i ≤ 8) → (8 - i) < (n : Int) → ∀ (H : Heap) (locs : List Loc) (ls : Array Slot), va_P D vwCl (wM h cs mF mS mA mV mT mB) H → va_D A (wM h cs mF mS mA mV mT mB) → va_S A s.heap H locs → lv_has ls 4 [(3, .int (iI i)), (2, .int (mskI (fun t => mS (5 + 3 * t + 2) = 1 ∧ mTalkAt mS t hour = -1000004) i)), (0, .ref (h 0)), (1, .int (iI hour))] → W p l e r5_freeAt s m args below meth c H locs 0 0 Q (F0 m 4 ls []) := by
    intro n
    induction n with
    | zero =>
      intro i hi0 hiN hnn
      exfalso; omega
    | succ n ih_4 =>
      intro i hi0 hiN hnn H locs ls hP hD hS hl
      refine x_il hC hl 0 dX5_freeAt_4 rfl rfl ?_
      refine x_bi hC dX5_freeAt_5 (by decide) ?_
      refine x_ic_ge hC 45 dX5_freeAt_7 (by decide) (by omega) (by omega) (fun c_7 => ?_) (fun c_7 => ?_)
      · obtain rfl : i = 8 := by omega
        refine x_il hC hl 1 dX5_freeAt_45 rfl rfl ?_
        exact x_retI (rfl) hend hP hD hS dX5_freeAt_46
      · refine x_il hC hl 1 dX5_freeAt_10 rfl rfl ?_
        refine x_al hC hl 2 dX5_freeAt_11 rfl rfl ?_
        refine x_il hC hl 0 dX5_freeAt_12 rfl rfl ?_
        refine x_vI (As := [.int (iI i)]) hC (k5_isOpen l D cs h mF mS mA mV mT mB i (by first | assumption | omega) (by first | assumption | omega)) lk5_56 (q0 := 0) (ci := 5) rfl rfl rfl (sub_all hP hD hS hA) hP hS rfl hl.1 rfl (Nat.le_of_ble_eq_true rfl) ⟨rfl, rfl⟩ ⟨Nat.le_of_ble_eq_true rfl, Nat.le_of_ble_eq_true rfl⟩ ⟨Nat.le_of_ble_eq_true rfl, Nat.le_of_ble_eq_true rfl⟩ dX5_freeAt_13 (fun H locs hP hD hS hHs => ?_)
        refine x_if_eq_b hC 36 dX5_freeAt_16 (by decide) (fun c_16 => ?_) (fun c_16 => ?_)
        · refine x_ic hC dX5_freeAt_36 ?_
          refine x_ior hC dX5_freeAt_37 (mskI (fun t => mS (5 + 3 * t + 2) = 1 ∧ mTalkAt mS t hour = -1000004) (i + 1)) (by first | exact mskI_t hi0 (by omega) (by grind) | exact mskI_f hi0 (by grind)) ?_
          refine x_is hC [(2, .int (mskI (fun t => mS (5 + 3 * t + 2) = 1 ∧ mTalkAt mS t hour = -1000004) (i + 1))), (3, .int (iI i)), (0, .ref (h 0)), (1, .int (iI hour))] hl dX5_freeAt_38 rfl (by decide) rfl (fun ls hl => ?_)
          refine x_iinc hC [(3, .int (iI (i + 1))), (2, .int (mskI (fun t => mS (5 + 3 * t + 2) = 1 ∧ mTalkAt mS t hour = -1000004) (i + 1))), (0, .ref (h 0)), (1, .int (iI hour))] 1 hl dX5_freeAt_39 rfl (by decide) rfl (fun ls hl => ?_)
          refine x_goto hC 4 dX5_freeAt_42 (by decide) ?_
          have hl := lv_sub (l' := [(3, .int (iI (i + 1))), (2, .int (mskI (fun t => mS (5 + 3 * t + 2) = 1 ∧ mTalkAt mS t hour = -1000004) (i + 1))), (0, .ref (h 0)), (1, .int (iI hour))]) hl [0, 1, 2, 3] rfl
          exact ih_4 (i + 1) (by omega) (by omega) (by omega) H locs ls hP hD hS hl
        · refine x_al hC hl 2 dX5_freeAt_19 rfl rfl ?_
          refine x_il hC hl 0 dX5_freeAt_20 rfl rfl ?_
          refine x_il hC hl 3 dX5_freeAt_21 rfl rfl ?_
          refine x_vI (As := [.int (iI i), .int (iI hour)]) hC (k5_talkAt l D cs h mF mS mA mV mT mB i hour (by first | assumption | omega) (by first | assumption | omega) (by first | assumption | omega)) lk5_143 (q0 := 0) (ci := 5) rfl rfl rfl (sub_all hP hD hS hA) hP hS rfl hl.1 rfl (Nat.le_of_ble_eq_true rfl) ⟨rfl, rfl⟩ ⟨Nat.le_of_ble_eq_true rfl, Nat.le_of_ble_eq_true rfl⟩ ⟨Nat.le_of_ble_eq_true rfl, Nat.le_of_ble_eq_true rfl⟩ dX5_freeAt_22 (fun H locs hP hD hS hHs => ?_)
          have qt := mTalkAt_rg mS i hour (by omega)
          refine x_ldc hC (-1000004) tb_836 (by decide) dX5_freeAt_25 ?_
          refine x_ic_ne hC 36 dX5_freeAt_27 (by decide) (by omega) (by omega) (fun c_27 => ?_) (fun c_27 => ?_)
          · refine x_ic hC dX5_freeAt_36 ?_
            refine x_ior hC dX5_freeAt_37 (mskI (fun t => mS (5 + 3 * t + 2) = 1 ∧ mTalkAt mS t hour = -1000004) (i + 1)) (by first | exact mskI_t hi0 (by omega) (by grind) | exact mskI_f hi0 (by grind)) ?_
            refine x_is hC [(2, .int (mskI (fun t => mS (5 + 3 * t + 2) = 1 ∧ mTalkAt mS t hour = -1000004) (i + 1))), (3, .int (iI i)), (0, .ref (h 0)), (1, .int (iI hour))] hl dX5_freeAt_38 rfl (by decide) rfl (fun ls hl => ?_)
            refine x_iinc hC [(3, .int (iI (i + 1))), (2, .int (mskI (fun t => mS (5 + 3 * t + 2) = 1 ∧ mTalkAt mS t hour = -1000004) (i + 1))), (0, .ref (h 0)), (1, .int (iI hour))] 1 hl dX5_freeAt_39 rfl (by decide) rfl (fun ls hl => ?_)
            refine x_goto hC 4 dX5_freeAt_42 (by decide) ?_
            have hl := lv_sub (l' := [(3, .int (iI (i + 1))), (2, .int (mskI (fun t => mS (5 + 3 * t + 2) = 1 ∧ mTalkAt mS t hour = -1000004) (i + 1))), (0, .ref (h 0)), (1, .int (iI hour))]) hl [0, 1, 2, 3] rfl
            exact ih_4 (i + 1) (by omega) (by omega) (by omega) H locs ls hP hD hS hl
          · refine x_ic hC dX5_freeAt_30 ?_
            refine x_il hC hl 0 dX5_freeAt_31 rfl rfl ?_
            refine x_ishl hC dX5_freeAt_32 (iI 1 <<< (iI i &&& 31)) rfl ?_
            refine x_goto hC 37 dX5_freeAt_33 (by decide) ?_
            refine x_ior hC dX5_freeAt_37 (mskI (fun t => mS (5 + 3 * t + 2) = 1 ∧ mTalkAt mS t hour = -1000004) (i + 1)) (by first | exact mskI_t hi0 (by omega) (by grind) | exact mskI_f hi0 (by grind)) ?_
            refine x_is hC [(2, .int (mskI (fun t => mS (5 + 3 * t + 2) = 1 ∧ mTalkAt mS t hour = -1000004) (i + 1))), (3, .int (iI i)), (0, .ref (h 0)), (1, .int (iI hour))] hl dX5_freeAt_38 rfl (by decide) rfl (fun ls hl => ?_)
            refine x_iinc hC [(3, .int (iI (i + 1))), (2, .int (mskI (fun t => mS (5 + 3 * t + 2) = 1 ∧ mTalkAt mS t hour = -1000004) (i + 1))), (0, .ref (h 0)), (1, .int (iI hour))] 1 hl dX5_freeAt_39 rfl (by decide) rfl (fun ls hl => ?_)
            refine x_goto hC 4 dX5_freeAt_42 (by decide) ?_
            have hl := lv_sub (l' := [(3, .int (iI (i + 1))), (2, .int (mskI (fun t => mS (5 + 3 * t + 2) = 1 ∧ mTalkAt mS t hour = -1000004) (i + 1))), (0, .ref (h 0)), (1, .int (iI hour))]) hl [0, 1, 2, 3] rfl
            exact ih_4 (i + 1) (by omega) (by omega) (by omega) H locs ls hP hD hS hl
  have hl := lv_sub (l' := [(3, .int (iI 0)), (2, .int (mskI (fun t => mS (5 + 3 * t + 2) = 1 ∧ mTalkAt mS t hour = -1000004) 0)), (0, .ref (h 0)), (1, .int (iI hour))]) hl [0, 1, 2, 3] rfl
  exact loop_4 (Int.toNat (8 - 0) + 1) 0 (by omega) (by omega) (by omega) H locs ls hP hD hS hl
abbrev r5_talks : Room := { frames := 1, cells := 0, slots := 0, locals := 22 }
set_option maxHeartbeats 4000000 in
set_option maxRecDepth 100000 in
theorem k5_talks (l : Launch) (D : va_G) (cs : Nat → ClassId) (h : Nat → Nat) (mF : Int → Int) (mS : Int → Int) (mA : Int → Int) (mV : Int → Int) (mT : Int → Int) (mB : Int → Int) (hI : IM mS) : CI l D cs yX5_talks cX5_talks 3 .int r5_talks 0 0 [.ref (h 0)] (wM h cs mF mS mA mV mT mB) (wM h cs mF mS mA mV mT mB) (iI (mTalks mS (mS 1))) := by
  refine CI_start (own := RX5) (by decide) rfl rfl (Nat.le_of_ble_eq_true rfl) ?_
  intro p e s m args below meth c Q A ls hC hl hP hD hA hS hend
  have hl : lv_has ls 3 [(0, .ref (h 0))] := hl
  obtain ⟨H, hH⟩ : ∃ H : Heap, H = s.heap := ⟨_, rfl⟩
  have hS : va_S A s.heap H [] := by rw [hH]; exact hS
  rw [← hH] at hP
  obtain ⟨locs, hlocs⟩ : ∃ locs : List Loc, locs = [] := ⟨_, rfl⟩
  rw [← hlocs] at hS
  suffices hgo : W p l e r5_talks s m args below meth c H locs 0 0 Q (F0 m 0 ls []) by rw [← hH, ← hlocs]; exact hgo
  clear hH hlocs
  obtain ⟨z0, z1, -⟩ := id hI
  refine x_ic hC dX5_talks_0 ?_
  refine x_is hC [(1, .int (iI 0)), (0, .ref (h 0))] hl dX5_talks_1 rfl (by decide) rfl (fun ls hl => ?_)
  refine x_ic hC dX5_talks_2 ?_
  refine x_is hC [(2, .int (iI 0)), (1, .int (iI 0)), (0, .ref (h 0))] hl dX5_talks_3 rfl (by decide) rfl (fun ls hl => ?_)
  have loop_4 : ∀ (n : Nat) (i : Int), (hi0 : 0 ≤ i) → (hiN : i ≤ mS 1) → ((mS 1) - i) < (n : Int) → ∀ (H : Heap) (locs : List Loc) (ls : Array Slot), va_P D vwCl (wM h cs mF mS mA mV mT mB) H → va_D A (wM h cs mF mS mA mV mT mB) → va_S A s.heap H locs → lv_has ls 3 [(2, .int (iI i)), (1, .int (iI (mTalks mS i))), (0, .ref (h 0))] → W p l e r5_talks s m args below meth c H locs 0 0 Q (F0 m 4 ls []) := by
    intro n
    induction n with
    | zero =>
      intro i hi0 hiN hnn
      exfalso; omega
    | succ n ih_4 =>
      intro i hi0 hiN hnn H locs ls hP hD hS hl
      refine x_il hC hl 0 dX5_talks_4 rfl rfl ?_
      refine x_al hC hl 2 dX5_talks_5 rfl rfl ?_
      refine x_get5 (v := .ref (h 1)) hC hP 0 rfl 1 (by decide) tb_620 rfl rfl dX5_talks_6 ?_
      refine x_ic hC dX5_talks_9 ?_
      refine x_iald hC hP 1 rfl (by omega) (by decide) dX5_talks_10 ?_
      refine x_ic_ge hC 38 dX5_talks_11 (by decide) (by omega) (by omega) (fun c_11 => ?_) (fun c_11 => ?_)
      · obtain rfl : i = mS 1 := by omega
        refine x_il hC hl 1 dX5_talks_38 rfl rfl ?_
        exact x_retI (rfl) hend hP hD hS dX5_talks_39
      · refine x_il hC hl 1 dX5_talks_14 rfl rfl ?_
        refine x_al hC hl 2 dX5_talks_15 rfl rfl ?_
        refine x_il hC hl 0 dX5_talks_16 rfl rfl ?_
        refine x_ic hC dX5_talks_17 ?_
        refine x_vI (As := [.int (iI i), .int (iI 3)]) hC (k5_of l D cs h mF mS mA mV mT mB i 3 (by first | assumption | omega) (by first | assumption | omega) (by first | assumption | omega)) lk5_34 (q0 := 0) (ci := 5) rfl rfl rfl (sub_all hP hD hS hA) hP hS rfl hl.1 rfl (Nat.le_of_ble_eq_true rfl) ⟨rfl, rfl⟩ ⟨Nat.le_of_ble_eq_true rfl, Nat.le_of_ble_eq_true rfl⟩ ⟨Nat.le_of_ble_eq_true rfl, Nat.le_of_ble_eq_true rfl⟩ dX5_talks_18 (fun H locs hP hD hS hHs => ?_)
        have q_18 := imB (S := mS) (by assumption) (29 + 4 * i + 3) (by omega)
        refine x_ic hC dX5_talks_21 ?_
        refine x_ic_ne hC 29 dX5_talks_22 (by decide) (by omega) (by omega) (fun c_22 => ?_) (fun c_22 => ?_)
        · refine x_ic hC dX5_talks_29 ?_
          refine x_iadd hC dX5_talks_30 ?_
          refine x_is hC [(1, .int (iI ((mTalks mS i) + 1))), (2, .int (iI i)), (0, .ref (h 0))] hl dX5_talks_31 rfl (by decide) rfl (fun ls hl => ?_)
          refine x_iinc hC [(2, .int (iI (i + 1))), (1, .int (iI ((mTalks mS i) + 1))), (0, .ref (h 0))] 1 hl dX5_talks_32 rfl (by decide) rfl (fun ls hl => ?_)
          refine x_goto hC 4 dX5_talks_35 (by decide) ?_
          have hl : lv_has ls 3 [(2, .int (iI (i + 1))), (1, .int (iI (mTalks mS (i + 1)))), (0, .ref (h 0))] := lvE (lv_sub (l' := [(2, .int (iI (i + 1))), (1, .int (iI ((mTalks mS i) + 1))), (0, .ref (h 0))]) hl [0, 1, 2] rfl) (lcE rfl (lcE (congrArg (fun z => Value.int (iI z)) (by unfold mTalks; rw [fI_s (by omega)]; unfold mTalksS; first | exact (iif_t (by omega)).symm | exact (iif_f (by omega)).symm : (mTalks mS i) + 1 = mTalks mS (i + 1))) (lcE rfl (rfl))))
          exact ih_4 (i + 1) (by omega) (by omega) (by omega) H locs ls hP hD hS hl
        · refine x_ic hC dX5_talks_25 ?_
          refine x_goto hC 30 dX5_talks_26 (by decide) ?_
          refine x_iadd hC dX5_talks_30 ?_
          refine x_is hC [(1, .int (iI ((mTalks mS i) + 0))), (2, .int (iI i)), (0, .ref (h 0))] hl dX5_talks_31 rfl (by decide) rfl (fun ls hl => ?_)
          refine x_iinc hC [(2, .int (iI (i + 1))), (1, .int (iI ((mTalks mS i) + 0))), (0, .ref (h 0))] 1 hl dX5_talks_32 rfl (by decide) rfl (fun ls hl => ?_)
          refine x_goto hC 4 dX5_talks_35 (by decide) ?_
          have hl : lv_has ls 3 [(2, .int (iI (i + 1))), (1, .int (iI (mTalks mS (i + 1)))), (0, .ref (h 0))] := lvE (lv_sub (l' := [(2, .int (iI (i + 1))), (1, .int (iI ((mTalks mS i) + 0))), (0, .ref (h 0))]) hl [0, 1, 2] rfl) (lcE rfl (lcE (congrArg (fun z => Value.int (iI z)) (by unfold mTalks; rw [fI_s (by omega)]; unfold mTalksS; first | exact (iif_t (by omega)).symm | exact (iif_f (by omega)).symm : (mTalks mS i) + 0 = mTalks mS (i + 1))) (lcE rfl (rfl))))
          exact ih_4 (i + 1) (by omega) (by omega) (by omega) H locs ls hP hD hS hl
  have hl := lv_sub (l' := [(2, .int (iI 0)), (1, .int (iI (mTalks mS 0))), (0, .ref (h 0))]) hl [0, 1, 2] rfl
  exact loop_4 (Int.toNat ((mS 1) - 0) + 1) 0 (by omega) (by omega) (by omega) H locs ls hP hD hS hl
abbrev r5_fewest : Room := { frames := 3, cells := 0, slots := 0, locals := 68 }
set_option maxHeartbeats 4000000 in
set_option maxRecDepth 100000 in
theorem k5_fewest (l : Launch) (D : va_G) (cs : Nat → ClassId) (h : Nat → Nat) (mF : Int → Int) (mS : Int → Int) (mA : Int → Int) (mV : Int → Int) (mT : Int → Int) (mB : Int → Int) (hI : IM mS) : CI l D cs yX5_fewest cX5_fewest 3 .int r5_fewest 0 0 [.ref (h 0)] (wM h cs mF mS mA mV mT mB) (wM h cs mF mS mA mV mT mB) (iI (mFew mS 48)) := by
  refine CI_start (own := RX5) (by decide) rfl rfl (Nat.le_of_ble_eq_true rfl) ?_
  intro p e s m args below meth c Q A ls hC hl hP hD hA hS hend
  have hl : lv_has ls 3 [(0, .ref (h 0))] := hl
  obtain ⟨H, hH⟩ : ∃ H : Heap, H = s.heap := ⟨_, rfl⟩
  have hS : va_S A s.heap H [] := by rw [hH]; exact hS
  rw [← hH] at hP
  obtain ⟨locs, hlocs⟩ : ∃ locs : List Loc, locs = [] := ⟨_, rfl⟩
  rw [← hlocs] at hS
  suffices hgo : W p l e r5_fewest s m args below meth c H locs 0 0 Q (F0 m 0 ls []) by rw [← hH, ← hlocs]; exact hgo
  clear hH hlocs
  obtain ⟨z0, z1, -⟩ := id hI
  refine x_ic hC dX5_fewest_0 ?_
  refine x_is hC [(1, .int (iI 0)), (0, .ref (h 0))] hl dX5_fewest_1 rfl (by decide) rfl (fun ls hl => ?_)
  refine x_ic hC dX5_fewest_2 ?_
  refine x_is hC [(2, .int (iI 0)), (1, .int (iI 0)), (0, .ref (h 0))] hl dX5_fewest_3 rfl (by decide) rfl (fun ls hl => ?_)
  have loop_4 : ∀ (n : Nat) (i : Int), (hi0 : 0 ≤ i) → (hiN : i ≤ 48) → (48 - i) < (n : Int) → ∀ (H : Heap) (locs : List Loc) (ls : Array Slot), va_P D vwCl (wM h cs mF mS mA mV mT mB) H → va_D A (wM h cs mF mS mA mV mT mB) → va_S A s.heap H locs → lv_has ls 3 [(2, .int (iI i)), (1, .int (iI (mFew mS i))), (0, .ref (h 0))] → W p l e r5_fewest s m args below meth c H locs 0 0 Q (F0 m 4 ls []) := by
    intro n
    induction n with
    | zero =>
      intro i hi0 hiN hnn
      exfalso; omega
    | succ n ih_4 =>
      intro i hi0 hiN hnn H locs ls hP hD hS hl
      have hx := mFew_rg mS hi0
      refine x_il hC hl 0 dX5_fewest_4 rfl rfl ?_
      refine x_bi hC dX5_fewest_5 (by decide) ?_
      refine x_ic_ge hC 35 dX5_fewest_7 (by decide) (by omega) (by omega) (fun c_7 => ?_) (fun c_7 => ?_)
      · obtain rfl : i = 48 := by omega
        refine x_il hC hl 1 dX5_fewest_35 rfl rfl ?_
        exact x_retI (rfl) hend hP hD hS dX5_fewest_36
      · refine x_al hC hl 2 dX5_fewest_10 rfl rfl ?_
        refine x_il hC hl 0 dX5_fewest_11 rfl rfl ?_
        refine x_vI (As := [.int (iI i)]) hC (k5_talksAt l D cs h mF mS mA mV mT mB i (by first | assumption | omega) (by first | assumption | omega)) lk5_152 (q0 := 0) (ci := 5) rfl rfl rfl (sub_all hP hD hS hA) hP hS rfl hl.1 rfl (Nat.le_of_ble_eq_true rfl) ⟨rfl, rfl⟩ ⟨Nat.le_of_ble_eq_true rfl, Nat.le_of_ble_eq_true rfl⟩ ⟨Nat.le_of_ble_eq_true rfl, Nat.le_of_ble_eq_true rfl⟩ dX5_fewest_12 (fun H locs hP hD hS hHs => ?_)
        have q_12 := mTalksAt_rg mS i (n := 8) (by omega)
        refine x_il hC hl 1 dX5_fewest_15 rfl rfl ?_
        refine x_ic_le hC 27 dX5_fewest_16 (by decide) (by omega) (by omega) (fun c_16 => ?_) (fun c_16 => ?_)
        · refine x_il hC hl 1 dX5_fewest_27 rfl rfl ?_
          refine x_is hC [(1, .int (iI (mFew mS i))), (2, .int (iI i)), (0, .ref (h 0))] hl dX5_fewest_28 rfl (by decide) rfl (fun ls hl => ?_)
          refine x_iinc hC [(2, .int (iI (i + 1))), (1, .int (iI (mFew mS i))), (0, .ref (h 0))] 1 hl dX5_fewest_29 rfl (by decide) rfl (fun ls hl => ?_)
          refine x_goto hC 4 dX5_fewest_32 (by decide) ?_
          have hl : lv_has ls 3 [(2, .int (iI (i + 1))), (1, .int (iI (mFew mS (i + 1)))), (0, .ref (h 0))] := lvE (lv_sub (l' := [(2, .int (iI (i + 1))), (1, .int (iI (mFew mS i))), (0, .ref (h 0))]) hl [0, 1, 2] rfl) (lcE rfl (lcE (congrArg (fun z => Value.int (iI z)) (by rw [mFew_s _ (by omega)]; unfold mFewS; first | exact (iif_t (by assumption)).symm | exact (iif_f (by omega)).symm : mFew mS i = mFew mS (i + 1))) (lcE rfl (rfl))))
          exact ih_4 (i + 1) (by omega) (by omega) (by omega) H locs ls hP hD hS hl
        · refine x_al hC hl 2 dX5_fewest_19 rfl rfl ?_
          refine x_il hC hl 0 dX5_fewest_20 rfl rfl ?_
          refine x_vI (As := [.int (iI i)]) hC (k5_talksAt l D cs h mF mS mA mV mT mB i (by first | assumption | omega) (by first | assumption | omega)) lk5_152 (q0 := 0) (ci := 5) rfl rfl rfl (sub_all hP hD hS hA) hP hS rfl hl.1 rfl (Nat.le_of_ble_eq_true rfl) ⟨rfl, rfl⟩ ⟨Nat.le_of_ble_eq_true rfl, Nat.le_of_ble_eq_true rfl⟩ ⟨Nat.le_of_ble_eq_true rfl, Nat.le_of_ble_eq_true rfl⟩ dX5_fewest_21 (fun H locs hP hD hS hHs => ?_)
          have q_21 := mTalksAt_rg mS i (n := 8) (by omega)
          refine x_goto hC 28 dX5_fewest_24 (by decide) ?_
          refine x_is hC [(1, .int (iI (mTalksAt mS i 8))), (2, .int (iI i)), (0, .ref (h 0))] hl dX5_fewest_28 rfl (by decide) rfl (fun ls hl => ?_)
          refine x_iinc hC [(2, .int (iI (i + 1))), (1, .int (iI (mTalksAt mS i 8))), (0, .ref (h 0))] 1 hl dX5_fewest_29 rfl (by decide) rfl (fun ls hl => ?_)
          refine x_goto hC 4 dX5_fewest_32 (by decide) ?_
          have hl : lv_has ls 3 [(2, .int (iI (i + 1))), (1, .int (iI (mFew mS (i + 1)))), (0, .ref (h 0))] := lvE (lv_sub (l' := [(2, .int (iI (i + 1))), (1, .int (iI (mTalksAt mS i 8))), (0, .ref (h 0))]) hl [0, 1, 2] rfl) (lcE rfl (lcE (congrArg (fun z => Value.int (iI z)) (by rw [mFew_s _ (by omega)]; unfold mFewS; first | exact (iif_t (by assumption)).symm | exact (iif_f (by omega)).symm : mTalksAt mS i 8 = mFew mS (i + 1))) (lcE rfl (rfl))))
          exact ih_4 (i + 1) (by omega) (by omega) (by omega) H locs ls hP hD hS hl
  have hl := lv_sub (l' := [(2, .int (iI 0)), (1, .int (iI (mFew mS 0))), (0, .ref (h 0))]) hl [0, 1, 2] rfl
  exact loop_4 (Int.toNat (48 - 0) + 1) 0 (by omega) (by omega) (by omega) H locs ls hP hD hS hl
abbrev r5_hoursTaken : Room := { frames := 2, cells := 0, slots := 0, locals := 45 }
set_option maxHeartbeats 4000000 in
set_option maxRecDepth 100000 in
theorem k5_hoursTaken (l : Launch) (D : va_G) (cs : Nat → ClassId) (h : Nat → Nat) (mF : Int → Int) (mS : Int → Int) (mA : Int → Int) (mV : Int → Int) (mT : Int → Int) (mB : Int → Int) (hI : IM mS) : CI l D cs yX5_hoursTaken cX5_hoursTaken 3 .int r5_hoursTaken 0 0 [.ref (h 0)] (wM h cs mF mS mA mV mT mB) (wM h cs mF mS mA mV mT mB) (iI (mHours mS 8)) := by
  refine CI_start (own := RX5) (by decide) rfl rfl (Nat.le_of_ble_eq_true rfl) ?_
  intro p e s m args below meth c Q A ls hC hl hP hD hA hS hend
  have hl : lv_has ls 3 [(0, .ref (h 0))] := hl
  obtain ⟨H, hH⟩ : ∃ H : Heap, H = s.heap := ⟨_, rfl⟩
  have hS : va_S A s.heap H [] := by rw [hH]; exact hS
  rw [← hH] at hP
  obtain ⟨locs, hlocs⟩ : ∃ locs : List Loc, locs = [] := ⟨_, rfl⟩
  rw [← hlocs] at hS
  suffices hgo : W p l e r5_hoursTaken s m args below meth c H locs 0 0 Q (F0 m 0 ls []) by rw [← hH, ← hlocs]; exact hgo
  clear hH hlocs
  obtain ⟨z0, z1, -⟩ := id hI
  refine x_ic hC dX5_hoursTaken_0 ?_
  refine x_is hC [(1, .int (iI 0)), (0, .ref (h 0))] hl dX5_hoursTaken_1 rfl (by decide) rfl (fun ls hl => ?_)
  refine x_ic hC dX5_hoursTaken_2 ?_
  refine x_is hC [(2, .int (iI 0)), (1, .int (iI 0)), (0, .ref (h 0))] hl dX5_hoursTaken_3 rfl (by decide) rfl (fun ls hl => ?_)
  have loop_4 : ∀ (n : Nat) (i : Int), (hi0 : 0 ≤ i) → (hiN : i ≤ 8) → (8 - i) < (n : Int) → ∀ (H : Heap) (locs : List Loc) (ls : Array Slot), va_P D vwCl (wM h cs mF mS mA mV mT mB) H → va_D A (wM h cs mF mS mA mV mT mB) → va_S A s.heap H locs → lv_has ls 3 [(2, .int (iI i)), (1, .int (iI (mHours mS i))), (0, .ref (h 0))] → W p l e r5_hoursTaken s m args below meth c H locs 0 0 Q (F0 m 4 ls []) := by
    intro n
    induction n with
    | zero =>
      intro i hi0 hiN hnn
      exfalso; omega
    | succ n ih_4 =>
      intro i hi0 hiN hnn H locs ls hP hD hS hl
      refine x_il hC hl 0 dX5_hoursTaken_4 rfl rfl ?_
      refine x_bi hC dX5_hoursTaken_5 (by decide) ?_
      refine x_ic_ge hC 24 dX5_hoursTaken_7 (by decide) (by omega) (by omega) (fun c_7 => ?_) (fun c_7 => ?_)
      · obtain rfl : i = 8 := by omega
        refine x_il hC hl 1 dX5_hoursTaken_24 rfl rfl ?_
        exact x_retI (rfl) hend hP hD hS dX5_hoursTaken_25
      · refine x_il hC hl 1 dX5_hoursTaken_10 rfl rfl ?_
        refine x_al hC hl 2 dX5_hoursTaken_11 rfl rfl ?_
        refine x_il hC hl 0 dX5_hoursTaken_12 rfl rfl ?_
        refine x_vI (As := [.int (iI i)]) hC (k5_taken l D cs h mF mS mA mV mT mB i (by first | assumption | omega) (by first | assumption | omega)) lk5_48 (q0 := 0) (ci := 5) rfl rfl rfl (sub_all hP hD hS hA) hP hS rfl hl.1 rfl (Nat.le_of_ble_eq_true rfl) ⟨rfl, rfl⟩ ⟨Nat.le_of_ble_eq_true rfl, Nat.le_of_ble_eq_true rfl⟩ ⟨Nat.le_of_ble_eq_true rfl, Nat.le_of_ble_eq_true rfl⟩ dX5_hoursTaken_13 (fun H locs hP hD hS hHs => ?_)
        have q_13 := mTaken_rg (S := mS) (by assumption) i (n := mS 1) (by omega) (by omega)
        refine x_iadd hC dX5_hoursTaken_16 ?_
        refine x_is hC [(1, .int (iI ((mHours mS i) + (mTaken mS i (mS 1))))), (2, .int (iI i)), (0, .ref (h 0))] hl dX5_hoursTaken_17 rfl (by decide) rfl (fun ls hl => ?_)
        refine x_iinc hC [(2, .int (iI (i + 1))), (1, .int (iI ((mHours mS i) + (mTaken mS i (mS 1))))), (0, .ref (h 0))] 1 hl dX5_hoursTaken_18 rfl (by decide) rfl (fun ls hl => ?_)
        refine x_goto hC 4 dX5_hoursTaken_21 (by decide) ?_
        have hl : lv_has ls 3 [(2, .int (iI (i + 1))), (1, .int (iI (mHours mS (i + 1)))), (0, .ref (h 0))] := lvE (lv_sub (l' := [(2, .int (iI (i + 1))), (1, .int (iI ((mHours mS i) + (mTaken mS i (mS 1))))), (0, .ref (h 0))]) hl [0, 1, 2] rfl) (lcE rfl (lcE (congrArg (fun z => Value.int (iI z)) (by unfold mHours; rw [fI_s (by omega)] : (mHours mS i) + (mTaken mS i (mS 1)) = mHours mS (i + 1))) (lcE rfl (rfl))))
        exact ih_4 (i + 1) (by omega) (by omega) (by omega) H locs ls hP hD hS hl
  have hl := lv_sub (l' := [(2, .int (iI 0)), (1, .int (iI (mHours mS 0))), (0, .ref (h 0))]) hl [0, 1, 2] rfl
  exact loop_4 (Int.toNat (8 - 0) + 1) 0 (by omega) (by omega) (by omega) H locs ls hP hD hS hl
