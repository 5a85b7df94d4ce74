theorem lk5_68 : LkV RX5 68 yX5_gets cX5_gets 9 (some .int) 4 := ⟨tb_687, tb_684, tb_686, tb_29, tb_76, by decide +kernel⟩
theorem lk5_74 : LkV RX5 74 yX5_opens cX5_opens 2 none 1 := ⟨tb_733, tb_730, tb_732, tb_40, tb_76, by decide +kernel⟩
theorem lk5_93 : LkS RX5 93 yX5_isRoom cX5_isRoom 1 (some .boolean) 1 := ⟨tb_752, tb_750, tb_751, tb_76, by decide +kernel⟩
/-! the reference's writers -/
theorem IM_hi {S : Int → Int} (h : IM S) {i v : Int} (hi : 5 ≤ i ∧ i < 109) (hv : -1 ≤ v ∧ v ≤ 99) : IM (u1 S i v) := by
  refine ⟨?_, ?_, fun j h1 h2 => ?_⟩
  · rw [u1_n (by omega)]; exact h.1
  · rw [u1_n (by omega)]; exact h.2.1
  · unfold u1; split
    · exact hv
    · exact h.2.2 j h1 h2
theorem IM_lo {S : Int → Int} (h : IM S) {i v : Int} (hi : 2 ≤ i ∧ i < 5) : IM (u1 S i v) := by
  refine ⟨?_, ?_, fun j h1 h2 => ?_⟩
  · rw [u1_n (by omega)]; exact h.1
  · rw [u1_n (by omega)]; exact h.2.1
  · rw [u1_n (by omega)]; exact h.2.2 j h1 h2
theorem IM_1 {S : Int → Int} (h : IM S) {v : Int} (hv : 0 ≤ v ∧ v ≤ 20) : IM (u1 S 1 v) := by
  refine ⟨?_, ?_, fun j h1 h2 => ?_⟩
  · rw [u1_n (by omega)]; exact h.1
  · rw [u1_s]; exact hv
  · rw [u1_n (by omega)]; exact h.2.2 j h1 h2
theorem IM_0 {S : Int → Int} (h : IM S) {v : Int} (hv : 0 ≤ v ∧ v ≤ 3) : IM (u1 S 0 v) := by
  refine ⟨?_, ?_, fun j h1 h2 => ?_⟩
  · rw [u1_s]; exact hv
  · rw [u1_n (by omega)]; exact h.2.1
  · rw [u1_n (by omega)]; exact h.2.2 j h1 h2
theorem IM_ex {S S' : Int → Int} (h : IM S) (he : ∀ j, 0 ≤ j → j < 109 → S' j = S j) : IM S' := ⟨by rw [he 0 (by omega) (by omega)]; exact h.1, by rw [he 1 (by omega) (by omega)]; exact h.2.1, fun j h1 h2 => by rw [he j (by omega) h2]; exact h.2.2 j h1 h2⟩
def mOp1 (S : Int → Int) (r : Int) : Int → Int := u1 S (5 + 3 * r + 2) 1
def mOp2 (S : Int → Int) (r : Int) : Int → Int := u1 (mOp1 S r) 2 (mOp1 S r 2 + 1)
def mOp3 (S : Int → Int) (r : Int) : Int → Int := u1 (mOp2 S r) 3 (mOp2 S r 3 + mOp2 S r (5 + 3 * r + 1))
noncomputable def mOpens (S : Int → Int) (r : Int) : Int → Int := iif (S (5 + 3 * r + 2) = 1) S (mOp3 S r)
theorem IM_op2 {S : Int → Int} (h : IM S) {r : Int} (hr : 0 ≤ r ∧ r < 8) : IM (mOp2 S r) := IM_lo (IM_hi h (by omega) (by omega)) (by omega)
theorem IM_opens {S : Int → Int} (h : IM S) {r : Int} (hr : 0 ≤ r ∧ r < 8) : IM (mOpens S r) := by
  unfold mOpens iif
  split
  · exact h
  · exact IM_lo (IM_op2 h hr) (by omega)
noncomputable def mRefT (S : Int → Int) (f e z : Int) : Int := iif ((0 ≤ f ∧ f ≤ 47) ∧ (f + 1 ≤ e ∧ e ≤ 48) ∧ (1 ≤ z ∧ z ≤ 9)) (iif (mGets S f e z (S 0) = -1) (-1000002) (iif (S 1 = 20) (-1000003) 0)) (-1000001)
def mTel (S : Int → Int) (f e z r : Int) : Int → Int := u1 (u1 (u1 (u1 S (29 + 4 * S 1 + 0) f) (29 + 4 * S 1 + 1) e) (29 + 4 * S 1 + 2) z) (29 + 4 * S 1 + 3) r
def mTel1 (S : Int → Int) (f e z r : Int) : Int → Int := u1 (mTel S f e z r) 1 (mTel S f e z r 1 + 1)
noncomputable def mTells (S : Int → Int) (f e z : Int) : Int → Int := mOpens (mTel1 S f e z (mGets S f e z (S 0))) (mGets S f e z (S 0))
theorem IM_tel {S : Int → Int} (h : IM S) {f e z r : Int} (h1 : S 1 < 20) (hf : -1 ≤ f ∧ f ≤ 99) (he : -1 ≤ e ∧ e ≤ 99) (hz : -1 ≤ z ∧ z ≤ 99) (hr : -1 ≤ r ∧ r ≤ 99) : IM (mTel1 S f e z r) := by
  have hc := h.2.1
  have h2 : IM (mTel S f e z r) := IM_hi (IM_hi (IM_hi (IM_hi h (by omega) hf) (by omega) he) (by omega) hz) (by omega) hr
  refine IM_1 h2 ?_
  have e1 : mTel S f e z r 1 = S 1 := by
    unfold mTel
    rw [u1_n (by omega), u1_n (by omega), u1_n (by omega), u1_n (by omega)]
  rw [e1]; omega
theorem IM_tells {S : Int → Int} (h : IM S) {f e z : Int} (h1 : S 1 < 20) (hf : -1 ≤ f ∧ f ≤ 99) (he : -1 ≤ e ∧ e ≤ 99) (hz : -1 ≤ z ∧ z ≤ 99) (hg : ¬ mGets S f e z (S 0) = -1) : IM (mTells S f e z) := by
  have := mGets_rg S f e z (S 0)
  exact IM_opens (IM_tel h h1 hf he hz (by omega)) (by omega)
def mWith1 (S : Int → Int) (t : Int) : Int → Int := u1 S (29 + 4 * t + 3) (-1)
def mWith (S : Int → Int) (t : Int) : Int → Int := u1 (mWith1 S t) 4 (mWith1 S t 4 + 1)
theorem IM_with {S : Int → Int} (h : IM S) {t : Int} (ht : 0 ≤ t ∧ t < 20) : IM (mWith S t) := IM_lo (IM_hi h (by omega) (by omega)) (by omega)
noncomputable def mRefR (S : Int → Int) (r z p : Int) : Int := iif ((0 ≤ r ∧ r ≤ 7) ∧ (1 ≤ z ∧ z ≤ 9) ∧ (1 ≤ p ∧ p ≤ 99)) (iif (S (5 + 3 * r + 2) = 1) (-1000002) 0) (-1000001)
def mLay (S : Int → Int) (r z p : Int) : Int → Int := u1 (u1 S (5 + 3 * r + 0) z) (5 + 3 * r + 1) p
theorem IM_lay {S : Int → Int} (h : IM S) {r z p : Int} (hr : 0 ≤ r ∧ r < 8) (hz : -1 ≤ z ∧ z ≤ 99) (hp : -1 ≤ p ∧ p ≤ 99) : IM (mLay S r z p) := IM_hi (IM_hi h (by omega) hz) (by omega) hp
def mShift (V : Int → Int) : Int → Int := fI (fun k v => u1 v k (v (k + 109))) V 327
def mPut (S : Int → Int) (n : Int) (V : Int → Int) : Int → Int := fI (fun k v => u1 v (109 * n + k) (S k)) V 109
noncomputable def mRecF (F : Int → Int) : Int → Int := iif (F 4 = 4) (u1 (u1 F 4 (F 4 - 1)) 4 (F 4 - 1 + 1)) (u1 F 4 (F 4 + 1))
noncomputable def mRecV (F S V : Int → Int) : Int → Int := iif (F 4 = 4) (mPut S (F 4 - 1) (mShift V)) (mPut S (F 4) V)
def mCopy (X Y : Int → Int) : Int → Int := fI (fun k a => u1 a k (X k)) Y 109
theorem mCopy_in (X Y : Int → Int) {j : Int} (h0 : 0 ≤ j) (h1 : j < 109) : mCopy X Y j = X j := by
  refine fI_ind (fun n (a : Int → Int) => ∀ j : Int, 0 ≤ j → j < n → a j = X j) (fun j h h2 => by omega) (fun i x hi hin hx j h h2 => ?_) (by omega : (0:Int) ≤ 109) j h0 h1
  unfold u1
  split
  · subst j; rfl
  · exact hx j h (by omega)
theorem mCopy_out (X Y : Int → Int) {j : Int} (h : j < 0 ∨ 109 ≤ j) : mCopy X Y j = Y j := by
  refine fI_ind (fun n (a : Int → Int) => ∀ j : Int, (j < 0 ∨ 109 ≤ j) → a j = Y j) (fun j h => rfl) (fun i x hi hin hx j h => ?_) (by omega : (0:Int) ≤ 109) j h
  rw [u1_n (by omega)]
  exact hx j h
theorem mCopy_back {S A X : Int → Int} (hX : ∀ j, (j < 0 ∨ 109 ≤ j) → X j = S j) : mCopy (mCopy S A) X = S := by
  funext j
  by_cases h : 0 ≤ j ∧ j < 109
  · rw [mCopy_in _ _ h.1 h.2, mCopy_in _ _ h.1 h.2]
  · rw [mCopy_out _ _ (by omega), hX j (by omega)]
theorem IM_copy {X Y : Int → Int} (h : IM X) : IM (mCopy X Y) := IM_ex h (fun j h1 h2 => mCopy_in X Y h1 h2)

abbrev r5_opens : Room := { frames := 2, cells := 0, slots := 0, locals := 43 }
set_option maxHeartbeats 4000000 in
set_option maxRecDepth 100000 in
theorem k5_opens (l : Launch) (D : va_G) (cs : Nat → ClassId) (h : Nat → Nat) (mF : Int → Int) (mS : Int → Int) (mA : Int → Int) (mV : Int → Int) (mT : Int → Int) (mB : Int → Int) (room : Int) (hI : IM mS) (h1 : 0 ≤ room ∧ room < 8) : CV l D cs yX5_opens cX5_opens 2 r5_opens 0 0 [.ref (h 0), .int (iI room)] (wM h cs mF mS mA mV mT mB) (wM h cs mF (mOpens mS room) mA mV mT mB) := by
  refine CV_start (own := RX5) (by decide) rfl (Nat.le_of_ble_eq_true rfl) ?_
  intro p e s m args below meth c Q A ls hC hl hP hD hA hS hname hend
  have hl : lv_has ls 2 [(0, .ref (h 0)), (1, .int (iI room))] := hl
  obtain ⟨H, hH⟩ : ∃ H : Heap, H = s.heap := ⟨_, rfl⟩
  have hS : va_S A s.heap H [] := by rw [hH]; exact hS
  rw [← hH] at hP
  obtain ⟨locs, hlocs⟩ : ∃ locs : List Loc, locs = [] := ⟨_, rfl⟩
  rw [← hlocs] at hS
  suffices hgo : W p l e r5_opens s m args below meth c H locs 0 0 Q (F0 m 0 ls []) by rw [← hH, ← hlocs]; exact hgo
  clear hH hlocs
  obtain ⟨z0, z1, -⟩ := id hI
  refine x_al hC hl 0 dX5_opens_0 rfl rfl ?_
  refine x_il hC hl 1 dX5_opens_1 rfl rfl ?_
  refine x_vI (As := [.int (iI room)]) hC (k5_isOpen l D cs h mF mS mA mV mT mB room (by first | assumption | omega) (by first | assumption | omega)) lk5_56 (q0 := 0) (ci := 5) rfl rfl rfl (sub_all hP hD hS hA) hP hS rfl hl.1 rfl (Nat.le_of_ble_eq_true rfl) ⟨rfl, rfl⟩ ⟨Nat.le_of_ble_eq_true rfl, Nat.le_of_ble_eq_true rfl⟩ ⟨Nat.le_of_ble_eq_true rfl, Nat.le_of_ble_eq_true rfl⟩ dX5_opens_2 (fun H locs hP hD hS hHs => ?_)
  refine x_if_ne_b hC 46 dX5_opens_5 (by decide) (fun c_5 => ?_) (fun c_5 => ?_)
  · have ew : (wM h cs mF mS mA mV mT mB) = (wM h cs mF (mOpens mS room) mA mV mT mB) := (wMc rfl (by first | exact (iif_t c_5).symm | exact (iif_f c_5).symm : mS = mOpens mS room) rfl rfl rfl rfl)
    have hP := vPe hP ew
    have hD := vDe hD ew
    exact hend H locs 46 ls hP hD hS dX5_opens_46
  · refine x_al hC hl 0 dX5_opens_8 rfl rfl ?_
    refine x_get5 (v := .ref (h 1)) hC hP 0 rfl 1 (by decide) tb_620 rfl rfl dX5_opens_9 ?_
    refine x_ic hC dX5_opens_12 ?_
    refine x_ic hC dX5_opens_13 ?_
    refine x_il hC hl 1 dX5_opens_14 rfl rfl ?_
    refine x_imul hC dX5_opens_15 ?_
    refine x_iadd hC dX5_opens_16 ?_
    refine x_ic hC dX5_opens_17 ?_
    refine x_iadd hC dX5_opens_18 ?_
    refine x_ic hC dX5_opens_19 ?_
    refine x_iast hC hP hD hS 1 rfl (by omega) (by decide) dX5_opens_20 (fun H locs hP hD hS => ?_)
    have hP : va_P D vwCl (wM h cs mF (u1 mS ((5 + (3 * room)) + 2) 1) mA mV mT mB) H := hP
    have hD : va_D A (wM h cs mF (u1 mS ((5 + (3 * room)) + 2) 1) mA mV mT mB) := hD
    refine x_al hC hl 0 dX5_opens_21 rfl rfl ?_
    refine x_get5 (v := .ref (h 1)) hC hP 0 rfl 1 (by decide) tb_620 rfl rfl dX5_opens_22 ?_
    refine x_ic hC dX5_opens_25 ?_
    refine x_dup2 hC dX5_opens_26 rfl rfl ?_
    refine x_iald hC hP 1 rfl (by omega) (by decide) dX5_opens_27 ?_
    refine x_ic hC dX5_opens_28 ?_
    refine x_iadd hC dX5_opens_29 ?_
    refine x_iast hC hP hD hS 1 rfl (by omega) (by decide) dX5_opens_30 (fun H locs hP hD hS => ?_)
    have hP : va_P D vwCl (wM h cs mF (u1 (u1 mS ((5 + (3 * room)) + 2) 1) 2 (((u1 mS ((5 + (3 * room)) + 2) 1) 2) + 1)) mA mV mT mB) H := hP
    have hD : va_D A (wM h cs mF (u1 (u1 mS ((5 + (3 * room)) + 2) 1) 2 (((u1 mS ((5 + (3 * room)) + 2) 1) 2) + 1)) mA mV mT mB) := hD
    refine x_al hC hl 0 dX5_opens_31 rfl rfl ?_
    refine x_get5 (v := .ref (h 1)) hC hP 0 rfl 1 (by decide) tb_620 rfl rfl dX5_opens_32 ?_
    refine x_ic hC dX5_opens_35 ?_
    refine x_dup2 hC dX5_opens_36 rfl rfl ?_
    refine x_iald hC hP 1 rfl (by omega) (by decide) dX5_opens_37 ?_
    have hI2 : IM ((u1 (u1 mS ((5 + (3 * room)) + 2) 1) 2 (((u1 mS ((5 + (3 * room)) + 2) 1) 2) + 1))) := IM_op2 hI (by omega)
    refine x_al hC hl 0 dX5_opens_38 rfl rfl ?_
    refine x_il hC hl 1 dX5_opens_39 rfl rfl ?_
    refine x_ic hC dX5_opens_40 ?_
    refine x_vI (As := [.int (iI room), .int (iI 1)]) hC (k5_room0 l D cs h mF (u1 (u1 mS ((5 + (3 * room)) + 2) 1) 2 (((u1 mS ((5 + (3 * room)) + 2) 1) 2) + 1)) mA mV mT mB room 1 (by first | assumption | omega) (by first | assumption | omega) (by first | assumption | omega)) lk5_38 (q0 := 0) (ci := 5) rfl rfl rfl (sub_all hP hD hS hA) hP hS rfl hl.1 rfl (Nat.le_of_ble_eq_true rfl) ⟨rfl, rfl⟩ ⟨Nat.le_of_ble_eq_true rfl, Nat.le_of_ble_eq_true rfl⟩ ⟨Nat.le_of_ble_eq_true rfl, Nat.le_of_ble_eq_true rfl⟩ dX5_opens_41 (fun H locs hP hD hS hHs => ?_)
    have q_41 := imB (S := (u1 (u1 mS ((5 + (3 * room)) + 2) 1) 2 (((u1 mS ((5 + (3 * room)) + 2) 1) 2) + 1))) (by assumption) (5 + 3 * room + 1) (by omega)
    refine x_iadd hC dX5_opens_44 ?_
    refine x_iast hC hP hD hS 1 rfl (by omega) (by decide) dX5_opens_45 (fun H locs hP hD hS => ?_)
    have hP : va_P D vwCl (wM h cs mF (u1 (u1 (u1 mS ((5 + (3 * room)) + 2) 1) 2 (((u1 mS ((5 + (3 * room)) + 2) 1) 2) + 1)) 3 (((u1 (u1 mS ((5 + (3 * room)) + 2) 1) 2 (((u1 mS ((5 + (3 * room)) + 2) 1) 2) + 1)) 3) + ((u1 (u1 mS ((5 + (3 * room)) + 2) 1) 2 (((u1 mS ((5 + (3 * room)) + 2) 1) 2) + 1)) (5 + 3 * room + 1)))) mA mV mT mB) H := hP
    have hD : va_D A (wM h cs mF (u1 (u1 (u1 mS ((5 + (3 * room)) + 2) 1) 2 (((u1 mS ((5 + (3 * room)) + 2) 1) 2) + 1)) 3 (((u1 (u1 mS ((5 + (3 * room)) + 2) 1) 2 (((u1 mS ((5 + (3 * room)) + 2) 1) 2) + 1)) 3) + ((u1 (u1 mS ((5 + (3 * room)) + 2) 1) 2 (((u1 mS ((5 + (3 * room)) + 2) 1) 2) + 1)) (5 + 3 * room + 1)))) mA mV mT mB) := hD
    have ew_2 : (wM h cs mF (u1 (u1 (u1 mS ((5 + (3 * room)) + 2) 1) 2 (((u1 mS ((5 + (3 * room)) + 2) 1) 2) + 1)) 3 (((u1 (u1 mS ((5 + (3 * room)) + 2) 1) 2 (((u1 mS ((5 + (3 * room)) + 2) 1) 2) + 1)) 3) + ((u1 (u1 mS ((5 + (3 * room)) + 2) 1) 2 (((u1 mS ((5 + (3 * room)) + 2) 1) 2) + 1)) (5 + 3 * room + 1)))) mA mV mT mB) = (wM h cs mF (mOpens mS room) mA mV mT mB) := (wMc rfl (by first | exact (iif_t c_5).symm | exact (iif_f c_5).symm : u1 (u1 (u1 mS ((5 + (3 * room)) + 2) 1) 2 (((u1 mS ((5 + (3 * room)) + 2) 1) 2) + 1)) 3 (((u1 (u1 mS ((5 + (3 * room)) + 2) 1) 2 (((u1 mS ((5 + (3 * room)) + 2) 1) 2) + 1)) 3) + ((u1 (u1 mS ((5 + (3 * room)) + 2) 1) 2 (((u1 mS ((5 + (3 * room)) + 2) 1) 2) + 1)) (5 + 3 * room + 1))) = mOpens mS room) rfl rfl rfl rfl)
    have hP := vPe hP ew_2
    have hD := vDe hD ew_2
    exact hend H locs 46 ls hP hD hS dX5_opens_46
abbrev r5_refusesTalk : Room := { frames := 4, cells := 0, slots := 0, locals := 98 }
set_option maxHeartbeats 4000000 in
set_option maxRecDepth 100000 in
theorem k5_refusesTalk (l : Launch) (D : va_G) (cs : Nat → ClassId) (h : Nat → Nat) (mF : Int → Int) (mS : Int → Int) (mA : Int → Int) (mV : Int → Int) (mT : Int → Int) (mB : Int → Int) (first : Int) (en : Int) (size : Int) (hI : IM mS) (g_first : -2147483648 ≤ first ∧ first ≤ 2147483647) (g_en : -2147483648 ≤ en ∧ en ≤ 2147483647) (g_size : -2147483648 ≤ size ∧ size ≤ 2147483647) : CI l D cs yX5_refusesTalk cX5_refusesTalk 4 .int r5_refusesTalk 0 0 [.ref (h 0), .int (iI first), .int (iI en), .int (iI size)] (wM h cs mF mS mA mV mT mB) (wM h cs mF mS mA mV mT mB) (iI (mRefT mS first en size)) := by
  refine CI_start (own := RX5) (by decide) rfl rfl (Nat.le_of_ble_eq_true rfl) ?_
  intro p e s m args below meth c Q A ls hC hl hP hD hA hS hend
  have hl : lv_has ls 4 [(0, .ref (h 0)), (1, .int (iI first)), (2, .int (iI en)), (3, .int (iI size))] := hl
  obtain ⟨H, hH⟩ : ∃ H : Heap, H = s.heap := ⟨_, rfl⟩
  have hS : va_S A s.heap H [] := by rw [hH]; exact hS
  rw [← hH] at hP
  obtain ⟨locs, hlocs⟩ : ∃ locs : List Loc, locs = [] := ⟨_, rfl⟩
  rw [← hlocs] at hS
  suffices hgo : W p l e r5_refusesTalk s m args below meth c H locs 0 0 Q (F0 m 0 ls []) by rw [← hH, ← hlocs]; exact hgo
  clear hH hlocs
  obtain ⟨z0, z1, -⟩ := id hI
  refine x_il hC hl 1 dX5_refusesTalk_0 rfl rfl ?_
  refine x_ic hC dX5_refusesTalk_1 ?_
  refine x_bi hC dX5_refusesTalk_2 (by decide) ?_
  refine x_sI (As := [.int (iI first), .int (iI 0), .int (iI 47)]) hC (k5_in l D cs first 0 47 (by first | assumption | omega) (by first | assumption | omega) (by first | assumption | omega)) lk5_30 (sub_none hP hD hS hA) hP hS rfl hl.1 rfl (Nat.le_of_ble_eq_true rfl) ⟨rfl, rfl⟩ ⟨Nat.le_of_ble_eq_true rfl, Nat.le_of_ble_eq_true rfl⟩ ⟨Nat.le_of_ble_eq_true rfl, Nat.le_of_ble_eq_true rfl⟩ dX5_refusesTalk_4 (fun H locs hP hD hS hHs => ?_)
  refine x_if_eq_b hC 32 dX5_refusesTalk_7 (by decide) (fun c_7 => ?_) (fun c_7 => ?_)
  · refine x_ldc hC (-1000001) tb_683 (by decide) dX5_refusesTalk_32 ?_
    exact x_retI (congrArg iI (by unfold mRefT; first | exact (iif_f (by omega)).symm | (rw [iif_t (by omega)]; first | exact (iif_t (by assumption)).symm | (rw [iif_f (by assumption)]; first | exact (iif_t (by assumption)).symm | exact (iif_f (by assumption)).symm)) : (-1000001) = mRefT mS first en size)) hend hP hD hS dX5_refusesTalk_34
  · refine x_il hC hl 2 dX5_refusesTalk_10 rfl rfl ?_
    refine x_il hC hl 1 dX5_refusesTalk_11 rfl rfl ?_
    refine x_ic hC dX5_refusesTalk_12 ?_
    refine x_iadd hC dX5_refusesTalk_13 ?_
    refine x_bi hC dX5_refusesTalk_14 (by decide) ?_
    refine x_sI (As := [.int (iI en), .int (iI (first + 1)), .int (iI 48)]) hC (k5_in l D cs en (first + 1) 48 (by first | assumption | omega) (by first | assumption | omega) (by first | assumption | omega)) lk5_30 (sub_none hP hD hS hA) hP hS rfl hl.1 rfl (Nat.le_of_ble_eq_true rfl) ⟨rfl, rfl⟩ ⟨Nat.le_of_ble_eq_true rfl, Nat.le_of_ble_eq_true rfl⟩ ⟨Nat.le_of_ble_eq_true rfl, Nat.le_of_ble_eq_true rfl⟩ dX5_refusesTalk_16 (fun H locs hP hD hS hHs => ?_)
    refine x_if_eq_b hC 32 dX5_refusesTalk_19 (by decide) (fun c_19 => ?_) (fun c_19 => ?_)
    · refine x_ldc hC (-1000001) tb_683 (by decide) dX5_refusesTalk_32 ?_
      exact x_retI (congrArg iI (by unfold mRefT; first | exact (iif_f (by omega)).symm | (rw [iif_t (by omega)]; first | exact (iif_t (by assumption)).symm | (rw [iif_f (by assumption)]; first | exact (iif_t (by assumption)).symm | exact (iif_f (by assumption)).symm)) : (-1000001) = mRefT mS first en size)) hend hP hD hS dX5_refusesTalk_34
    · refine x_il hC hl 3 dX5_refusesTalk_22 rfl rfl ?_
      refine x_ic hC dX5_refusesTalk_23 ?_
      refine x_bi hC dX5_refusesTalk_24 (by decide) ?_
      refine x_sI (As := [.int (iI size), .int (iI 1), .int (iI 9)]) hC (k5_in l D cs size 1 9 (by first | assumption | omega) (by first | assumption | omega) (by first | assumption | omega)) lk5_30 (sub_none hP hD hS hA) hP hS rfl hl.1 rfl (Nat.le_of_ble_eq_true rfl) ⟨rfl, rfl⟩ ⟨Nat.le_of_ble_eq_true rfl, Nat.le_of_ble_eq_true rfl⟩ ⟨Nat.le_of_ble_eq_true rfl, Nat.le_of_ble_eq_true rfl⟩ dX5_refusesTalk_26 (fun H locs hP hD hS hHs => ?_)
      refine x_if_ne_b hC 35 dX5_refusesTalk_29 (by decide) (fun c_29 => ?_) (fun c_29 => ?_)
      · refine x_al hC hl 0 dX5_refusesTalk_35 rfl rfl ?_
        refine x_il hC hl 1 dX5_refusesTalk_36 rfl rfl ?_
        refine x_il hC hl 2 dX5_refusesTalk_37 rfl rfl ?_
        refine x_il hC hl 3 dX5_refusesTalk_38 rfl rfl ?_
        refine x_al hC hl 0 dX5_refusesTalk_39 rfl rfl ?_
        refine x_get5 (v := .ref (h 1)) hC hP 0 rfl 1 (by decide) tb_620 rfl rfl dX5_refusesTalk_40 ?_
        refine x_ic hC dX5_refusesTalk_43 ?_
        refine x_iald hC hP 1 rfl (by omega) (by decide) dX5_refusesTalk_44 ?_
        refine x_vI (As := [.int (iI first), .int (iI en), .int (iI size), .int (iI (mS 0))]) hC (k5_gets l D cs h mF mS mA mV mT mB first en size (mS 0) (by first | assumption | omega) (by first | assumption | omega) (by first | assumption | omega) (by first | assumption | omega) (by first | assumption | omega)) lk5_68 (q0 := 0) (ci := 5) rfl rfl rfl (sub_all hP hD hS hA) hP hS rfl hl.1 rfl (Nat.le_of_ble_eq_true rfl) ⟨rfl, rfl⟩ ⟨Nat.le_of_ble_eq_true rfl, Nat.le_of_ble_eq_true rfl⟩ ⟨Nat.le_of_ble_eq_true rfl, Nat.le_of_ble_eq_true rfl⟩ dX5_refusesTalk_45 (fun H locs hP hD hS hHs => ?_)
        have q_45 := mGets_rg mS first en size (mS 0)
        refine x_ic hC dX5_refusesTalk_48 ?_
        refine x_ic_ne hC 55 dX5_refusesTalk_49 (by decide) (by omega) (by omega) (fun c_49 => ?_) (fun c_49 => ?_)
        · refine x_al hC hl 0 dX5_refusesTalk_55 rfl rfl ?_
          refine x_get5 (v := .ref (h 1)) hC hP 0 rfl 1 (by decide) tb_620 rfl rfl dX5_refusesTalk_56 ?_
          refine x_ic hC dX5_refusesTalk_59 ?_
          refine x_iald hC hP 1 rfl (by omega) (by decide) dX5_refusesTalk_60 ?_
          refine x_bi hC dX5_refusesTalk_61 (by decide) ?_
          refine x_ic_ne hC 71 dX5_refusesTalk_63 (by decide) (by omega) (by omega) (fun c_63 => ?_) (fun c_63 => ?_)
          · refine x_ic hC dX5_refusesTalk_71 ?_
            exact x_retI (congrArg iI (by unfold mRefT; first | exact (iif_f (by omega)).symm | (rw [iif_t (by omega)]; first | exact (iif_t (by assumption)).symm | (rw [iif_f (by assumption)]; first | exact (iif_t (by assumption)).symm | exact (iif_f (by assumption)).symm)) : 0 = mRefT mS first en size)) hend hP hD hS dX5_refusesTalk_72
          · refine x_ldc hC (-1000003) tb_721 (by decide) dX5_refusesTalk_66 ?_
            refine x_goto hC 72 dX5_refusesTalk_68 (by decide) ?_
            exact x_retI (congrArg iI (by unfold mRefT; first | exact (iif_f (by omega)).symm | (rw [iif_t (by omega)]; first | exact (iif_t (by assumption)).symm | (rw [iif_f (by assumption)]; first | exact (iif_t (by assumption)).symm | exact (iif_f (by assumption)).symm)) : (-1000003) = mRefT mS first en size)) hend hP hD hS dX5_refusesTalk_72
        · refine x_ldc hC (-1000002) tb_720 (by decide) dX5_refusesTalk_52 ?_
          exact x_retI (congrArg iI (by unfold mRefT; first | exact (iif_f (by omega)).symm | (rw [iif_t (by omega)]; first | exact (iif_t (by assumption)).symm | (rw [iif_f (by assumption)]; first | exact (iif_t (by assumption)).symm | exact (iif_f (by assumption)).symm)) : (-1000002) = mRefT mS first en size)) hend hP hD hS dX5_refusesTalk_54
      · refine x_ldc hC (-1000001) tb_683 (by decide) dX5_refusesTalk_32 ?_
        exact x_retI (congrArg iI (by unfold mRefT; first | exact (iif_f (by omega)).symm | (rw [iif_t (by omega)]; first | exact (iif_t (by assumption)).symm | (rw [iif_f (by assumption)]; first | exact (iif_t (by assumption)).symm | exact (iif_f (by assumption)).symm)) : (-1000001) = mRefT mS first en size)) hend hP hD hS dX5_refusesTalk_34
abbrev r5_tells : Room := { frames := 4, cells := 0, slots := 0, locals := 98 }
set_option maxHeartbeats 4000000 in
set_option maxRecDepth 100000 in
theorem k5_tells (l : Launch) (D : va_G) (cs : Nat → ClassId) (h : Nat → Nat) (mF : Int → Int) (mS : Int → Int) (mA : Int → Int) (mV : Int → Int) (mT : Int → Int) (mB : Int → Int) (first : Int) (en : Int) (size : Int) (hI : IM mS) (h1 : 0 ≤ first ∧ first ≤ 47) (h2 : 0 ≤ en ∧ en ≤ 48) (h3 : 1 ≤ size ∧ size ≤ 9) (h4 : mS 1 < 20) (hg : ¬ mGets mS first en size (mS 0) = -1) : CI l D cs yX5_tells cX5_tells 6 .int r5_tells 0 0 [.ref (h 0), .int (iI first), .int (iI en), .int (iI size)] (wM h cs mF mS mA mV mT mB) (wM h cs mF (mTells mS first en size) mA mV mT mB) (iI (mGets mS first en size (mS 0))) := by
  refine CI_start (own := RX5) (by decide) rfl rfl (Nat.le_of_ble_eq_true rfl) ?_
  intro p e s m args below meth c Q A ls hC hl hP hD hA hS hend
  have hl : lv_has ls 6 [(0, .ref (h 0)), (1, .int (iI first)), (2, .int (iI en)), (3, .int (iI size))] := hl
  obtain ⟨H, hH⟩ : ∃ H : Heap, H = s.heap := ⟨_, rfl⟩
  have hS : va_S A s.heap H [] := by rw [hH]; exact hS
  rw [← hH] at hP
  obtain ⟨locs, hlocs⟩ : ∃ locs : List Loc, locs = [] := ⟨_, rfl⟩
  rw [← hlocs] at hS
  suffices hgo : W p l e r5_tells s m args below meth c H locs 0 0 Q (F0 m 0 ls []) by rw [← hH, ← hlocs]; exact hgo
  clear hH hlocs
  obtain ⟨z0, z1, -⟩ := id hI
  refine x_al hC hl 0 dX5_tells_0 rfl rfl ?_
  refine x_il hC hl 1 dX5_tells_1 rfl rfl ?_
  refine x_il hC hl 2 dX5_tells_2 rfl rfl ?_
  refine x_il hC hl 3 dX5_tells_3 rfl rfl ?_
  refine x_al hC hl 0 dX5_tells_4 rfl rfl ?_
  refine x_get5 (v := .ref (h 1)) hC hP 0 rfl 1 (by decide) tb_620 rfl rfl dX5_tells_5 ?_
  refine x_ic hC dX5_tells_8 ?_
  refine x_iald hC hP 1 rfl (by omega) (by decide) dX5_tells_9 ?_
  refine x_vI (As := [.int (iI first), .int (iI en), .int (iI size), .int (iI (mS 0))]) hC (k5_gets l D cs h mF mS mA mV mT mB first en size (mS 0) (by first | assumption | omega) (by first | assumption | omega) (by first | assumption | omega) (by first | assumption | omega) (by first | assumption | omega)) lk5_68 (q0 := 0) (ci := 5) rfl rfl rfl (sub_all hP hD hS hA) hP hS rfl hl.1 rfl (Nat.le_of_ble_eq_true rfl) ⟨rfl, rfl⟩ ⟨Nat.le_of_ble_eq_true rfl, Nat.le_of_ble_eq_true rfl⟩ ⟨Nat.le_of_ble_eq_true rfl, Nat.le_of_ble_eq_true rfl⟩ dX5_tells_10 (fun H locs hP hD hS hHs => ?_)
  have q_10 := mGets_rg mS first en size (mS 0)
  refine x_isw hC [(4, .int (iI (mGets mS first en size (mS 0)))), (0, .ref (h 0)), (1, .int (iI first)), (2, .int (iI en)), (3, .int (iI size))] hl dX5_tells_13 (by decide) rfl (fun ls hl => ?_)
  refine x_bi hC dX5_tells_15 (by decide) ?_
  refine x_ic hC dX5_tells_17 ?_
  refine x_al hC hl 1 dX5_tells_18 rfl rfl ?_
  refine x_get5 (v := .ref (h 1)) hC hP 0 rfl 1 (by decide) tb_620 rfl rfl dX5_tells_19 ?_
  refine x_ic hC dX5_tells_22 ?_
  refine x_iald hC hP 1 rfl (by omega) (by decide) dX5_tells_23 ?_
  refine x_imul hC dX5_tells_24 ?_
  refine x_iadd hC dX5_tells_25 ?_
  refine x_isw hC [(5, .int (iI (29 + (4 * (mS 1))))), (4, .int (iI (mGets mS first en size (mS 0)))), (0, .ref (h 0)), (1, .int (iI first)), (2, .int (iI en)), (3, .int (iI size))] hl dX5_tells_26 (by decide) rfl (fun ls hl => ?_)
  refine x_al hC hl 2 dX5_tells_28 rfl rfl ?_
  refine x_get5 (v := .ref (h 1)) hC hP 0 rfl 1 (by decide) tb_620 rfl rfl dX5_tells_29 ?_
  refine x_ilw hC hl 0 dX5_tells_32 rfl ?_
  refine x_ic hC dX5_tells_34 ?_
  refine x_iadd hC dX5_tells_35 ?_
  refine x_il hC hl 3 dX5_tells_36 rfl rfl ?_
  refine x_iast hC hP hD hS 1 rfl (by omega) (by decide) dX5_tells_37 (fun H locs hP hD hS => ?_)
  have hP : va_P D vwCl (wM h cs mF (u1 mS ((29 + (4 * (mS 1))) + 0) first) mA mV mT mB) H := hP
  have hD : va_D A (wM h cs mF (u1 mS ((29 + (4 * (mS 1))) + 0) first) mA mV mT mB) := hD
  refine x_al hC hl 2 dX5_tells_38 rfl rfl ?_
  refine x_get5 (v := .ref (h 1)) hC hP 0 rfl 1 (by decide) tb_620 rfl rfl dX5_tells_39 ?_
  refine x_ilw hC hl 0 dX5_tells_42 rfl ?_
  refine x_ic hC dX5_tells_44 ?_
  refine x_iadd hC dX5_tells_45 ?_
  refine x_il hC hl 4 dX5_tells_46 rfl rfl ?_
  refine x_iast hC hP hD hS 1 rfl (by omega) (by decide) dX5_tells_47 (fun H locs hP hD hS => ?_)
  have hP : va_P D vwCl (wM h cs mF (u1 (u1 mS ((29 + (4 * (mS 1))) + 0) first) ((29 + (4 * (mS 1))) + 1) en) mA mV mT mB) H := hP
  have hD : va_D A (wM h cs mF (u1 (u1 mS ((29 + (4 * (mS 1))) + 0) first) ((29 + (4 * (mS 1))) + 1) en) mA mV mT mB) := hD
  refine x_al hC hl 2 dX5_tells_48 rfl rfl ?_
  refine x_get5 (v := .ref (h 1)) hC hP 0 rfl 1 (by decide) tb_620 rfl rfl dX5_tells_49 ?_
  refine x_ilw hC hl 0 dX5_tells_52 rfl ?_
  refine x_ic hC dX5_tells_54 ?_
  refine x_iadd hC dX5_tells_55 ?_
  refine x_il hC hl 5 dX5_tells_56 rfl rfl ?_
  refine x_iast hC hP hD hS 1 rfl (by omega) (by decide) dX5_tells_57 (fun H locs hP hD hS => ?_)
  have hP : va_P D vwCl (wM h cs mF (u1 (u1 (u1 mS ((29 + (4 * (mS 1))) + 0) first) ((29 + (4 * (mS 1))) + 1) en) ((29 + (4 * (mS 1))) + 2) size) mA mV mT mB) H := hP
  have hD : va_D A (wM h cs mF (u1 (u1 (u1 mS ((29 + (4 * (mS 1))) + 0) first) ((29 + (4 * (mS 1))) + 1) en) ((29 + (4 * (mS 1))) + 2) size) mA mV mT mB) := hD
  refine x_al hC hl 2 dX5_tells_58 rfl rfl ?_
  refine x_get5 (v := .ref (h 1)) hC hP 0 rfl 1 (by decide) tb_620 rfl rfl dX5_tells_59 ?_
  refine x_ilw hC hl 0 dX5_tells_62 rfl ?_
  refine x_ic hC dX5_tells_64 ?_
  refine x_iadd hC dX5_tells_65 ?_
  refine x_ilw hC hl 1 dX5_tells_66 rfl ?_
  refine x_iast hC hP hD hS 1 rfl (by omega) (by decide) dX5_tells_68 (fun H locs hP hD hS => ?_)
  have hP : va_P D vwCl (wM h cs mF (u1 (u1 (u1 (u1 mS ((29 + (4 * (mS 1))) + 0) first) ((29 + (4 * (mS 1))) + 1) en) ((29 + (4 * (mS 1))) + 2) size) ((29 + (4 * (mS 1))) + 3) (mGets mS first en size (mS 0))) mA mV mT mB) H := hP
  have hD : va_D A (wM h cs mF (u1 (u1 (u1 (u1 mS ((29 + (4 * (mS 1))) + 0) first) ((29 + (4 * (mS 1))) + 1) en) ((29 + (4 * (mS 1))) + 2) size) ((29 + (4 * (mS 1))) + 3) (mGets mS first en size (mS 0))) mA mV mT mB) := hD
  refine x_al hC hl 2 dX5_tells_69 rfl rfl ?_
  refine x_get5 (v := .ref (h 1)) hC hP 0 rfl 1 (by decide) tb_620 rfl rfl dX5_tells_70 ?_
  refine x_ic hC dX5_tells_73 ?_
  refine x_dup2 hC dX5_tells_74 rfl rfl ?_
  refine x_iald hC hP 1 rfl (by omega) (by decide) dX5_tells_75 ?_
  refine x_ic hC dX5_tells_76 ?_
  refine x_iadd hC dX5_tells_77 ?_
  refine x_iast hC hP hD hS 1 rfl (by omega) (by decide) dX5_tells_78 (fun H locs hP hD hS => ?_)
  have hP : va_P D vwCl (wM h cs mF (u1 (u1 (u1 (u1 (u1 mS ((29 + (4 * (mS 1))) + 0) first) ((29 + (4 * (mS 1))) + 1) en) ((29 + (4 * (mS 1))) + 2) size) ((29 + (4 * (mS 1))) + 3) (mGets mS first en size (mS 0))) 1 (((u1 (u1 (u1 (u1 mS ((29 + (4 * (mS 1))) + 0) first) ((29 + (4 * (mS 1))) + 1) en) ((29 + (4 * (mS 1))) + 2) size) ((29 + (4 * (mS 1))) + 3) (mGets mS first en size (mS 0))) 1) + 1)) mA mV mT mB) H := hP
  have hD : va_D A (wM h cs mF (u1 (u1 (u1 (u1 (u1 mS ((29 + (4 * (mS 1))) + 0) first) ((29 + (4 * (mS 1))) + 1) en) ((29 + (4 * (mS 1))) + 2) size) ((29 + (4 * (mS 1))) + 3) (mGets mS first en size (mS 0))) 1 (((u1 (u1 (u1 (u1 mS ((29 + (4 * (mS 1))) + 0) first) ((29 + (4 * (mS 1))) + 1) en) ((29 + (4 * (mS 1))) + 2) size) ((29 + (4 * (mS 1))) + 3) (mGets mS first en size (mS 0))) 1) + 1)) mA mV mT mB) := hD
  have hI2 : IM ((u1 (u1 (u1 (u1 (u1 mS ((29 + (4 * (mS 1))) + 0) first) ((29 + (4 * (mS 1))) + 1) en) ((29 + (4 * (mS 1))) + 2) size) ((29 + (4 * (mS 1))) + 3) (mGets mS first en size (mS 0))) 1 (((u1 (u1 (u1 (u1 mS ((29 + (4 * (mS 1))) + 0) first) ((29 + (4 * (mS 1))) + 1) en) ((29 + (4 * (mS 1))) + 2) size) ((29 + (4 * (mS 1))) + 3) (mGets mS first en size (mS 0))) 1) + 1))) := IM_tel hI (by omega) (by omega) (by omega) (by omega) (by omega)
  refine x_al hC hl 2 dX5_tells_79 rfl rfl ?_
  refine x_ilw hC hl 1 dX5_tells_80 rfl ?_
  refine x_vV (As := [.int (iI (mGets mS first en size (mS 0)))]) hC (k5_opens l D cs h mF (u1 (u1 (u1 (u1 (u1 mS ((29 + (4 * (mS 1))) + 0) first) ((29 + (4 * (mS 1))) + 1) en) ((29 + (4 * (mS 1))) + 2) size) ((29 + (4 * (mS 1))) + 3) (mGets mS first en size (mS 0))) 1 (((u1 (u1 (u1 (u1 mS ((29 + (4 * (mS 1))) + 0) first) ((29 + (4 * (mS 1))) + 1) en) ((29 + (4 * (mS 1))) + 2) size) ((29 + (4 * (mS 1))) + 3) (mGets mS first en size (mS 0))) 1) + 1)) mA mV mT mB (mGets mS first en size (mS 0)) (by first | assumption | omega) (by first | assumption | omega)) lk5_74 (q0 := 0) (ci := 5) rfl rfl rfl (sub_all hP hD hS hA) hP hS rfl hl.1 rfl (Nat.le_of_ble_eq_true rfl) ⟨rfl, rfl⟩ ⟨Nat.le_of_ble_eq_true rfl, Nat.le_of_ble_eq_true rfl⟩ ⟨Nat.le_of_ble_eq_true rfl, Nat.le_of_ble_eq_true rfl⟩ dX5_tells_82 (fun H locs hP hD hS hHs => ?_)
  have hP : va_P D vwCl (wM h cs mF (mOpens (u1 (u1 (u1 (u1 (u1 mS ((29 + (4 * (mS 1))) + 0) first) ((29 + (4 * (mS 1))) + 1) en) ((29 + (4 * (mS 1))) + 2) size) ((29 + (4 * (mS 1))) + 3) (mGets mS first en size (mS 0))) 1 (((u1 (u1 (u1 (u1 mS ((29 + (4 * (mS 1))) + 0) first) ((29 + (4 * (mS 1))) + 1) en) ((29 + (4 * (mS 1))) + 2) size) ((29 + (4 * (mS 1))) + 3) (mGets mS first en size (mS 0))) 1) + 1)) (mGets mS first en size (mS 0))) mA mV mT mB) H := hP
  have hD : va_D A (wM h cs mF (mOpens (u1 (u1 (u1 (u1 (u1 mS ((29 + (4 * (mS 1))) + 0) first) ((29 + (4 * (mS 1))) + 1) en) ((29 + (4 * (mS 1))) + 2) size) ((29 + (4 * (mS 1))) + 3) (mGets mS first en size (mS 0))) 1 (((u1 (u1 (u1 (u1 mS ((29 + (4 * (mS 1))) + 0) first) ((29 + (4 * (mS 1))) + 1) en) ((29 + (4 * (mS 1))) + 2) size) ((29 + (4 * (mS 1))) + 3) (mGets mS first en size (mS 0))) 1) + 1)) (mGets mS first en size (mS 0))) mA mV mT mB) := hD
  refine x_ilw hC hl 1 dX5_tells_85 rfl ?_
  exact x_retI (rfl) hend hP hD hS dX5_tells_87
abbrev r5_withdraws : Room := { frames := 1, cells := 0, slots := 0, locals := 22 }
set_option maxHeartbeats 4000000 in
set_option maxRecDepth 100000 in
theorem k5_withdraws (l : Launch) (D : va_G) (cs : Nat → ClassId) (h : Nat → Nat) (mF : Int → Int) (mS : Int → Int) (mA : Int → Int) (mV : Int → Int) (mT : Int → Int) (mB : Int → Int) (talk : Int) (hI : IM mS) (h1 : 0 ≤ talk ∧ talk < 20) : CI l D cs yX5_withdraws cX5_withdraws 3 .int r5_withdraws 0 0 [.ref (h 0), .int (iI talk)] (wM h cs mF mS mA mV mT mB) (wM h cs mF (mWith mS talk) mA mV mT mB) (iI (mS (29 + 4 * talk + 3))) := by
  refine CI_start (own := RX5) (by decide) rfl rfl (Nat.le_of_ble_eq_true rfl) ?_
  intro p e s m args below meth c Q A ls hC hl hP hD hA hS hend
  have hl : lv_has ls 3 [(0, .ref (h 0)), (1, .int (iI talk))] := hl
  obtain ⟨H, hH⟩ : ∃ H : Heap, H = s.heap := ⟨_, rfl⟩
  have hS : va_S A s.heap H [] := by rw [hH]; exact hS
  rw [← hH] at hP
  obtain ⟨locs, hlocs⟩ : ∃ locs : List Loc, locs = [] := ⟨_, rfl⟩
  rw [← hlocs] at hS
  suffices hgo : W p l e r5_withdraws s m args below meth c H locs 0 0 Q (F0 m 0 ls []) by rw [← hH, ← hlocs]; exact hgo
  clear hH hlocs
  obtain ⟨z0, z1, -⟩ := id hI
  refine x_al hC hl 0 dX5_withdraws_0 rfl rfl ?_
  refine x_il hC hl 1 dX5_withdraws_1 rfl rfl ?_
  refine x_ic hC dX5_withdraws_2 ?_
  refine x_vI (As := [.int (iI talk), .int (iI 3)]) hC (k5_of l D cs h mF mS mA mV mT mB talk 3 (by first | assumption | omega) (by first | assumption | omega) (by first | assumption | omega)) lk5_34 (q0 := 0) (ci := 5) rfl rfl rfl (sub_all hP hD hS hA) hP hS rfl hl.1 rfl (Nat.le_of_ble_eq_true rfl) ⟨rfl, rfl⟩ ⟨Nat.le_of_ble_eq_true rfl, Nat.le_of_ble_eq_true rfl⟩ ⟨Nat.le_of_ble_eq_true rfl, Nat.le_of_ble_eq_true rfl⟩ dX5_withdraws_3 (fun H locs hP hD hS hHs => ?_)
  have q_3 := imB (S := mS) (by assumption) (29 + 4 * talk + 3) (by omega)
  refine x_is hC [(2, .int (iI (mS (29 + 4 * talk + 3)))), (0, .ref (h 0)), (1, .int (iI talk))] hl dX5_withdraws_6 rfl (by decide) rfl (fun ls hl => ?_)
  refine x_al hC hl 1 dX5_withdraws_7 rfl rfl ?_
  refine x_get5 (v := .ref (h 1)) hC hP 0 rfl 1 (by decide) tb_620 rfl rfl dX5_withdraws_8 ?_
  refine x_bi hC dX5_withdraws_11 (by decide) ?_
  refine x_ic hC dX5_withdraws_13 ?_
  refine x_il hC hl 2 dX5_withdraws_14 rfl rfl ?_
  refine x_imul hC dX5_withdraws_15 ?_
  refine x_iadd hC dX5_withdraws_16 ?_
  refine x_ic hC dX5_withdraws_17 ?_
  refine x_iadd hC dX5_withdraws_18 ?_
  refine x_ic hC dX5_withdraws_19 ?_
  refine x_iast hC hP hD hS 1 rfl (by omega) (by decide) dX5_withdraws_20 (fun H locs hP hD hS => ?_)
  have hP : va_P D vwCl (wM h cs mF (u1 mS ((29 + (4 * talk)) + 3) (-1)) mA mV mT mB) H := hP
  have hD : va_D A (wM h cs mF (u1 mS ((29 + (4 * talk)) + 3) (-1)) mA mV mT mB) := hD
  refine x_al hC hl 1 dX5_withdraws_21 rfl rfl ?_
  refine x_get5 (v := .ref (h 1)) hC hP 0 rfl 1 (by decide) tb_620 rfl rfl dX5_withdraws_22 ?_
  refine x_ic hC dX5_withdraws_25 ?_
  refine x_dup2 hC dX5_withdraws_26 rfl rfl ?_
  refine x_iald hC hP 1 rfl (by omega) (by decide) dX5_withdraws_27 ?_
  refine x_ic hC dX5_withdraws_28 ?_
  refine x_iadd hC dX5_withdraws_29 ?_
  refine x_iast hC hP hD hS 1 rfl (by omega) (by decide) dX5_withdraws_30 (fun H locs hP hD hS => ?_)
  have hP : va_P D vwCl (wM h cs mF (u1 (u1 mS ((29 + (4 * talk)) + 3) (-1)) 4 (((u1 mS ((29 + (4 * talk)) + 3) (-1)) 4) + 1)) mA mV mT mB) H := hP
  have hD : va_D A (wM h cs mF (u1 (u1 mS ((29 + (4 * talk)) + 3) (-1)) 4 (((u1 mS ((29 + (4 * talk)) + 3) (-1)) 4) + 1)) mA mV mT mB) := hD
  refine x_il hC hl 0 dX5_withdraws_31 rfl rfl ?_
  exact x_retI (rfl) hend hP hD hS dX5_withdraws_32
abbrev r5_refusesRoom : Room := { frames := 2, cells := 0, slots := 0, locals := 43 }
set_option maxHeartbeats 4000000 in
set_option maxRecDepth 100000 in
theorem k5_refusesRoom (l : Launch) (D : va_G) (cs : Nat → ClassId) (h : Nat → Nat) (mF : Int → Int) (mS : Int → Int) (mA : Int → Int) (mV : Int → Int) (mT : Int → Int) (mB : Int → Int) (room : Int) (size : Int) (itsPrice : Int) (hI : IM mS) (g_room : -2147483648 ≤ room ∧ room ≤ 2147483647) (g_size : -2147483648 ≤ size ∧ size ≤ 2147483647) (g_itsPrice : -2147483648 ≤ itsPrice ∧ itsPrice ≤ 2147483647) : CI l D cs yX5_refusesRoom cX5_refusesRoom 4 .int r5_refusesRoom 0 0 [.ref (h 0), .int (iI room), .int (iI size), .int (iI itsPrice)] (wM h cs mF mS mA mV mT mB) (wM h cs mF mS mA mV mT mB) (iI (mRefR mS room size itsPrice)) := by
  refine CI_start (own := RX5) (by decide) rfl rfl (Nat.le_of_ble_eq_true rfl) ?_
  intro p e s m args below meth c Q A ls hC hl hP hD hA hS hend
  have hl : lv_has ls 4 [(0, .ref (h 0)), (1, .int (iI room)), (2, .int (iI size)), (3, .int (iI itsPrice))] := hl
  obtain ⟨H, hH⟩ : ∃ H : Heap, H = s.heap := ⟨_, rfl⟩
  have hS : va_S A s.heap H [] := by rw [hH]; exact hS
  rw [← hH] at hP
  obtain ⟨locs, hlocs⟩ : ∃ locs : List Loc, locs = [] := ⟨_, rfl⟩
  rw [← hlocs] at hS
  suffices hgo : W p l e r5_refusesRoom s m args below meth c H locs 0 0 Q (F0 m 0 ls []) by rw [← hH, ← hlocs]; exact hgo
  clear hH hlocs
  obtain ⟨z0, z1, -⟩ := id hI
  refine x_il hC hl 1 dX5_refusesRoom_0 rfl rfl ?_
  refine x_sI (As := [.int (iI room)]) hC (k5_isRoom l D cs room (by first | assumption | omega)) lk5_93 (sub_none hP hD hS hA) hP hS rfl hl.1 rfl (Nat.le_of_ble_eq_true rfl) ⟨rfl, rfl⟩ ⟨Nat.le_of_ble_eq_true rfl, Nat.le_of_ble_eq_true rfl⟩ ⟨Nat.le_of_ble_eq_true rfl, Nat.le_of_ble_eq_true rfl⟩ dX5_refusesRoom_1 (fun H locs hP hD hS hHs => ?_)
  refine x_if_eq_b hC 27 dX5_refusesRoom_4 (by decide) (fun c_4 => ?_) (fun c_4 => ?_)
  · refine x_ldc hC (-1000001) tb_683 (by decide) dX5_refusesRoom_27 ?_
    exact x_retI (congrArg iI (by unfold mRefR; first | exact (iif_f (by omega)).symm | (rw [iif_t (by omega)]; first | exact (iif_t (by assumption)).symm | exact (iif_f (by assumption)).symm) : (-1000001) = mRefR mS room size itsPrice)) hend hP hD hS dX5_refusesRoom_29
  · refine x_il hC hl 2 dX5_refusesRoom_7 rfl rfl ?_
    refine x_ic hC dX5_refusesRoom_8 ?_
    refine x_bi hC dX5_refusesRoom_9 (by decide) ?_
    refine x_sI (As := [.int (iI size), .int (iI 1), .int (iI 9)]) hC (k5_in l D cs size 1 9 (by first | assumption | omega) (by first | assumption | omega) (by first | assumption | omega)) lk5_30 (sub_none hP hD hS hA) hP hS rfl hl.1 rfl (Nat.le_of_ble_eq_true rfl) ⟨rfl, rfl⟩ ⟨Nat.le_of_ble_eq_true rfl, Nat.le_of_ble_eq_true rfl⟩ ⟨Nat.le_of_ble_eq_true rfl, Nat.le_of_ble_eq_true rfl⟩ dX5_refusesRoom_11 (fun H locs hP hD hS hHs => ?_)
    refine x_if_eq_b hC 27 dX5_refusesRoom_14 (by decide) (fun c_14 => ?_) (fun c_14 => ?_)
    · refine x_ldc hC (-1000001) tb_683 (by decide) dX5_refusesRoom_27 ?_
      exact x_retI (congrArg iI (by unfold mRefR; first | exact (iif_f (by omega)).symm | (rw [iif_t (by omega)]; first | exact (iif_t (by assumption)).symm | exact (iif_f (by assumption)).symm) : (-1000001) = mRefR mS room size itsPrice)) hend hP hD hS dX5_refusesRoom_29
    · refine x_il hC hl 3 dX5_refusesRoom_17 rfl rfl ?_
      refine x_ic hC dX5_refusesRoom_18 ?_
      refine x_bi hC dX5_refusesRoom_19 (by decide) ?_
      refine x_sI (As := [.int (iI itsPrice), .int (iI 1), .int (iI 99)]) hC (k5_in l D cs itsPrice 1 99 (by first | assumption | omega) (by first | assumption | omega) (by first | assumption | omega)) lk5_30 (sub_none hP hD hS hA) hP hS rfl hl.1 rfl (Nat.le_of_ble_eq_true rfl) ⟨rfl, rfl⟩ ⟨Nat.le_of_ble_eq_true rfl, Nat.le_of_ble_eq_true rfl⟩ ⟨Nat.le_of_ble_eq_true rfl, Nat.le_of_ble_eq_true rfl⟩ dX5_refusesRoom_21 (fun H locs hP hD hS hHs => ?_)
      refine x_if_ne_b hC 30 dX5_refusesRoom_24 (by decide) (fun c_24 => ?_) (fun c_24 => ?_)
      · refine x_al hC hl 0 dX5_refusesRoom_30 rfl rfl ?_
        refine x_il hC hl 1 dX5_refusesRoom_31 rfl rfl ?_
        refine x_vI (As := [.int (iI room)]) hC (k5_isOpen l D cs h mF mS mA mV mT mB room (by first | assumption | omega) (by first | assumption | omega)) lk5_56 (q0 := 0) (ci := 5) rfl rfl rfl (sub_all hP hD hS hA) hP hS rfl hl.1 rfl (Nat.le_of_ble_eq_true rfl) ⟨rfl, rfl⟩ ⟨Nat.le_of_ble_eq_true rfl, Nat.le_of_ble_eq_true rfl⟩ ⟨Nat.le_of_ble_eq_true rfl, Nat.le_of_ble_eq_true rfl⟩ dX5_refusesRoom_32 (fun H locs hP hD hS hHs => ?_)
        refine x_if_eq_b hC 43 dX5_refusesRoom_35 (by decide) (fun c_35 => ?_) (fun c_35 => ?_)
        · refine x_ic hC dX5_refusesRoom_43 ?_
          exact x_retI (congrArg iI (by unfold mRefR; first | exact (iif_f (by omega)).symm | (rw [iif_t (by omega)]; first | exact (iif_t (by assumption)).symm | exact (iif_f (by assumption)).symm) : 0 = mRefR mS room size itsPrice)) hend hP hD hS dX5_refusesRoom_44
        · refine x_ldc hC (-1000002) tb_720 (by decide) dX5_refusesRoom_38 ?_
          refine x_goto hC 44 dX5_refusesRoom_40 (by decide) ?_
          exact x_retI (congrArg iI (by unfold mRefR; first | exact (iif_f (by omega)).symm | (rw [iif_t (by omega)]; first | exact (iif_t (by assumption)).symm | exact (iif_f (by assumption)).symm) : (-1000002) = mRefR mS room size itsPrice)) hend hP hD hS dX5_refusesRoom_44
      · refine x_ldc hC (-1000001) tb_683 (by decide) dX5_refusesRoom_27 ?_
        exact x_retI (congrArg iI (by unfold mRefR; first | exact (iif_f (by omega)).symm | (rw [iif_t (by omega)]; first | exact (iif_t (by assumption)).symm | exact (iif_f (by assumption)).symm) : (-1000001) = mRefR mS room size itsPrice)) hend hP hD hS dX5_refusesRoom_29
abbrev r5_laysRoom : Room := { frames := 1, cells := 0, slots := 0, locals := 22 }
set_option maxHeartbeats 4000000 in
set_option maxRecDepth 100000 in
theorem k5_laysRoom (l : Launch) (D : va_G) (cs : Nat → ClassId) (h : Nat → Nat) (mF : Int → Int) (mS : Int → Int) (mA : Int → Int) (mV : Int → Int) (mT : Int → Int) (mB : Int → Int) (room : Int) (size : Int) (itsPrice : Int) (hI : IM mS) (h1 : 0 ≤ room ∧ room < 8) : CI l D cs yX5_laysRoom cX5_laysRoom 5 .int r5_laysRoom 0 0 [.ref (h 0), .int (iI room), .int (iI size), .int (iI itsPrice)] (wM h cs mF mS mA mV mT mB) (wM h cs mF (mLay mS room size itsPrice) mA mV mT mB) (iI (100 * mS (5 + 3 * room + 0) + mS (5 + 3 * room + 1))) := by
  refine CI_start (own := RX5) (by decide) rfl rfl (Nat.le_of_ble_eq_true rfl) ?_
  intro p e s m args below meth c Q A ls hC hl hP hD hA hS hend
  have hl : lv_has ls 5 [(0, .ref (h 0)), (1, .int (iI room)), (2, .int (iI size)), (3, .int (iI itsPrice))] := hl
  obtain ⟨H, hH⟩ : ∃ H : Heap, H = s.heap := ⟨_, rfl⟩
  have hS : va_S A s.heap H [] := by rw [hH]; exact hS
  rw [← hH] at hP
  obtain ⟨locs, hlocs⟩ : ∃ locs : List Loc, locs = [] := ⟨_, rfl⟩
  rw [← hlocs] at hS
  suffices hgo : W p l e r5_laysRoom s m args below meth c H locs 0 0 Q (F0 m 0 ls []) by rw [← hH, ← hlocs]; exact hgo
  clear hH hlocs
  obtain ⟨z0, z1, -⟩ := id hI
  refine x_bi hC dX5_laysRoom_0 (by decide) ?_
  refine x_al hC hl 0 dX5_laysRoom_2 rfl rfl ?_
  refine x_il hC hl 1 dX5_laysRoom_3 rfl rfl ?_
  refine x_ic hC dX5_laysRoom_4 ?_
  refine x_vI (As := [.int (iI room), .int (iI 0)]) hC (k5_room0 l D cs h mF mS mA mV mT mB room 0 (by first | assumption | omega) (by first | assumption | omega) (by first | assumption | omega)) lk5_38 (q0 := 0) (ci := 5) rfl rfl rfl (sub_all hP hD hS hA) hP hS rfl hl.1 rfl (Nat.le_of_ble_eq_true rfl) ⟨rfl, rfl⟩ ⟨Nat.le_of_ble_eq_true rfl, Nat.le_of_ble_eq_true rfl⟩ ⟨Nat.le_of_ble_eq_true rfl, Nat.le_of_ble_eq_true rfl⟩ dX5_laysRoom_5 (fun H locs hP hD hS hHs => ?_)
  have q_5 := imB (S := mS) (by assumption) (5 + 3 * room + 0) (by omega)
  refine x_imul hC dX5_laysRoom_8 ?_
  refine x_al hC hl 0 dX5_laysRoom_9 rfl rfl ?_
  refine x_il hC hl 1 dX5_laysRoom_10 rfl rfl ?_
  refine x_ic hC dX5_laysRoom_11 ?_
  refine x_vI (As := [.int (iI room), .int (iI 1)]) hC (k5_room0 l D cs h mF mS mA mV mT mB room 1 (by first | assumption | omega) (by first | assumption | omega) (by first | assumption | omega)) lk5_38 (q0 := 0) (ci := 5) rfl rfl rfl (sub_all hP hD hS hA) hP hS rfl hl.1 rfl (Nat.le_of_ble_eq_true rfl) ⟨rfl, rfl⟩ ⟨Nat.le_of_ble_eq_true rfl, Nat.le_of_ble_eq_true rfl⟩ ⟨Nat.le_of_ble_eq_true rfl, Nat.le_of_ble_eq_true rfl⟩ dX5_laysRoom_12 (fun H locs hP hD hS hHs => ?_)
  have q_12 := imB (S := mS) (by assumption) (5 + 3 * room + 1) (by omega)
  refine x_iadd hC dX5_laysRoom_15 ?_
  refine x_isw hC [(4, .int (iI ((100 * (mS (5 + 3 * room + 0))) + (mS (5 + 3 * room + 1))))), (0, .ref (h 0)), (1, .int (iI room)), (2, .int (iI size)), (3, .int (iI itsPrice))] hl dX5_laysRoom_16 (by decide) rfl (fun ls hl => ?_)
  refine x_al hC hl 1 dX5_laysRoom_18 rfl rfl ?_
  refine x_get5 (v := .ref (h 1)) hC hP 0 rfl 1 (by decide) tb_620 rfl rfl dX5_laysRoom_19 ?_
  refine x_ic hC dX5_laysRoom_22 ?_
  refine x_ic hC dX5_laysRoom_23 ?_
  refine x_il hC hl 2 dX5_laysRoom_24 rfl rfl ?_
  refine x_imul hC dX5_laysRoom_25 ?_
  refine x_iadd hC dX5_laysRoom_26 ?_
  refine x_ic hC dX5_laysRoom_27 ?_
  refine x_iadd hC dX5_laysRoom_28 ?_
  refine x_il hC hl 3 dX5_laysRoom_29 rfl rfl ?_
  refine x_iast hC hP hD hS 1 rfl (by omega) (by decide) dX5_laysRoom_30 (fun H locs hP hD hS => ?_)
  have hP : va_P D vwCl (wM h cs mF (u1 mS ((5 + (3 * room)) + 0) size) mA mV mT mB) H := hP
  have hD : va_D A (wM h cs mF (u1 mS ((5 + (3 * room)) + 0) size) mA mV mT mB) := hD
  refine x_al hC hl 1 dX5_laysRoom_31 rfl rfl ?_
  refine x_get5 (v := .ref (h 1)) hC hP 0 rfl 1 (by decide) tb_620 rfl rfl dX5_laysRoom_32 ?_
  refine x_ic hC dX5_laysRoom_35 ?_
  refine x_ic hC dX5_laysRoom_36 ?_
  refine x_il hC hl 2 dX5_laysRoom_37 rfl rfl ?_
  refine x_imul hC dX5_laysRoom_38 ?_
  refine x_iadd hC dX5_laysRoom_39 ?_
  refine x_ic hC dX5_laysRoom_40 ?_
  refine x_iadd hC dX5_laysRoom_41 ?_
  refine x_il hC hl 4 dX5_laysRoom_42 rfl rfl ?_
  refine x_iast hC hP hD hS 1 rfl (by omega) (by decide) dX5_laysRoom_43 (fun H locs hP hD hS => ?_)
  have hP : va_P D vwCl (wM h cs mF (u1 (u1 mS ((5 + (3 * room)) + 0) size) ((5 + (3 * room)) + 1) itsPrice) mA mV mT mB) H := hP
  have hD : va_D A (wM h cs mF (u1 (u1 mS ((5 + (3 * room)) + 0) size) ((5 + (3 * room)) + 1) itsPrice) mA mV mT mB) := hD
  refine x_ilw hC hl 0 dX5_laysRoom_44 rfl ?_
  exact x_retI (congrArg iI (by first | rfl | omega | grind : (100 * (mS (5 + 3 * room + 0))) + (mS (5 + 3 * room + 1)) = 100 * mS (5 + 3 * room + 0) + mS (5 + 3 * room + 1))) hend hP hD hS dX5_laysRoom_46
abbrev r5_records : Room := { frames := 0, cells := 0, slots := 0, locals := 0 }
set_option maxHeartbeats 4000000 in
set_option maxRecDepth 100000 in
theorem k5_records (l : Launch) (D : va_G) (cs : Nat → ClassId) (h : Nat → Nat) (mF : Int → Int) (mS : Int → Int) (mA : Int → Int) (mV : Int → Int) (mT : Int → Int) (mB : Int → Int) (h4 : 0 ≤ (mF 4) ∧ (mF 4) ≤ 4) : CV l D cs yX5_records cX5_records 2 r5_records 0 0 [.ref (h 0)] (wM h cs mF mS mA mV mT mB) (wM h cs (mRecF mF) mS mA (mRecV mF mS mV) mT mB) := by
  refine CV_start (own := RX5) (by decide) rfl (Nat.le_of_ble_eq_true rfl) ?_
  intro p e s m args below meth c Q A ls hC hl hP hD hA hS hname hend
  have hl : lv_has ls 2 [(0, .ref (h 0))] := hl
  obtain ⟨H, hH⟩ : ∃ H : Heap, H = s.heap := ⟨_, rfl⟩
  have hS : va_S A s.heap H [] := by rw [hH]; exact hS
  rw [← hH] at hP
  obtain ⟨locs, hlocs⟩ : ∃ locs : List Loc, locs = [] := ⟨_, rfl⟩
  rw [← hlocs] at hS
  suffices hgo : W p l e r5_records s m args below meth c H locs 0 0 Q (F0 m 0 ls []) by rw [← hH, ← hlocs]; exact hgo
  clear hH hlocs
  refine x_al hC hl 0 dX5_records_0 rfl rfl ?_
  refine x_get5 (v := .int (iI (mF 4))) hC hP 0 rfl 4 (by decide) tb_623 rfl rfl dX5_records_1 ?_
  refine x_ic hC dX5_records_4 ?_
  refine x_ic_ne hC 48 dX5_records_5 (by decide) (by omega) (by omega) (fun c_5 => ?_) (fun c_5 => ?_)
  · refine x_ic hC dX5_records_48 ?_
    refine x_is hC [(1, .int (iI 0)), (0, .ref (h 0))] hl dX5_records_49 rfl (by decide) rfl (fun ls hl => ?_)
    have loop_50 : ∀ (n : Nat) (i : Int), (hi0 : 0 ≤ i) → (hiN : i ≤ 109) → (109 - i) < (n : Int) → ∀ (H : Heap) (locs : List Loc) (ls : Array Slot), va_P D vwCl (wM h cs mF mS mA (fI (fun k v => u1 v (109 * ((mF 4)) + k) (mS k)) mV i) mT mB) H → va_D A (wM h cs mF mS mA (fI (fun k v => u1 v (109 * ((mF 4)) + k) (mS k)) mV i) mT mB) → va_S A s.heap H locs → lv_has ls 2 [(1, .int (iI i)), (0, .ref (h 0))] → W p l e r5_records s m args below meth c H locs 0 0 Q (F0 m 50 ls []) := by
      intro n
      induction n with
      | zero =>
        intro i hi0 hiN hnn
        exfalso; omega
      | succ n ih_50 =>
        intro i hi0 hiN hnn H locs ls hP hD hS hl
        refine x_il hC hl 0 dX5_records_50 rfl rfl ?_
        refine x_bi hC dX5_records_51 (by decide) ?_
        refine x_ic_ge hC 82 dX5_records_53 (by decide) (by omega) (by omega) (fun c_53 => ?_) (fun c_53 => ?_)
        · obtain rfl : i = 109 := by omega
          refine x_al hC hl 1 dX5_records_82 rfl rfl ?_
          refine x_dup hC dX5_records_83 rfl ?_
          refine x_get5 (v := .int (iI (mF 4))) hC hP 0 rfl 4 (by decide) tb_623 rfl rfl dX5_records_84 ?_
          refine x_ic hC dX5_records_87 ?_
          refine x_iadd hC dX5_records_88 ?_
          refine x_put5_4 hC hP hD hS 0 rfl tb_623 dX5_records_89 (fun H locs hP hD hS => ?_)
          have hP : va_P D vwCl (wM h cs (u1 mF 4 ((mF 4) + 1)) mS mA (fI (fun k v => u1 v (109 * ((mF 4)) + k) (mS k)) mV 109) mT mB) H := hP
          have hD : va_D A (wM h cs (u1 mF 4 ((mF 4) + 1)) mS mA (fI (fun k v => u1 v (109 * ((mF 4)) + k) (mS k)) mV 109) mT mB) := hD
          have ew : (wM h cs (u1 mF 4 ((mF 4) + 1)) mS mA (fI (fun k v => u1 v (109 * ((mF 4)) + k) (mS k)) mV 109) mT mB) = (wM h cs (mRecF mF) mS mA (mRecV mF mS mV) mT mB) := (wMc (by first | exact (iif_t c_5).symm | exact (iif_f c_5).symm : u1 mF 4 ((mF 4) + 1) = mRecF mF) rfl rfl (by first | exact (iif_t c_5).symm | exact (iif_f c_5).symm : fI (fun k v => u1 v (109 * ((mF 4)) + k) (mS k)) mV 109 = mRecV mF mS mV) rfl rfl)
          have hP := vPe hP ew
          have hD := vDe hD ew
          exact hend H locs 92 ls hP hD hS dX5_records_92
        · refine x_al hC hl 1 dX5_records_56 rfl rfl ?_
          refine x_get5 (v := .ref (h 3)) hC hP 0 rfl 3 (by decide) tb_622 rfl rfl dX5_records_57 ?_
          refine x_bi hC dX5_records_60 (by decide) ?_
          refine x_al hC hl 1 dX5_records_62 rfl rfl ?_
          refine x_get5 (v := .int (iI (mF 4))) hC hP 0 rfl 4 (by decide) tb_623 rfl rfl dX5_records_63 ?_
          refine x_imul hC dX5_records_66 ?_
          refine x_il hC hl 0 dX5_records_67 rfl rfl ?_
          refine x_iadd hC dX5_records_68 ?_
          refine x_al hC hl 1 dX5_records_69 rfl rfl ?_
          refine x_get5 (v := .ref (h 1)) hC hP 0 rfl 1 (by decide) tb_620 rfl rfl dX5_records_70 ?_
          refine x_il hC hl 0 dX5_records_73 rfl rfl ?_
          refine x_iald hC hP 1 rfl (by omega) (by decide) dX5_records_74 ?_
          refine x_iast hC hP hD hS 3 rfl (by omega) (by decide) dX5_records_75 (fun H locs hP hD hS => ?_)
          have hP : va_P D vwCl (wM h cs mF mS mA (u1 (fI (fun k v => u1 v (109 * ((mF 4)) + k) (mS k)) mV i) ((109 * (mF 4)) + i) (mS i)) mT mB) H := hP
          have hD : va_D A (wM h cs mF mS mA (u1 (fI (fun k v => u1 v (109 * ((mF 4)) + k) (mS k)) mV i) ((109 * (mF 4)) + i) (mS i)) mT mB) := hD
          refine x_iinc hC [(1, .int (iI (i + 1))), (0, .ref (h 0))] 0 hl dX5_records_76 rfl (by decide) rfl (fun ls hl => ?_)
          refine x_goto hC 50 dX5_records_79 (by decide) ?_
          have ew_2 : (wM h cs mF mS mA (u1 (fI (fun k v => u1 v (109 * ((mF 4)) + k) (mS k)) mV i) ((109 * (mF 4)) + i) (mS i)) mT mB) = (wM h cs mF mS mA (fI (fun k v => u1 v (109 * ((mF 4)) + k) (mS k)) mV (i + 1)) mT mB) := (wMc rfl rfl rfl (by rw [fI_s (by omega)] : u1 (fI (fun k v => u1 v (109 * ((mF 4)) + k) (mS k)) mV i) ((109 * (mF 4)) + i) (mS i) = fI (fun k v => u1 v (109 * ((mF 4)) + k) (mS k)) mV (i + 1)) rfl rfl)
          have hP := vPe hP ew_2
          have hD := vDe hD ew_2
          have hl := lv_sub (l' := [(1, .int (iI (i + 1))), (0, .ref (h 0))]) hl [0, 1] rfl
          exact ih_50 (i + 1) (by omega) (by omega) (by omega) H locs ls hP hD hS hl
    have hl := lv_sub (l' := [(1, .int (iI 0)), (0, .ref (h 0))]) hl [0, 1] rfl
    exact loop_50 (Int.toNat (109 - 0) + 1) 0 (by omega) (by omega) (by omega) H locs ls hP hD hS hl
  · refine x_ic hC dX5_records_8 ?_
    refine x_is hC [(1, .int (iI 0)), (0, .ref (h 0))] hl dX5_records_9 rfl (by decide) rfl (fun ls hl => ?_)
    have loop_10 : ∀ (n : Nat) (i : Int), (hi0 : 0 ≤ i) → (hiN : i ≤ 327) → (327 - i) < (n : Int) → ∀ (H : Heap) (locs : List Loc) (ls : Array Slot), va_P D vwCl (wM h cs mF mS mA (fI (fun k v => u1 v k (v (k + 109))) mV i) mT mB) H → va_D A (wM h cs mF mS mA (fI (fun k v => u1 v k (v (k + 109))) mV i) mT mB) → va_S A s.heap H locs → lv_has ls 2 [(1, .int (iI i)), (0, .ref (h 0))] → W p l e r5_records s m args below meth c H locs 0 0 Q (F0 m 10 ls []) := by
      intro n
      induction n with
      | zero =>
        intro i hi0 hiN hnn
        exfalso; omega
      | succ n ih_10 =>
        intro i hi0 hiN hnn H locs ls hP hD hS hl
        refine x_il hC hl 0 dX5_records_10 rfl rfl ?_
        refine x_si hC dX5_records_11 (by decide) ?_
        refine x_ic_ge hC 38 dX5_records_14 (by decide) (by omega) (by omega) (fun c_14 => ?_) (fun c_14 => ?_)
        · obtain rfl : i = 327 := by omega
          refine x_al hC hl 1 dX5_records_38 rfl rfl ?_
          refine x_dup hC dX5_records_39 rfl ?_
          refine x_get5 (v := .int (iI (mF 4))) hC hP 0 rfl 4 (by decide) tb_623 rfl rfl dX5_records_40 ?_
          refine x_ic hC dX5_records_43 ?_
          refine x_isub hC dX5_records_44 ?_
          refine x_put5_4 hC hP hD hS 0 rfl tb_623 dX5_records_45 (fun H locs hP hD hS => ?_)
          have hP : va_P D vwCl (wM h cs (u1 mF 4 ((mF 4) - 1)) mS mA (fI (fun k v => u1 v k (v (k + 109))) mV 327) mT mB) H := hP
          have hD : va_D A (wM h cs (u1 mF 4 ((mF 4) - 1)) mS mA (fI (fun k v => u1 v k (v (k + 109))) mV 327) mT mB) := hD
          refine x_ic hC dX5_records_48 ?_
          refine x_is hC [(1, .int (iI 0)), (0, .ref (h 0))] hl dX5_records_49 rfl (by decide) rfl (fun ls hl => ?_)
          have loop_50_2 : ∀ (n : Nat) (i : Int), (hi0 : 0 ≤ i) → (hiN : i ≤ 109) → (109 - i) < (n : Int) → ∀ (H : Heap) (locs : List Loc) (ls : Array Slot), va_P D vwCl (wM h cs (u1 mF 4 ((mF 4) - 1)) mS mA (fI (fun k v => u1 v (109 * (((mF 4) - 1)) + k) (mS k)) (fI (fun k v => u1 v k (v (k + 109))) mV 327) i) mT mB) H → va_D A (wM h cs (u1 mF 4 ((mF 4) - 1)) mS mA (fI (fun k v => u1 v (109 * (((mF 4) - 1)) + k) (mS k)) (fI (fun k v => u1 v k (v (k + 109))) mV 327) i) mT mB) → va_S A s.heap H locs → lv_has ls 2 [(1, .int (iI i)), (0, .ref (h 0))] → W p l e r5_records s m args below meth c H locs 0 0 Q (F0 m 50 ls []) := by
            intro n
            induction n with
            | zero =>
              intro i hi0 hiN hnn
              exfalso; omega
            | succ n ih_50 =>
              intro i hi0 hiN hnn H locs ls hP hD hS hl
              refine x_il hC hl 0 dX5_records_50 rfl rfl ?_
              refine x_bi hC dX5_records_51 (by decide) ?_
              refine x_ic_ge hC 82 dX5_records_53 (by decide) (by omega) (by omega) (fun c_53 => ?_) (fun c_53 => ?_)
              · obtain rfl : i = 109 := by omega
                refine x_al hC hl 1 dX5_records_82 rfl rfl ?_
                refine x_dup hC dX5_records_83 rfl ?_
                refine x_get5 (v := .int (iI ((mF 4) - 1))) hC hP 0 rfl 4 (by decide) tb_623 rfl rfl dX5_records_84 ?_
                refine x_ic hC dX5_records_87 ?_
                refine x_iadd hC dX5_records_88 ?_
                refine x_put5_4 hC hP hD hS 0 rfl tb_623 dX5_records_89 (fun H locs hP hD hS => ?_)
                have hP : va_P D vwCl (wM h cs (u1 (u1 mF 4 ((mF 4) - 1)) 4 (((mF 4) - 1) + 1)) mS mA (fI (fun k v => u1 v (109 * (((mF 4) - 1)) + k) (mS k)) (fI (fun k v => u1 v k (v (k + 109))) mV 327) 109) mT mB) H := hP
                have hD : va_D A (wM h cs (u1 (u1 mF 4 ((mF 4) - 1)) 4 (((mF 4) - 1) + 1)) mS mA (fI (fun k v => u1 v (109 * (((mF 4) - 1)) + k) (mS k)) (fI (fun k v => u1 v k (v (k + 109))) mV 327) 109) mT mB) := hD
                have ew_3 : (wM h cs (u1 (u1 mF 4 ((mF 4) - 1)) 4 (((mF 4) - 1) + 1)) mS mA (fI (fun k v => u1 v (109 * (((mF 4) - 1)) + k) (mS k)) (fI (fun k v => u1 v k (v (k + 109))) mV 327) 109) mT mB) = (wM h cs (mRecF mF) mS mA (mRecV mF mS mV) mT mB) := (wMc (by first | exact (iif_t c_5).symm | exact (iif_f c_5).symm : u1 (u1 mF 4 ((mF 4) - 1)) 4 (((mF 4) - 1) + 1) = mRecF mF) rfl rfl (by first | exact (iif_t c_5).symm | exact (iif_f c_5).symm : fI (fun k v => u1 v (109 * (((mF 4) - 1)) + k) (mS k)) (fI (fun k v => u1 v k (v (k + 109))) mV 327) 109 = mRecV mF mS mV) rfl rfl)
                have hP := vPe hP ew_3
                have hD := vDe hD ew_3
                exact hend H locs 92 ls hP hD hS dX5_records_92
              · refine x_al hC hl 1 dX5_records_56 rfl rfl ?_
                refine x_get5 (v := .ref (h 3)) hC hP 0 rfl 3 (by decide) tb_622 rfl rfl dX5_records_57 ?_
                refine x_bi hC dX5_records_60 (by decide) ?_
                refine x_al hC hl 1 dX5_records_62 rfl rfl ?_
                refine x_get5 (v := .int (iI ((mF 4) - 1))) hC hP 0 rfl 4 (by decide) tb_623 rfl rfl dX5_records_63 ?_
                refine x_imul hC dX5_records_66 ?_
                refine x_il hC hl 0 dX5_records_67 rfl rfl ?_
                refine x_iadd hC dX5_records_68 ?_
                refine x_al hC hl 1 dX5_records_69 rfl rfl ?_
                refine x_get5 (v := .ref (h 1)) hC hP 0 rfl 1 (by decide) tb_620 rfl rfl dX5_records_70 ?_
                refine x_il hC hl 0 dX5_records_73 rfl rfl ?_
                refine x_iald hC hP 1 rfl (by omega) (by decide) dX5_records_74 ?_
                refine x_iast hC hP hD hS 3 rfl (by omega) (by decide) dX5_records_75 (fun H locs hP hD hS => ?_)
                have hP : va_P D vwCl (wM h cs (u1 mF 4 ((mF 4) - 1)) mS mA (u1 (fI (fun k v => u1 v (109 * (((mF 4) - 1)) + k) (mS k)) (fI (fun k v => u1 v k (v (k + 109))) mV 327) i) ((109 * ((mF 4) - 1)) + i) (mS i)) mT mB) H := hP
                have hD : va_D A (wM h cs (u1 mF 4 ((mF 4) - 1)) mS mA (u1 (fI (fun k v => u1 v (109 * (((mF 4) - 1)) + k) (mS k)) (fI (fun k v => u1 v k (v (k + 109))) mV 327) i) ((109 * ((mF 4) - 1)) + i) (mS i)) mT mB) := hD
                refine x_iinc hC [(1, .int (iI (i + 1))), (0, .ref (h 0))] 0 hl dX5_records_76 rfl (by decide) rfl (fun ls hl => ?_)
                refine x_goto hC 50 dX5_records_79 (by decide) ?_
                have ew_4 : (wM h cs (u1 mF 4 ((mF 4) - 1)) mS mA (u1 (fI (fun k v => u1 v (109 * (((mF 4) - 1)) + k) (mS k)) (fI (fun k v => u1 v k (v (k + 109))) mV 327) i) ((109 * ((mF 4) - 1)) + i) (mS i)) mT mB) = (wM h cs (u1 mF 4 ((mF 4) - 1)) mS mA (fI (fun k v => u1 v (109 * (((mF 4) - 1)) + k) (mS k)) (fI (fun k v => u1 v k (v (k + 109))) mV 327) (i + 1)) mT mB) := (wMc rfl rfl rfl (by rw [fI_s (by omega)] : u1 (fI (fun k v => u1 v (109 * (((mF 4) - 1)) + k) (mS k)) (fI (fun k v => u1 v k (v (k + 109))) mV 327) i) ((109 * ((mF 4) - 1)) + i) (mS i) = fI (fun k v => u1 v (109 * (((mF 4) - 1)) + k) (mS k)) (fI (fun k v => u1 v k (v (k + 109))) mV 327) (i + 1)) rfl rfl)
                have hP := vPe hP ew_4
                have hD := vDe hD ew_4
                have hl := lv_sub (l' := [(1, .int (iI (i + 1))), (0, .ref (h 0))]) hl [0, 1] rfl
                exact ih_50 (i + 1) (by omega) (by omega) (by omega) H locs ls hP hD hS hl
          have hl := lv_sub (l' := [(1, .int (iI 0)), (0, .ref (h 0))]) hl [0, 1] rfl
          exact loop_50_2 (Int.toNat (109 - 0) + 1) 0 (by omega) (by omega) (by omega) H locs ls hP hD hS hl
        · refine x_al hC hl 1 dX5_records_17 rfl rfl ?_
          refine x_get5 (v := .ref (h 3)) hC hP 0 rfl 3 (by decide) tb_622 rfl rfl dX5_records_18 ?_
          refine x_il hC hl 0 dX5_records_21 rfl rfl ?_
          refine x_al hC hl 1 dX5_records_22 rfl rfl ?_
          refine x_get5 (v := .ref (h 3)) hC hP 0 rfl 3 (by decide) tb_622 rfl rfl dX5_records_23 ?_
          refine x_il hC hl 0 dX5_records_26 rfl rfl ?_
          refine x_bi hC dX5_records_27 (by decide) ?_
          refine x_iadd hC dX5_records_29 ?_
          refine x_iald hC hP 3 rfl (by omega) (by decide) dX5_records_30 ?_
          refine x_iast hC hP hD hS 3 rfl (by omega) (by decide) dX5_records_31 (fun H locs hP hD hS => ?_)
          have hP : va_P D vwCl (wM h cs mF mS mA (u1 (fI (fun k v => u1 v k (v (k + 109))) mV i) i ((fI (fun k v => u1 v k (v (k + 109))) mV i) (i + 109))) mT mB) H := hP
          have hD : va_D A (wM h cs mF mS mA (u1 (fI (fun k v => u1 v k (v (k + 109))) mV i) i ((fI (fun k v => u1 v k (v (k + 109))) mV i) (i + 109))) mT mB) := hD
          refine x_iinc hC [(1, .int (iI (i + 1))), (0, .ref (h 0))] 0 hl dX5_records_32 rfl (by decide) rfl (fun ls hl => ?_)
          refine x_goto hC 10 dX5_records_35 (by decide) ?_
          have ew_5 : (wM h cs mF mS mA (u1 (fI (fun k v => u1 v k (v (k + 109))) mV i) i ((fI (fun k v => u1 v k (v (k + 109))) mV i) (i + 109))) mT mB) = (wM h cs mF mS mA (fI (fun k v => u1 v k (v (k + 109))) mV (i + 1)) mT mB) := (wMc rfl rfl rfl (by rw [fI_s (by omega)] : u1 (fI (fun k v => u1 v k (v (k + 109))) mV i) i ((fI (fun k v => u1 v k (v (k + 109))) mV i) (i + 109)) = fI (fun k v => u1 v k (v (k + 109))) mV (i + 1)) rfl rfl)
          have hP := vPe hP ew_5
          have hD := vDe hD ew_5
          have hl := lv_sub (l' := [(1, .int (iI (i + 1))), (0, .ref (h 0))]) hl [0, 1] rfl
          exact ih_10 (i + 1) (by omega) (by omega) (by omega) H locs ls hP hD hS hl
    have hl := lv_sub (l' := [(1, .int (iI 0)), (0, .ref (h 0))]) hl [0, 1] rfl
    exact loop_10 (Int.toNat (327 - 0) + 1) 0 (by omega) (by omega) (by omega) H locs ls hP hD hS hl
abbrev r5_putAside : Room := { frames := 0, cells := 0, slots := 0, locals := 0 }
set_option maxHeartbeats 4000000 in
set_option maxRecDepth 100000 in
theorem k5_putAside (l : Launch) (D : va_G) (cs : Nat → ClassId) (h : Nat → Nat) (mF : Int → Int) (mS : Int → Int) (mA : Int → Int) (mV : Int → Int) (mT : Int → Int) (mB : Int → Int)  : CV l D cs yX5_putAside cX5_putAside 2 r5_putAside 0 0 [.ref (h 0)] (wM h cs mF mS mA mV mT mB) (wM h cs mF mS (mCopy mS mA) mV mT mB) := by
  refine CV_start (own := RX5) (by decide) rfl (Nat.le_of_ble_eq_true rfl) ?_
  intro p e s m args below meth c Q A ls hC hl hP hD hA hS hname hend
  have hl : lv_has ls 2 [(0, .ref (h 0))] := hl
  obtain ⟨H, hH⟩ : ∃ H : Heap, H = s.heap := ⟨_, rfl⟩
  have hS : va_S A s.heap H [] := by rw [hH]; exact hS
  rw [← hH] at hP
  obtain ⟨locs, hlocs⟩ : ∃ locs : List Loc, locs = [] := ⟨_, rfl⟩
  rw [← hlocs] at hS
  suffices hgo : W p l e r5_putAside s m args below meth c H locs 0 0 Q (F0 m 0 ls []) by rw [← hH, ← hlocs]; exact hgo
  clear hH hlocs
  refine x_ic hC dX5_putAside_0 ?_
  refine x_is hC [(1, .int (iI 0)), (0, .ref (h 0))] hl dX5_putAside_1 rfl (by decide) rfl (fun ls hl => ?_)
  have loop_2 : ∀ (n : Nat) (i : Int), (hi0 : 0 ≤ i) → (hiN : i ≤ 109) → (109 - i) < (n : Int) → ∀ (H : Heap) (locs : List Loc) (ls : Array Slot), va_P D vwCl (wM h cs mF mS (fI (fun k a => u1 a k (mS k)) mA i) mV mT mB) H → va_D A (wM h cs mF mS (fI (fun k a => u1 a k (mS k)) mA i) mV mT mB) → va_S A s.heap H locs → lv_has ls 2 [(1, .int (iI i)), (0, .ref (h 0))] → W p l e r5_putAside s m args below meth c H locs 0 0 Q (F0 m 2 ls []) := by
    intro n
    induction n with
    | zero =>
      intro i hi0 hiN hnn
      exfalso; omega
    | succ n ih_2 =>
      intro i hi0 hiN hnn H locs ls hP hD hS hl
      refine x_il hC hl 0 dX5_putAside_2 rfl rfl ?_
      refine x_bi hC dX5_putAside_3 (by decide) ?_
      refine x_ic_ge hC 26 dX5_putAside_5 (by decide) (by omega) (by omega) (fun c_5 => ?_) (fun c_5 => ?_)
      · obtain rfl : i = 109 := by omega
        exact hend H locs 26 ls hP hD hS dX5_putAside_26
      · refine x_al hC hl 1 dX5_putAside_8 rfl rfl ?_
        refine x_get5 (v := .ref (h 2)) hC hP 0 rfl 2 (by decide) tb_621 rfl rfl dX5_putAside_9 ?_
        refine x_il hC hl 0 dX5_putAside_12 rfl rfl ?_
        refine x_al hC hl 1 dX5_putAside_13 rfl rfl ?_
        refine x_get5 (v := .ref (h 1)) hC hP 0 rfl 1 (by decide) tb_620 rfl rfl dX5_putAside_14 ?_
        refine x_il hC hl 0 dX5_putAside_17 rfl rfl ?_
        refine x_iald hC hP 1 rfl (by omega) (by decide) dX5_putAside_18 ?_
        refine x_iast hC hP hD hS 2 rfl (by omega) (by decide) dX5_putAside_19 (fun H locs hP hD hS => ?_)
        have hP : va_P D vwCl (wM h cs mF mS (u1 (fI (fun k a => u1 a k (mS k)) mA i) i (mS i)) mV mT mB) H := hP
        have hD : va_D A (wM h cs mF mS (u1 (fI (fun k a => u1 a k (mS k)) mA i) i (mS i)) mV mT mB) := hD
        refine x_iinc hC [(1, .int (iI (i + 1))), (0, .ref (h 0))] 0 hl dX5_putAside_20 rfl (by decide) rfl (fun ls hl => ?_)
        refine x_goto hC 2 dX5_putAside_23 (by decide) ?_
        have ew : (wM h cs mF mS (u1 (fI (fun k a => u1 a k (mS k)) mA i) i (mS i)) mV mT mB) = (wM h cs mF mS (fI (fun k a => u1 a k (mS k)) mA (i + 1)) mV mT mB) := (wMc rfl rfl (by rw [fI_s (by omega)] : u1 (fI (fun k a => u1 a k (mS k)) mA i) i (mS i) = fI (fun k a => u1 a k (mS k)) mA (i + 1)) rfl rfl rfl)
        have hP := vPe hP ew
        have hD := vDe hD ew
        have hl := lv_sub (l' := [(1, .int (iI (i + 1))), (0, .ref (h 0))]) hl [0, 1] rfl
        exact ih_2 (i + 1) (by omega) (by omega) (by omega) H locs ls hP hD hS hl
  have hl := lv_sub (l' := [(1, .int (iI 0)), (0, .ref (h 0))]) hl [0, 1] rfl
  exact loop_2 (Int.toNat (109 - 0) + 1) 0 (by omega) (by omega) (by omega) H locs ls hP hD hS hl
abbrev r5_takeBack : Room := { frames := 0, cells := 0, slots := 0, locals := 0 }
set_option maxHeartbeats 4000000 in
set_option maxRecDepth 100000 in
theorem k5_takeBack (l : Launch) (D : va_G) (cs : Nat → ClassId) (h : Nat → Nat) (mF : Int → Int) (mS : Int → Int) (mA : Int → Int) (mV : Int → Int) (mT : Int → Int) (mB : Int → Int)  : CV l D cs yX5_takeBack cX5_takeBack 2 r5_takeBack 0 0 [.ref (h 0)] (wM h cs mF mS mA mV mT mB) (wM h cs mF (mCopy mA mS) mA mV mT mB) := by
  refine CV_start (own := RX5) (by decide) rfl (Nat.le_of_ble_eq_true rfl) ?_
  intro p e s m args below meth c Q A ls hC hl hP hD hA hS hname hend
  have hl : lv_has ls 2 [(0, .ref (h 0))] := hl
  obtain ⟨H, hH⟩ : ∃ H : Heap, H = s.heap := ⟨_, rfl⟩
  have hS : va_S A s.heap H [] := by rw [hH]; exact hS
  rw [← hH] at hP
  obtain ⟨locs, hlocs⟩ : ∃ locs : List Loc, locs = [] := ⟨_, rfl⟩
  rw [← hlocs] at hS
  suffices hgo : W p l e r5_takeBack s m args below meth c H locs 0 0 Q (F0 m 0 ls []) by rw [← hH, ← hlocs]; exact hgo
  clear hH hlocs
  refine x_ic hC dX5_takeBack_0 ?_
  refine x_is hC [(1, .int (iI 0)), (0, .ref (h 0))] hl dX5_takeBack_1 rfl (by decide) rfl (fun ls hl => ?_)
  have loop_2 : ∀ (n : Nat) (i : Int), (hi0 : 0 ≤ i) → (hiN : i ≤ 109) → (109 - i) < (n : Int) → ∀ (H : Heap) (locs : List Loc) (ls : Array Slot), va_P D vwCl (wM h cs mF (fI (fun k a => u1 a k (mA k)) mS i) mA mV mT mB) H → va_D A (wM h cs mF (fI (fun k a => u1 a k (mA k)) mS i) mA mV mT mB) → va_S A s.heap H locs → lv_has ls 2 [(1, .int (iI i)), (0, .ref (h 0))] → W p l e r5_takeBack s m args below meth c H locs 0 0 Q (F0 m 2 ls []) := by
    intro n
    induction n with
    | zero =>
      intro i hi0 hiN hnn
      exfalso; omega
    | succ n ih_2 =>
      intro i hi0 hiN hnn H locs ls hP hD hS hl
      refine x_il hC hl 0 dX5_takeBack_2 rfl rfl ?_
      refine x_bi hC dX5_takeBack_3 (by decide) ?_
      refine x_ic_ge hC 26 dX5_takeBack_5 (by decide) (by omega) (by omega) (fun c_5 => ?_) (fun c_5 => ?_)
      · obtain rfl : i = 109 := by omega
        exact hend H locs 26 ls hP hD hS dX5_takeBack_26
      · refine x_al hC hl 1 dX5_takeBack_8 rfl rfl ?_
        refine x_get5 (v := .ref (h 1)) hC hP 0 rfl 1 (by decide) tb_620 rfl rfl dX5_takeBack_9 ?_
        refine x_il hC hl 0 dX5_takeBack_12 rfl rfl ?_
        refine x_al hC hl 1 dX5_takeBack_13 rfl rfl ?_
        refine x_get5 (v := .ref (h 2)) hC hP 0 rfl 2 (by decide) tb_621 rfl rfl dX5_takeBack_14 ?_
        refine x_il hC hl 0 dX5_takeBack_17 rfl rfl ?_
        refine x_iald hC hP 2 rfl (by omega) (by decide) dX5_takeBack_18 ?_
        refine x_iast hC hP hD hS 1 rfl (by omega) (by decide) dX5_takeBack_19 (fun H locs hP hD hS => ?_)
        have hP : va_P D vwCl (wM h cs mF (u1 (fI (fun k a => u1 a k (mA k)) mS i) i (mA i)) mA mV mT mB) H := hP
        have hD : va_D A (wM h cs mF (u1 (fI (fun k a => u1 a k (mA k)) mS i) i (mA i)) mA mV mT mB) := hD
        refine x_iinc hC [(1, .int (iI (i + 1))), (0, .ref (h 0))] 0 hl dX5_takeBack_20 rfl (by decide) rfl (fun ls hl => ?_)
        refine x_goto hC 2 dX5_takeBack_23 (by decide) ?_
        have ew : (wM h cs mF (u1 (fI (fun k a => u1 a k (mA k)) mS i) i (mA i)) mA mV mT mB) = (wM h cs mF (fI (fun k a => u1 a k (mA k)) mS (i + 1)) mA mV mT mB) := (wMc rfl (by rw [fI_s (by omega)] : u1 (fI (fun k a => u1 a k (mA k)) mS i) i (mA i) = fI (fun k a => u1 a k (mA k)) mS (i + 1)) rfl rfl rfl rfl)
        have hP := vPe hP ew
        have hD := vDe hD ew
        have hl := lv_sub (l' := [(1, .int (iI (i + 1))), (0, .ref (h 0))]) hl [0, 1] rfl
        exact ih_2 (i + 1) (by omega) (by omega) (by omega) H locs ls hP hD hS hl
  have hl := lv_sub (l' := [(1, .int (iI 0)), (0, .ref (h 0))]) hl [0, 1] rfl
  exact loop_2 (Int.toNat (109 - 0) + 1) 0 (by omega) (by omega) (by omega) H locs ls hP hD hS hl
