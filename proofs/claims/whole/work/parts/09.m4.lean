theorem lk5_113 : LkV RX5 113 yX5_putAside cX5_putAside 2 none 0 := ⟨tb_796, tb_793, tb_795, tb_50, tb_76, by decide +kernel⟩
theorem lk5_119 : LkV RX5 119 yX5_nextTalk cX5_nextTalk 4 (some .int) 0 := ⟨tb_800, tb_797, tb_799, tb_51, tb_76, by decide +kernel⟩
theorem lk5_128 : LkV RX5 128 yX5_tellsAnew cX5_tellsAnew 6 (some .boolean) 1 := ⟨tb_792, tb_789, tb_791, tb_49, tb_76, by decide +kernel⟩
theorem lk5_131 : LkV RX5 131 yX5_takeBack cX5_takeBack 2 none 0 := ⟨tb_804, tb_801, tb_803, tb_52, tb_76, by decide +kernel⟩
theorem lk5_167 : LkV RX5 167 yX5_lowestFor cX5_lowestFor 3 (some .int) 1 := ⟨tb_898, tb_895, tb_897, tb_61, tb_76, by decide +kernel⟩
/-! telling anew -/
def B01 (B : Int → Int) : Prop := ∀ j, 0 ≤ j → j < 20 → 0 ≤ B j ∧ B j ≤ 1
noncomputable def mNextS (S A B : Int → Int) (i x : Int) : Int := iif ((¬ A (29 + 4 * i + 3) = -1 ∧ B i = 0) ∧ (x = -1 ∨ S (29 + 4 * i + 0) < S (29 + 4 * x + 0))) i x
noncomputable def mNext (S A B : Int → Int) (n : Int) : Int := fI (mNextS S A B) (-1) n
theorem mNext_s (S A B : Int → Int) {i : Int} (h : 0 ≤ i) : mNext S A B (i + 1) = mNextS S A B i (mNext S A B i) := fI_s h
theorem mNext_rg (S A B : Int → Int) {n : Int} (h0 : 0 ≤ n) : -1 ≤ mNext S A B n ∧ mNext S A B n < n := by
  refine fI_ind (fun n x => -1 ≤ x ∧ x < n) (by omega) (fun i x hi hin hx => ?_) h0
  unfold mNextS iif
  split <;> omega
theorem mNext_ok (S A B : Int → Int) {n : Int} (h0 : 0 ≤ n) (h : ¬ mNext S A B n = -1) : ¬ A (29 + 4 * mNext S A B n + 3) = -1 ∧ B (mNext S A B n) = 0 := by
  refine fI_ind (fun n x => ¬ x = -1 → ¬ A (29 + 4 * x + 3) = -1 ∧ B x = 0) (fun h => absurd rfl h) (fun i x hi hin hx => ?_) h0 h
  unfold mNextS iif
  split
  · rename_i c; exact fun _ => c.1
  · exact hx
def mShut (S : Int → Int) (n : Int) : Int → Int := fI (fun r s => u1 s (5 + 3 * r + 2) 0) S n
def mNoIn (S : Int → Int) (n : Int) : Int → Int := fI (fun t s => u1 s (29 + 4 * t + 3) (-1)) S n
def mZero (B : Int → Int) (n : Int) : Int → Int := fI (fun t b => u1 b t 0) B n
theorem IM_shut {S : Int → Int} (h : IM S) {n : Int} (h0 : 0 ≤ n) (h1 : n ≤ 8) : IM (mShut S n) := fI_ind (fun _ s => IM s) h (fun i x hi hin hx => IM_hi hx (by omega) (by omega)) h0
theorem IM_noin {S : Int → Int} (h : IM S) {n : Int} (h0 : 0 ≤ n) (h1 : n ≤ 20) : IM (mNoIn S n) := fI_ind (fun _ s => IM s) h (fun i x hi hin hx => IM_hi hx (by omega) (by omega)) h0
theorem mZero_in (B : Int → Int) {n j : Int} (h0 : 0 ≤ n) (hj : 0 ≤ j ∧ j < n) : mZero B n j = 0 := by
  refine fI_ind (fun n (b : Int → Int) => ∀ j : Int, 0 ≤ j ∧ j < n → b j = 0) (fun j h => by omega) (fun i x hi hin hx j h => ?_) h0 j hj
  unfold u1
  split
  · rfl
  · exact hx j (by omega)
theorem B01_zero (B : Int → Int) : B01 (mZero B 20) := fun j h0 h1 => by rw [mZero_in B (by omega) ⟨h0, h1⟩]; omega
theorem B01_u {B : Int → Int} (h : B01 B) {t v : Int} (hv : 0 ≤ v ∧ v ≤ 1) : B01 (u1 B t v) := fun j h0 h1 => by
  unfold u1; split
  · exact hv
  · exact h j h0 h1
/-- how many of the first n are 0 -/
def cz (B : Int → Int) : Nat → Nat
  | 0 => 0
  | n + 1 => cz B n + (if B n = 0 then 1 else 0)
theorem cz_le (B : Int → Int) : ∀ n, cz B n ≤ n
  | 0 => Nat.le_refl 0
  | n + 1 => by
    have := cz_le B n
    unfold cz; split <;> omega
theorem cz_out (B : Int → Int) (t : Int) : ∀ n : Nat, (n : Int) ≤ t → cz (u1 B t 1) n = cz B n
  | 0, _ => rfl
  | n + 1, h => by
    unfold cz
    rw [cz_out B t n (by omega), u1_n (by omega)]
theorem cz_u1 (B : Int → Int) {t : Int} (h0 : 0 ≤ t) (hb : B t = 0) : ∀ n : Nat, t < (n : Int) → cz (u1 B t 1) n + 1 = cz B n
  | 0, h => by omega
  | n + 1, h => by
    unfold cz
    by_cases c : t = (n : Int)
    · subst c
      rw [cz_out B _ n (Int.le_refl _), u1_s, hb]
      simp
    · have ih := cz_u1 B h0 hb n (by omega)
      rw [u1_n (by omega)]
      omega
noncomputable def mAnew (A : Int → Int) (rule : Int) : Nat → (Int → Int) → (Int → Int) → (Int → Int) → Prop × (Int → Int) × (Int → Int) × (Int → Int)
  | 0, F, S, B => (False, F, S, B)
  | k + 1, F, S, B => iif (mNext S A B (S 1) = -1) (True, F, S, B)
      (iif (mGets S (S (29 + 4 * mNext S A B (S 1) + 0)) (S (29 + 4 * mNext S A B (S 1) + 1)) (S (29 + 4 * mNext S A B (S 1) + 2)) rule = -1) (False, F, S, B)
        (mAnew A rule k (u1 F 10 (F 10 + iif (A (29 + 4 * mNext S A B (S 1) + 3) = mGets S (S (29 + 4 * mNext S A B (S 1) + 0)) (S (29 + 4 * mNext S A B (S 1) + 1)) (S (29 + 4 * mNext S A B (S 1) + 2)) rule) 0 1))
          (mOpens (u1 S (29 + 4 * mNext S A B (S 1) + 3) (mGets S (S (29 + 4 * mNext S A B (S 1) + 0)) (S (29 + 4 * mNext S A B (S 1) + 1)) (S (29 + 4 * mNext S A B (S 1) + 2)) rule)) (mGets S (S (29 + 4 * mNext S A B (S 1) + 0)) (S (29 + 4 * mNext S A B (S 1) + 1)) (S (29 + 4 * mNext S A B (S 1) + 2)) rule))
          (u1 B (mNext S A B (S 1)) 1)))
theorem mAnew_e {A : Int → Int} {rule : Int} {k : Nat} {F S B : Int → Int} (h : mNext S A B (S 1) = -1) : mAnew A rule (k + 1) F S B = (True, F, S, B) := by
  unfold mAnew
  exact iif_t h
theorem mAnew_f {A : Int → Int} {rule : Int} {k : Nat} {F S B : Int → Int} (h : ¬ mNext S A B (S 1) = -1) (h2 : mGets S (S (29 + 4 * mNext S A B (S 1) + 0)) (S (29 + 4 * mNext S A B (S 1) + 1)) (S (29 + 4 * mNext S A B (S 1) + 2)) rule = -1) : mAnew A rule (k + 1) F S B = (False, F, S, B) := by
  unfold mAnew
  rw [iif_f h, iif_t h2]
theorem mAnew_s {A : Int → Int} {rule : Int} {k : Nat} {F S B : Int → Int} {t r w : Int} (h : ¬ t = -1) (h2 : ¬ r = -1) (ht : mNext S A B (S 1) = t) (hr : mGets S (S (29 + 4 * t + 0)) (S (29 + 4 * t + 1)) (S (29 + 4 * t + 2)) rule = r) (hw : w = iif (A (29 + 4 * t + 3) = r) 0 1) : mAnew A rule (k + 1) F S B = mAnew A rule k (u1 F 10 (F 10 + w)) (mOpens (u1 S (29 + 4 * t + 3) r) r) (u1 B t 1) := by
  subst hw; subst hr; subst ht
  rw [mAnew, iif_f h, iif_f h2]
noncomputable def mAn (S A F B : Int → Int) (rule : Int) : Prop × (Int → Int) × (Int → Int) × (Int → Int) := mAnew (mCopy S A) rule 21 (u1 F 10 0) (mNoIn (mShut S 8) 20) (mZero B 20)
noncomputable def mAnF (S A F B : Int → Int) (rule : Int) : Int → Int := iif (mAn S A F B rule).1 (u1 (u1 (mAn S A F B rule).2.1 8 ((mAn S A F B rule).2.2.1 3 - S 3)) 9 ((mAn S A F B rule).2.2.1 2 - S 2)) (mAn S A F B rule).2.1
theorem mOpens_out (S : Int → Int) {r j : Int} (hr : 0 ≤ r ∧ r < 8) (h : j < 0 ∨ 109 ≤ j) : mOpens S r j = S j := by
  unfold mOpens iif
  split
  · rfl
  · unfold mOp3 mOp2 mOp1
    rw [u1_n (by omega), u1_n (by omega), u1_n (by omega)]
theorem mOpens_1 (S : Int → Int) {r : Int} (hr : 0 ≤ r ∧ r < 8) : mOpens S r 1 = S 1 := by
  unfold mOpens iif
  split
  · rfl
  · unfold mOp3 mOp2 mOp1
    rw [u1_n (by omega), u1_n (by omega), u1_n (by omega)]
/-- what holds of the row and of the marks behind every telling anew -/
theorem mAnew_keeps {A : Int → Int} {rule : Int} {Z : Int → Int} : ∀ (k : Nat) (F S B : Int → Int), IM S → B01 B → (∀ j, (j < 0 ∨ 109 ≤ j) → S j = Z j) → IM (mAnew A rule k F S B).2.2.1 ∧ B01 (mAnew A rule k F S B).2.2.2 ∧ ∀ j, (j < 0 ∨ 109 ≤ j) → (mAnew A rule k F S B).2.2.1 j = Z j
  | 0, F, S, B, h1, h2, h3 => ⟨h1, h2, h3⟩
  | k + 1, F, S, B, h1, h2, h3 => by
    have hx := mNext_rg S A B (n := S 1) h1.2.1.1
    have hc := h1.2.1
    by_cases c : mNext S A B (S 1) = -1
    · rw [mAnew_e c]; exact ⟨h1, h2, h3⟩
    · by_cases c2 : mGets S (S (29 + 4 * mNext S A B (S 1) + 0)) (S (29 + 4 * mNext S A B (S 1) + 1)) (S (29 + 4 * mNext S A B (S 1) + 2)) rule = -1
      · rw [mAnew_f c c2]; exact ⟨h1, h2, h3⟩
      · rw [mAnew_s c c2 rfl rfl rfl]
        have hg := mGets_rg S (S (29 + 4 * mNext S A B (S 1) + 0)) (S (29 + 4 * mNext S A B (S 1) + 1)) (S (29 + 4 * mNext S A B (S 1) + 2)) rule
        refine mAnew_keeps k _ _ _ (IM_opens (IM_hi h1 (by omega) (by omega)) (by omega)) (B01_u h2 (by omega)) (fun j hj => ?_)
        rw [mOpens_out _ (by omega) hj, u1_n (by omega)]
        exact h3 j hj
theorem mShut_out (S : Int → Int) {n j : Int} (h0 : 0 ≤ n) (h1 : n ≤ 8) (h : j < 5 ∨ 29 ≤ j) : mShut S n j = S j := by
  refine fI_ind (fun _ (s : Int → Int) => s j = S j) rfl (fun i x hi hin hx => ?_) h0
  rw [u1_n (by omega)]
  exact hx
theorem mNoIn_out (S : Int → Int) {n j : Int} (h0 : 0 ≤ n) (h1 : n ≤ 20) (h : j < 29 ∨ 109 ≤ j) : mNoIn S n j = S j := by
  refine fI_ind (fun _ (s : Int → Int) => s j = S j) rfl (fun i x hi hin hx => ?_) h0
  rw [u1_n (by omega)]
  exact hx
theorem mAn_keeps {S A F B : Int → Int} {rule : Int} (h : IM S) : IM (mAn S A F B rule).2.2.1 ∧ B01 (mAn S A F B rule).2.2.2 ∧ ∀ j, (j < 0 ∨ 109 ≤ j) → (mAn S A F B rule).2.2.1 j = S j := by
  refine mAnew_keeps 21 _ _ _ (IM_noin (IM_shut h (by omega) (by omega)) (by omega) (by omega)) (B01_zero B) (fun j hj => ?_)
  rw [mNoIn_out _ (by omega) (by omega) (by omega), mShut_out _ (by omega) (by omega) (by omega)]
noncomputable def mPrice (S A F B : Int → Int) (rule : Int) : Int := iif (mAn S A F B rule).1 ((mAn S A F B rule).2.2.1 3 - S 3) (-1000002)
noncomputable def mEmp (r : Int) : Nat → Int → (Int → Int) → Prop × (Int → Int)
  | 0, _, S => (True, S)
  | k + 1, t, S => iif (S (29 + 4 * t + 3) = r) (iif (mLow S t = -1) (False, u1 S (29 + 4 * t + 3) r) (mEmp r k (t + 1) (u1 S (29 + 4 * t + 3) (mLow S t)))) (mEmp r k (t + 1) S)
theorem mEmp_a {r n t : Int} {S : Int → Int} (h : t < n) (c : S (29 + 4 * t + 3) = r) (c2 : mLow S t = -1) : mEmp r (n - t).toNat t S = (False, u1 S (29 + 4 * t + 3) r) := by
  rw [show (n - t).toNat = (n - (t + 1)).toNat + 1 by omega, mEmp, iif_t c, iif_t c2]
theorem mEmp_b {r n t : Int} {S : Int → Int} (h : t < n) (c : S (29 + 4 * t + 3) = r) (c2 : ¬ mLow S t = -1) : mEmp r (n - t).toNat t S = mEmp r (n - (t + 1)).toNat (t + 1) (u1 S (29 + 4 * t + 3) (mLow S t)) := by
  rw [show (n - t).toNat = (n - (t + 1)).toNat + 1 by omega, mEmp, iif_t c, iif_f c2]
theorem mEmp_c {r n t : Int} {S : Int → Int} (h : t < n) (c : ¬ S (29 + 4 * t + 3) = r) : mEmp r (n - t).toNat t S = mEmp r (n - (t + 1)).toNat (t + 1) S := by
  rw [show (n - t).toNat = (n - (t + 1)).toNat + 1 by omega, mEmp, iif_f c]
theorem mEmp_e {r n t : Int} {S : Int → Int} (h : n ≤ t) : mEmp r (n - t).toNat t S = (True, S) := by
  rw [show (n - t).toNat = 0 by omega, mEmp]
theorem mLow_rg (S : Int → Int) (t : Int) : -1 ≤ mLow S t ∧ mLow S t < 8 := by
  have hh : ∀ (p : Int → Prop) (k : Nat) (i : Int), 0 ≤ i → i + k ≤ 8 → -1 ≤ fstI p (-1) k i ∧ fstI p (-1) k i < 8 := by
    intro p k
    induction k with
    | zero => intro i _ _; unfold fstI; omega
    | succ k ih =>
      intro i h0 h1
      unfold fstI iif
      split
      · omega
      · exact ih (i + 1) (by omega) (by omega)
  exact hh _ _ _ (Int.le_refl 0) (by omega)
theorem mZero_s (B : Int → Int) {i : Int} (h : 0 ≤ i) : mZero B (i + 1) = u1 (mZero B i) i 0 := fI_s h
theorem mShut_s (B : Int → Int) {i : Int} (h : 0 ≤ i) : mShut B (i + 1) = u1 (mShut B i) (5 + 3 * i + 2) 0 := fI_s h
theorem mNoIn_s (B : Int → Int) {i : Int} (h : 0 ≤ i) : mNoIn B (i + 1) = u1 (mNoIn B i) (29 + 4 * i + 3) (-1) := fI_s h

abbrev r5_nextTalk : Room := { frames := 1, cells := 0, slots := 0, locals := 22 }
set_option maxHeartbeats 4000000 in
set_option maxRecDepth 100000 in
theorem k5_nextTalk (l : Launch) (D : va_G) (cs : Nat → ClassId) (h : Nat → Nat) (mF : Int → Int) (mS : Int → Int) (mA : Int → Int) (mV : Int → Int) (mT : Int → Int) (mB : Int → Int) (hI : IM mS) (hAA : IM mA) (hB : B01 mB) : CI l D cs yX5_nextTalk cX5_nextTalk 4 .int r5_nextTalk 0 0 [.ref (h 0)] (wM h cs mF mS mA mV mT mB) (wM h cs mF mS mA mV mT mB) (iI (mNext mS mA mB (mS 1))) := by
  refine CI_start (own := RX5) (by decide) rfl rfl (Nat.le_of_ble_eq_true rfl) ?_
  intro p e s m args below meth c Q A ls hC hl hP hD hA hS hend
  have hl : lv_has ls 4 [(0, .ref (h 0))] := hl
  obtain ⟨H, hH⟩ : ∃ H : Heap, H = s.heap := ⟨_, rfl⟩
  have hS : va_S A s.heap H [] := by rw [hH]; exact hS
  rw [← hH] at hP
  obtain ⟨locs, hlocs⟩ : ∃ locs : List Loc, locs = [] := ⟨_, rfl⟩
  rw [← hlocs] at hS
  suffices hgo : W p l e r5_nextTalk s m args below meth c H locs 0 0 Q (F0 m 0 ls []) by rw [← hH, ← hlocs]; exact hgo
  clear hH hlocs
  obtain ⟨z0, z1, -⟩ := id hI
  refine x_ic hC dX5_nextTalk_0 ?_
  refine x_is hC [(1, .int (iI (-1))), (0, .ref (h 0))] hl dX5_nextTalk_1 rfl (by decide) rfl (fun ls hl => ?_)
  refine x_ic hC dX5_nextTalk_2 ?_
  refine x_is hC [(2, .int (iI 0)), (1, .int (iI (-1))), (0, .ref (h 0))] hl dX5_nextTalk_3 rfl (by decide) rfl (fun ls hl => ?_)
  have loop_4 : ∀ (n : Nat) (i : Int), (hi0 : 0 ≤ i) → (hiN : i ≤ mS 1) → ((mS 1) - i) < (n : Int) → ∀ (H : Heap) (locs : List Loc) (ls : Array Slot), va_P D vwCl (wM h cs mF mS mA mV mT mB) H → va_D A (wM h cs mF mS mA mV mT mB) → va_S A s.heap H locs → lv_has ls 4 [(2, .int (iI i)), (1, .int (iI (mNext mS mA mB i))), (0, .ref (h 0))] → W p l e r5_nextTalk s m args below meth c H locs 0 0 Q (F0 m 4 ls []) := by
    intro n
    induction n with
    | zero =>
      intro i hi0 hiN hnn
      exfalso; omega
    | succ n ih_4 =>
      intro i hi0 hiN hnn H locs ls hP hD hS hl
      have hx := mNext_rg mS mA mB hi0
      refine x_il hC hl 0 dX5_nextTalk_4 rfl rfl ?_
      refine x_al hC hl 2 dX5_nextTalk_5 rfl rfl ?_
      refine x_get5 (v := .ref (h 1)) hC hP 0 rfl 1 (by decide) tb_620 rfl rfl dX5_nextTalk_6 ?_
      refine x_ic hC dX5_nextTalk_9 ?_
      refine x_iald hC hP 1 rfl (by omega) (by decide) dX5_nextTalk_10 ?_
      refine x_ic_ge hC 82 dX5_nextTalk_11 (by decide) (by omega) (by omega) (fun c_11 => ?_) (fun c_11 => ?_)
      · obtain rfl : i = mS 1 := by omega
        refine x_il hC hl 1 dX5_nextTalk_82 rfl rfl ?_
        exact x_retI (rfl) hend hP hD hS dX5_nextTalk_83
      · refine x_al hC hl 2 dX5_nextTalk_14 rfl rfl ?_
        refine x_get5 (v := .ref (h 2)) hC hP 0 rfl 2 (by decide) tb_621 rfl rfl dX5_nextTalk_15 ?_
        refine x_bi hC dX5_nextTalk_18 (by decide) ?_
        refine x_ic hC dX5_nextTalk_20 ?_
        refine x_il hC hl 0 dX5_nextTalk_21 rfl rfl ?_
        refine x_imul hC dX5_nextTalk_22 ?_
        refine x_iadd hC dX5_nextTalk_23 ?_
        refine x_ic hC dX5_nextTalk_24 ?_
        refine x_iadd hC dX5_nextTalk_25 ?_
        refine x_iald hC hP 2 rfl (by omega) (by decide) dX5_nextTalk_26 ?_
        have q_26 := imB (S := mA) (by assumption) (((29 + (4 * i)) + 3)) (by omega)
        refine x_ic hC dX5_nextTalk_27 ?_
        refine x_ic_eq hC 44 dX5_nextTalk_28 (by decide) (by omega) (by omega) (fun c_28 => ?_) (fun c_28 => ?_)
        · refine x_ic hC dX5_nextTalk_44 ?_
          refine x_is hC [(3, .int (iI 0)), (2, .int (iI i)), (1, .int (iI (mNext mS mA mB i))), (0, .ref (h 0))] hl dX5_nextTalk_45 rfl (by decide) rfl (fun ls hl => ?_)
          refine x_il hC hl 0 dX5_nextTalk_46 rfl rfl ?_
          refine x_if_eq hC 74 dX5_nextTalk_47 (by decide) (by omega) (fun c_47 => ?_) (fun hz => absurd hz (by decide))
          refine x_il hC hl 2 dX5_nextTalk_74 rfl rfl ?_
          refine x_is hC [(1, .int (iI (mNext mS mA mB i))), (3, .int (iI 0)), (2, .int (iI i)), (0, .ref (h 0))] hl dX5_nextTalk_75 rfl (by decide) rfl (fun ls hl => ?_)
          refine x_iinc hC [(2, .int (iI (i + 1))), (1, .int (iI (mNext mS mA mB i))), (3, .int (iI 0)), (0, .ref (h 0))] 2 hl dX5_nextTalk_76 rfl (by decide) rfl (fun ls hl => ?_)
          refine x_goto hC 4 dX5_nextTalk_79 (by decide) ?_
          have hl : lv_has ls 4 [(2, .int (iI (i + 1))), (1, .int (iI (mNext mS mA mB (i + 1)))), (0, .ref (h 0))] := lvE (lv_sub (l' := [(2, .int (iI (i + 1))), (1, .int (iI (mNext mS mA mB i))), (0, .ref (h 0))]) hl [0, 1, 3] rfl) (lcE rfl (lcE (congrArg (fun z => Value.int (iI z)) (by rw [mNext_s _ _ _ hi0]; unfold mNextS; first | exact (iif_t (by omega)).symm | exact (iif_f (by omega)).symm : mNext mS mA mB i = mNext mS mA mB (i + 1))) (lcE rfl (rfl))))
          exact ih_4 (i + 1) (by omega) (by omega) (by omega) H locs ls hP hD hS hl
        · refine x_al hC hl 2 dX5_nextTalk_31 rfl rfl ?_
          refine x_get5 (v := .ref (h 5)) hC hP 0 rfl 7 (by decide) tb_626 rfl rfl dX5_nextTalk_32 ?_
          refine x_il hC hl 0 dX5_nextTalk_35 rfl rfl ?_
          refine x_zald hC hP 5 rfl (by omega) (by decide) dX5_nextTalk_36 ?_
          have q_36 := hB (i) (by omega) (by omega)
          refine x_if_ne hC 44 dX5_nextTalk_37 (by decide) (by omega) (fun c_37 => ?_) (fun c_37 => ?_)
          · refine x_ic hC dX5_nextTalk_44 ?_
            refine x_is hC [(3, .int (iI 0)), (2, .int (iI i)), (1, .int (iI (mNext mS mA mB i))), (0, .ref (h 0))] hl dX5_nextTalk_45 rfl (by decide) rfl (fun ls hl => ?_)
            refine x_il hC hl 0 dX5_nextTalk_46 rfl rfl ?_
            refine x_if_eq hC 74 dX5_nextTalk_47 (by decide) (by omega) (fun c_47 => ?_) (fun hz => absurd hz (by decide))
            refine x_il hC hl 2 dX5_nextTalk_74 rfl rfl ?_
            refine x_is hC [(1, .int (iI (mNext mS mA mB i))), (3, .int (iI 0)), (2, .int (iI i)), (0, .ref (h 0))] hl dX5_nextTalk_75 rfl (by decide) rfl (fun ls hl => ?_)
            refine x_iinc hC [(2, .int (iI (i + 1))), (1, .int (iI (mNext mS mA mB i))), (3, .int (iI 0)), (0, .ref (h 0))] 2 hl dX5_nextTalk_76 rfl (by decide) rfl (fun ls hl => ?_)
            refine x_goto hC 4 dX5_nextTalk_79 (by decide) ?_
            have hl : lv_has ls 4 [(2, .int (iI (i + 1))), (1, .int (iI (mNext mS mA mB (i + 1)))), (0, .ref (h 0))] := lvE (lv_sub (l' := [(2, .int (iI (i + 1))), (1, .int (iI (mNext mS mA mB i))), (0, .ref (h 0))]) hl [0, 1, 3] rfl) (lcE rfl (lcE (congrArg (fun z => Value.int (iI z)) (by rw [mNext_s _ _ _ hi0]; unfold mNextS; first | exact (iif_t (by omega)).symm | exact (iif_f (by omega)).symm : mNext mS mA mB i = mNext mS mA mB (i + 1))) (lcE rfl (rfl))))
            exact ih_4 (i + 1) (by omega) (by omega) (by omega) H locs ls hP hD hS hl
          · refine x_ic hC dX5_nextTalk_40 ?_
            refine x_goto hC 45 dX5_nextTalk_41 (by decide) ?_
            refine x_is hC [(3, .int (iI 1)), (2, .int (iI i)), (1, .int (iI (mNext mS mA mB i))), (0, .ref (h 0))] hl dX5_nextTalk_45 rfl (by decide) rfl (fun ls hl => ?_)
            refine x_il hC hl 0 dX5_nextTalk_46 rfl rfl ?_
            refine x_if_eq hC 74 dX5_nextTalk_47 (by decide) (by omega) (fun hz => absurd hz (by decide)) (fun c_47 => ?_)
            refine x_il hC hl 2 dX5_nextTalk_50 rfl rfl ?_
            refine x_ic hC dX5_nextTalk_51 ?_
            refine x_ic_eq hC 70 dX5_nextTalk_52 (by decide) (by omega) (by omega) (fun c_52 => ?_) (fun c_52 => ?_)
            · refine x_il hC hl 1 dX5_nextTalk_70 rfl rfl ?_
              refine x_goto hC 75 dX5_nextTalk_71 (by decide) ?_
              refine x_is hC [(1, .int (iI i)), (3, .int (iI 1)), (2, .int (iI i)), (0, .ref (h 0))] hl dX5_nextTalk_75 rfl (by decide) rfl (fun ls hl => ?_)
              refine x_iinc hC [(2, .int (iI (i + 1))), (1, .int (iI i)), (3, .int (iI 1)), (0, .ref (h 0))] 2 hl dX5_nextTalk_76 rfl (by decide) rfl (fun ls hl => ?_)
              refine x_goto hC 4 dX5_nextTalk_79 (by decide) ?_
              have hl : lv_has ls 4 [(2, .int (iI (i + 1))), (1, .int (iI (mNext mS mA mB (i + 1)))), (0, .ref (h 0))] := lvE (lv_sub (l' := [(2, .int (iI (i + 1))), (1, .int (iI i)), (0, .ref (h 0))]) hl [0, 1, 3] rfl) (lcE rfl (lcE (congrArg (fun z => Value.int (iI z)) (by rw [mNext_s _ _ _ hi0]; unfold mNextS; first | exact (iif_t (by omega)).symm | exact (iif_f (by omega)).symm : i = mNext mS mA mB (i + 1))) (lcE rfl (rfl))))
              exact ih_4 (i + 1) (by omega) (by omega) (by omega) H locs ls hP hD hS hl
            · refine x_al hC hl 3 dX5_nextTalk_55 rfl rfl ?_
              refine x_il hC hl 1 dX5_nextTalk_56 rfl rfl ?_
              refine x_ic hC dX5_nextTalk_57 ?_
              refine x_vI (As := [.int (iI i), .int (iI 0)]) hC (k5_of l D cs h mF mS mA mV mT mB i 0 (by first | assumption | omega) (by first | assumption | omega) (by first | assumption | omega)) lk5_34 (q0 := 0) (ci := 5) rfl rfl rfl (sub_all hP hD hS hA) hP hS rfl hl.1 rfl (Nat.le_of_ble_eq_true rfl) ⟨rfl, rfl⟩ ⟨Nat.le_of_ble_eq_true rfl, Nat.le_of_ble_eq_true rfl⟩ ⟨Nat.le_of_ble_eq_true rfl, Nat.le_of_ble_eq_true rfl⟩ dX5_nextTalk_58 (fun H locs hP hD hS hHs => ?_)
              have q_58 := imB (S := mS) (by assumption) (29 + 4 * i + 0) (by omega)
              refine x_al hC hl 3 dX5_nextTalk_61 rfl rfl ?_
              refine x_il hC hl 2 dX5_nextTalk_62 rfl rfl ?_
              refine x_ic hC dX5_nextTalk_63 ?_
              refine x_vI (As := [.int (iI (mNext mS mA mB i)), .int (iI 0)]) hC (k5_of l D cs h mF mS mA mV mT mB (mNext mS mA mB i) 0 (by first | assumption | omega) (by first | assumption | omega) (by first | assumption | omega)) lk5_34 (q0 := 0) (ci := 5) rfl rfl rfl (sub_all hP hD hS hA) hP hS rfl hl.1 rfl (Nat.le_of_ble_eq_true rfl) ⟨rfl, rfl⟩ ⟨Nat.le_of_ble_eq_true rfl, Nat.le_of_ble_eq_true rfl⟩ ⟨Nat.le_of_ble_eq_true rfl, Nat.le_of_ble_eq_true rfl⟩ dX5_nextTalk_64 (fun H locs hP hD hS hHs => ?_)
              have q_64 := imB (S := mS) (by assumption) (29 + 4 * (mNext mS mA mB i) + 0) (by omega)
              refine x_ic_ge hC 74 dX5_nextTalk_67 (by decide) (by omega) (by omega) (fun c_67 => ?_) (fun c_67 => ?_)
              · refine x_il hC hl 2 dX5_nextTalk_74 rfl rfl ?_
                refine x_is hC [(1, .int (iI (mNext mS mA mB i))), (3, .int (iI 1)), (2, .int (iI i)), (0, .ref (h 0))] hl dX5_nextTalk_75 rfl (by decide) rfl (fun ls hl => ?_)
                refine x_iinc hC [(2, .int (iI (i + 1))), (1, .int (iI (mNext mS mA mB i))), (3, .int (iI 1)), (0, .ref (h 0))] 2 hl dX5_nextTalk_76 rfl (by decide) rfl (fun ls hl => ?_)
                refine x_goto hC 4 dX5_nextTalk_79 (by decide) ?_
                have hl : lv_has ls 4 [(2, .int (iI (i + 1))), (1, .int (iI (mNext mS mA mB (i + 1)))), (0, .ref (h 0))] := lvE (lv_sub (l' := [(2, .int (iI (i + 1))), (1, .int (iI (mNext mS mA mB i))), (0, .ref (h 0))]) hl [0, 1, 3] rfl) (lcE rfl (lcE (congrArg (fun z => Value.int (iI z)) (by rw [mNext_s _ _ _ hi0]; unfold mNextS; first | exact (iif_t (by omega)).symm | exact (iif_f (by omega)).symm : mNext mS mA mB i = mNext mS mA mB (i + 1))) (lcE rfl (rfl))))
                exact ih_4 (i + 1) (by omega) (by omega) (by omega) H locs ls hP hD hS hl
              · refine x_il hC hl 1 dX5_nextTalk_70 rfl rfl ?_
                refine x_goto hC 75 dX5_nextTalk_71 (by decide) ?_
                refine x_is hC [(1, .int (iI i)), (3, .int (iI 1)), (2, .int (iI i)), (0, .ref (h 0))] hl dX5_nextTalk_75 rfl (by decide) rfl (fun ls hl => ?_)
                refine x_iinc hC [(2, .int (iI (i + 1))), (1, .int (iI i)), (3, .int (iI 1)), (0, .ref (h 0))] 2 hl dX5_nextTalk_76 rfl (by decide) rfl (fun ls hl => ?_)
                refine x_goto hC 4 dX5_nextTalk_79 (by decide) ?_
                have hl : lv_has ls 4 [(2, .int (iI (i + 1))), (1, .int (iI (mNext mS mA mB (i + 1)))), (0, .ref (h 0))] := lvE (lv_sub (l' := [(2, .int (iI (i + 1))), (1, .int (iI i)), (0, .ref (h 0))]) hl [0, 1, 3] rfl) (lcE rfl (lcE (congrArg (fun z => Value.int (iI z)) (by rw [mNext_s _ _ _ hi0]; unfold mNextS; first | exact (iif_t (by omega)).symm | exact (iif_f (by omega)).symm : i = mNext mS mA mB (i + 1))) (lcE rfl (rfl))))
                exact ih_4 (i + 1) (by omega) (by omega) (by omega) H locs ls hP hD hS hl
  have hl := lv_sub (l' := [(2, .int (iI 0)), (1, .int (iI (mNext mS mA mB 0))), (0, .ref (h 0))]) hl [0, 1, 2] rfl
  exact loop_4 (Int.toNat ((mS 1) - 0) + 1) 0 (by omega) (by omega) (by omega) H locs ls hP hD hS hl
abbrev r5_tellsAnew : Room := { frames := 4, cells := 0, slots := 0, locals := 98 }
set_option maxHeartbeats 4000000 in
set_option maxRecDepth 100000 in
theorem k5_tellsAnew (l : Launch) (D : va_G) (cs : Nat → ClassId) (h : Nat → Nat) (mF : Int → Int) (mS : Int → Int) (mA : Int → Int) (mV : Int → Int) (mT : Int → Int) (mB : Int → Int) (rule : Int) (hI : IM mS) (h1 : 0 ≤ rule ∧ rule ≤ 3) : CI l D cs yX5_tellsAnew cX5_tellsAnew 6 .boolean r5_tellsAnew 0 0 [.ref (h 0), .int (iI rule)] (wM h cs mF mS mA mV mT mB) (wM h cs (mAnF mS mA mF mB rule) ((mAn mS mA mF mB rule).2.2.1) (mCopy mS mA) mV mT ((mAn mS mA mF mB rule).2.2.2)) (iI (b2p (mAn mS mA mF mB rule).1)) := by
  refine CI_start (own := RX5) (by decide) rfl b2p_nar (Nat.le_of_ble_eq_true rfl) ?_
  intro p e s m args below meth c Q A ls hC hl hP hD hA hS hend
  have hl : lv_has ls 6 [(0, .ref (h 0)), (1, .int (iI rule))] := hl
  obtain ⟨H, hH⟩ : ∃ H : Heap, H = s.heap := ⟨_, rfl⟩
  have hS : va_S A s.heap H [] := by rw [hH]; exact hS
  rw [← hH] at hP
  obtain ⟨locs, hlocs⟩ : ∃ locs : List Loc, locs = [] := ⟨_, rfl⟩
  rw [← hlocs] at hS
  suffices hgo : W p l e r5_tellsAnew s m args below meth c H locs 0 0 Q (F0 m 0 ls []) by rw [← hH, ← hlocs]; exact hgo
  clear hH hlocs
  obtain ⟨z0, z1, -⟩ := id hI
  have hAA : IM (mCopy mS mA) := IM_copy hI
  refine x_al hC hl 0 dX5_tellsAnew_0 rfl rfl ?_
  refine x_vV (As := []) hC (k5_putAside l D cs h mF mS mA mV mT mB ) lk5_113 (q0 := 0) (ci := 5) rfl rfl rfl (sub_all hP hD hS hA) hP hS rfl hl.1 rfl (Nat.le_of_ble_eq_true rfl) ⟨rfl, rfl⟩ ⟨Nat.le_of_ble_eq_true rfl, Nat.le_of_ble_eq_true rfl⟩ ⟨Nat.le_of_ble_eq_true rfl, Nat.le_of_ble_eq_true rfl⟩ dX5_tellsAnew_1 (fun H locs hP hD hS hHs => ?_)
  have hP : va_P D vwCl (wM h cs mF mS (mCopy mS mA) mV mT mB) H := hP
  have hD : va_D A (wM h cs mF mS (mCopy mS mA) mV mT mB) := hD
  refine x_al hC hl 0 dX5_tellsAnew_4 rfl rfl ?_
  refine x_get5 (v := .ref (h 1)) hC hP 0 rfl 1 (by decide) tb_620 rfl rfl dX5_tellsAnew_5 ?_
  refine x_ic hC dX5_tellsAnew_8 ?_
  refine x_iald hC hP 1 rfl (by omega) (by decide) dX5_tellsAnew_9 ?_
  refine x_is hC [(2, .int (iI (mS 3))), (0, .ref (h 0)), (1, .int (iI rule))] hl dX5_tellsAnew_10 rfl (by decide) rfl (fun ls hl => ?_)
  refine x_al hC hl 1 dX5_tellsAnew_11 rfl rfl ?_
  refine x_get5 (v := .ref (h 1)) hC hP 0 rfl 1 (by decide) tb_620 rfl rfl dX5_tellsAnew_12 ?_
  refine x_ic hC dX5_tellsAnew_15 ?_
  refine x_iald hC hP 1 rfl (by omega) (by decide) dX5_tellsAnew_16 ?_
  refine x_is hC [(3, .int (iI (mS 2))), (2, .int (iI (mS 3))), (0, .ref (h 0)), (1, .int (iI rule))] hl dX5_tellsAnew_17 rfl (by decide) rfl (fun ls hl => ?_)
  refine x_al hC hl 2 dX5_tellsAnew_18 rfl rfl ?_
  refine x_ic hC dX5_tellsAnew_19 ?_
  refine x_put5_10 hC hP hD hS 0 rfl tb_629 dX5_tellsAnew_20 (fun H locs hP hD hS => ?_)
  have hP : va_P D vwCl (wM h cs (u1 mF 10 0) mS (mCopy mS mA) mV mT mB) H := hP
  have hD : va_D A (wM h cs (u1 mF 10 0) mS (mCopy mS mA) mV mT mB) := hD
  refine x_ic hC dX5_tellsAnew_23 ?_
  refine x_isw hC [(4, .int (iI 0)), (3, .int (iI (mS 2))), (2, .int (iI (mS 3))), (0, .ref (h 0)), (1, .int (iI rule))] hl dX5_tellsAnew_24 (by decide) rfl (fun ls hl => ?_)
  have loop_26 : ∀ (n : Nat) (i : Int), (hi0 : 0 ≤ i) → (hiN : i ≤ 8) → (8 - i) < (n : Int) → ∀ (H : Heap) (locs : List Loc) (ls : Array Slot), va_P D vwCl (wM h cs (u1 mF 10 0) (mShut mS i) (mCopy mS mA) mV mT mB) H → va_D A (wM h cs (u1 mF 10 0) (mShut mS i) (mCopy mS mA) mV mT mB) → va_S A s.heap H locs → lv_has ls 6 [(4, .int (iI i)), (3, .int (iI (mS 2))), (2, .int (iI (mS 3))), (0, .ref (h 0)), (1, .int (iI rule))] → W p l e r5_tellsAnew s m args below meth c H locs 0 0 Q (F0 m 26 ls []) := by
    intro n
    induction n with
    | zero =>
      intro i hi0 hiN hnn
      exfalso; omega
    | succ n ih_26 =>
      intro i hi0 hiN hnn H locs ls hP hD hS hl
      refine x_ilw hC hl 0 dX5_tellsAnew_26 rfl ?_
      refine x_bi hC dX5_tellsAnew_28 (by decide) ?_
      refine x_ic_ge hC 53 dX5_tellsAnew_30 (by decide) (by omega) (by omega) (fun c_30 => ?_) (fun c_30 => ?_)
      · obtain rfl : i = 8 := by omega
        refine x_ic hC dX5_tellsAnew_53 ?_
        refine x_isw hC [(4, .int (iI 0)), (3, .int (iI (mS 2))), (2, .int (iI (mS 3))), (0, .ref (h 0)), (1, .int (iI rule))] hl dX5_tellsAnew_54 (by decide) rfl (fun ls hl => ?_)
        have loop_56 : ∀ (n : Nat) (i : Int), (hi0 : 0 ≤ i) → (hiN : i ≤ 20) → (20 - i) < (n : Int) → ∀ (H : Heap) (locs : List Loc) (ls : Array Slot), va_P D vwCl (wM h cs (u1 mF 10 0) (mNoIn ((mShut mS 8)) i) (mCopy mS mA) mV mT (mZero mB i)) H → va_D A (wM h cs (u1 mF 10 0) (mNoIn ((mShut mS 8)) i) (mCopy mS mA) mV mT (mZero mB i)) → va_S A s.heap H locs → lv_has ls 6 [(4, .int (iI i)), (3, .int (iI (mS 2))), (2, .int (iI (mS 3))), (0, .ref (h 0)), (1, .int (iI rule))] → W p l e r5_tellsAnew s m args below meth c H locs 0 0 Q (F0 m 56 ls []) := by
          intro n
          induction n with
          | zero =>
            intro i hi0 hiN hnn
            exfalso; omega
          | succ n ih_56 =>
            intro i hi0 hiN hnn H locs ls hP hD hS hl
            refine x_ilw hC hl 0 dX5_tellsAnew_56 rfl ?_
            refine x_bi hC dX5_tellsAnew_58 (by decide) ?_
            refine x_ic_ge hC 92 dX5_tellsAnew_60 (by decide) (by omega) (by omega) (fun c_60 => ?_) (fun c_60 => ?_)
            · obtain rfl : i = 20 := by omega
              have hI2 : IM ((mNoIn ((mShut mS 8)) 20)) := IM_noin (IM_shut hI (by omega) (by omega)) (by omega) (by omega)
              have hB2 : B01 ((mZero mB 20)) := B01_zero _
              have z2 := hI2.2.1
              refine x_al hC hl 3 dX5_tellsAnew_92 rfl rfl ?_
              refine x_vI (As := []) hC (k5_nextTalk l D cs h (u1 mF 10 0) (mNoIn ((mShut mS 8)) 20) (mCopy mS mA) mV mT (mZero mB 20) (by first | assumption | omega) (by first | assumption | omega) (by first | assumption | omega)) lk5_119 (q0 := 0) (ci := 5) rfl rfl rfl (sub_all hP hD hS hA) hP hS rfl hl.1 rfl (Nat.le_of_ble_eq_true rfl) ⟨rfl, rfl⟩ ⟨Nat.le_of_ble_eq_true rfl, Nat.le_of_ble_eq_true rfl⟩ ⟨Nat.le_of_ble_eq_true rfl, Nat.le_of_ble_eq_true rfl⟩ dX5_tellsAnew_93 (fun H locs hP hD hS hHs => ?_)
              have q_93 := mNext_rg (mNoIn ((mShut mS 8)) 20) (mCopy mS mA) (mZero mB 20) (n := (mNoIn ((mShut mS 8)) 20) 1) (by omega)
              refine x_isw hC [(4, .int (iI (mNext (mNoIn ((mShut mS 8)) 20) (mCopy mS mA) (mZero mB 20) ((mNoIn ((mShut mS 8)) 20) 1)))), (3, .int (iI (mS 2))), (2, .int (iI (mS 3))), (0, .ref (h 0)), (1, .int (iI rule))] hl dX5_tellsAnew_96 (by decide) rfl (fun ls hl => ?_)
              have loop_98 : ∀ (n : Nat) (k : Nat) (xF : Int → Int) (xS : Int → Int) (xB : Int → Int), (hk : cz xB 20 < k) → (hI3 : IM xS) → (hB3 : B01 xB) → (hf : mAnew ((mCopy mS mA)) rule k xF xS xB = mAn mS mA mF mB rule) → (k : Int) < (n : Int) → ∀ (H : Heap) (locs : List Loc) (ls : Array Slot), va_P D vwCl (wM h cs xF xS (mCopy mS mA) mV mT xB) H → va_D A (wM h cs xF xS (mCopy mS mA) mV mT xB) → va_S A s.heap H locs → lv_has ls 6 [(4, .int (iI (mNext xS ((mCopy mS mA)) xB (xS 1)))), (3, .int (iI (mS 2))), (2, .int (iI (mS 3))), (0, .ref (h 0)), (1, .int (iI rule))] → W p l e r5_tellsAnew s m args below meth c H locs 0 0 Q (F0 m 98 ls []) := by
                intro n
                induction n with
                | zero =>
                  intro k xF xS xB hk hI3 hB3 hf hnn
                  exfalso; omega
                | succ n ih_98 =>
                  intro k xF xS xB hk hI3 hB3 hf hnn H locs ls hP hD hS hl
                  obtain ⟨k2, rfl⟩ : ∃ k2, k = k2 + 1 := ⟨k - 1, by omega⟩
                  have z3 := hI3.2.1
                  have qt := mNext_rg xS (mCopy mS mA) xB (n := xS 1) z3.1
                  refine x_ilw hC hl 0 dX5_tellsAnew_98 rfl ?_
                  refine x_ic hC dX5_tellsAnew_100 ?_
                  refine x_ic_eq hC 212 dX5_tellsAnew_101 (by decide) (by omega) (by omega) (fun c_101 => ?_) (fun c_101 => ?_)
                  · refine x_al hC hl 3 dX5_tellsAnew_212 rfl rfl ?_
                    refine x_al hC hl 3 dX5_tellsAnew_213 rfl rfl ?_
                    refine x_get5 (v := .ref (h 1)) hC hP 0 rfl 1 (by decide) tb_620 rfl rfl dX5_tellsAnew_214 ?_
                    refine x_ic hC dX5_tellsAnew_217 ?_
                    refine x_iald hC hP 1 rfl (by omega) (by decide) dX5_tellsAnew_218 ?_
                    refine x_il hC hl 2 dX5_tellsAnew_219 rfl rfl ?_
                    refine x_isub hC dX5_tellsAnew_220 ?_
                    refine x_put5_8 hC hP hD hS 0 rfl tb_627 dX5_tellsAnew_221 (fun H locs hP hD hS => ?_)
                    have hP : va_P D vwCl (wM h cs (u1 xF 8 ((xS 3) - (mS 3))) xS (mCopy mS mA) mV mT xB) H := hP
                    have hD : va_D A (wM h cs (u1 xF 8 ((xS 3) - (mS 3))) xS (mCopy mS mA) mV mT xB) := hD
                    refine x_al hC hl 3 dX5_tellsAnew_224 rfl rfl ?_
                    refine x_al hC hl 3 dX5_tellsAnew_225 rfl rfl ?_
                    refine x_get5 (v := .ref (h 1)) hC hP 0 rfl 1 (by decide) tb_620 rfl rfl dX5_tellsAnew_226 ?_
                    refine x_ic hC dX5_tellsAnew_229 ?_
                    refine x_iald hC hP 1 rfl (by omega) (by decide) dX5_tellsAnew_230 ?_
                    refine x_il hC hl 1 dX5_tellsAnew_231 rfl rfl ?_
                    refine x_isub hC dX5_tellsAnew_232 ?_
                    refine x_put5_9 hC hP hD hS 0 rfl tb_628 dX5_tellsAnew_233 (fun H locs hP hD hS => ?_)
                    have hP : va_P D vwCl (wM h cs (u1 (u1 xF 8 ((xS 3) - (mS 3))) 9 ((xS 2) - (mS 2))) xS (mCopy mS mA) mV mT xB) H := hP
                    have hD : va_D A (wM h cs (u1 (u1 xF 8 ((xS 3) - (mS 3))) 9 ((xS 2) - (mS 2))) xS (mCopy mS mA) mV mT xB) := hD
                    refine x_ic hC dX5_tellsAnew_236 ?_
                    have ew : (wM h cs (u1 (u1 xF 8 ((xS 3) - (mS 3))) 9 ((xS 2) - (mS 2))) xS (mCopy mS mA) mV mT xB) = (wM h cs (mAnF mS mA mF mB rule) ((mAn mS mA mF mB rule).2.2.1) (mCopy mS mA) mV mT ((mAn mS mA mF mB rule).2.2.2)) := (wMc (by unfold mAnF; rw [← (mAnew_e c_101).symm.trans hf]; exact (iif_T).symm : u1 (u1 xF 8 ((xS 3) - (mS 3))) 9 ((xS 2) - (mS 2)) = mAnF mS mA mF mB rule) (by rw [← (mAnew_e c_101).symm.trans hf] : xS = (mAn mS mA mF mB rule).2.2.1) rfl rfl rfl (by rw [← (mAnew_e c_101).symm.trans hf] : xB = (mAn mS mA mF mB rule).2.2.2))
                    have hP := vPe hP ew
                    have hD := vDe hD ew
                    exact x_retI (congrArg iI (b2p_t (by rw [← (mAnew_e c_101).symm.trans hf]; trivial)).symm) hend hP hD hS dX5_tellsAnew_237
                  · refine x_al hC hl 3 dX5_tellsAnew_104 rfl rfl ?_
                    refine x_al hC hl 3 dX5_tellsAnew_105 rfl rfl ?_
                    refine x_ilw hC hl 0 dX5_tellsAnew_106 rfl ?_
                    refine x_ic hC dX5_tellsAnew_108 ?_
                    refine x_vI (As := [.int (iI (mNext xS ((mCopy mS mA)) xB (xS 1))), .int (iI 0)]) hC (k5_of l D cs h xF xS (mCopy mS mA) mV mT xB (mNext xS ((mCopy mS mA)) xB (xS 1)) 0 (by first | assumption | omega) (by first | assumption | omega) (by first | assumption | omega)) lk5_34 (q0 := 0) (ci := 5) rfl rfl rfl (sub_all hP hD hS hA) hP hS rfl hl.1 rfl (Nat.le_of_ble_eq_true rfl) ⟨rfl, rfl⟩ ⟨Nat.le_of_ble_eq_true rfl, Nat.le_of_ble_eq_true rfl⟩ ⟨Nat.le_of_ble_eq_true rfl, Nat.le_of_ble_eq_true rfl⟩ dX5_tellsAnew_109 (fun H locs hP hD hS hHs => ?_)
                    have q_109 := imB (S := xS) (by assumption) (29 + 4 * (mNext xS ((mCopy mS mA)) xB (xS 1)) + 0) (by omega)
                    refine x_al hC hl 3 dX5_tellsAnew_112 rfl rfl ?_
                    refine x_ilw hC hl 0 dX5_tellsAnew_113 rfl ?_
                    refine x_ic hC dX5_tellsAnew_115 ?_
                    refine x_vI (As := [.int (iI (mNext xS ((mCopy mS mA)) xB (xS 1))), .int (iI 1)]) hC (k5_of l D cs h xF xS (mCopy mS mA) mV mT xB (mNext xS ((mCopy mS mA)) xB (xS 1)) 1 (by first | assumption | omega) (by first | assumption | omega) (by first | assumption | omega)) lk5_34 (q0 := 0) (ci := 5) rfl rfl rfl (sub_all hP hD hS hA) hP hS rfl hl.1 rfl (Nat.le_of_ble_eq_true rfl) ⟨rfl, rfl⟩ ⟨Nat.le_of_ble_eq_true rfl, Nat.le_of_ble_eq_true rfl⟩ ⟨Nat.le_of_ble_eq_true rfl, Nat.le_of_ble_eq_true rfl⟩ dX5_tellsAnew_116 (fun H locs hP hD hS hHs => ?_)
                    have q_116 := imB (S := xS) (by assumption) (29 + 4 * (mNext xS ((mCopy mS mA)) xB (xS 1)) + 1) (by omega)
                    refine x_al hC hl 3 dX5_tellsAnew_119 rfl rfl ?_
                    refine x_ilw hC hl 0 dX5_tellsAnew_120 rfl ?_
                    refine x_ic hC dX5_tellsAnew_122 ?_
                    refine x_vI (As := [.int (iI (mNext xS ((mCopy mS mA)) xB (xS 1))), .int (iI 2)]) hC (k5_of l D cs h xF xS (mCopy mS mA) mV mT xB (mNext xS ((mCopy mS mA)) xB (xS 1)) 2 (by first | assumption | omega) (by first | assumption | omega) (by first | assumption | omega)) lk5_34 (q0 := 0) (ci := 5) rfl rfl rfl (sub_all hP hD hS hA) hP hS rfl hl.1 rfl (Nat.le_of_ble_eq_true rfl) ⟨rfl, rfl⟩ ⟨Nat.le_of_ble_eq_true rfl, Nat.le_of_ble_eq_true rfl⟩ ⟨Nat.le_of_ble_eq_true rfl, Nat.le_of_ble_eq_true rfl⟩ dX5_tellsAnew_123 (fun H locs hP hD hS hHs => ?_)
                    have q_123 := imB (S := xS) (by assumption) (29 + 4 * (mNext xS ((mCopy mS mA)) xB (xS 1)) + 2) (by omega)
                    refine x_il hC hl 4 dX5_tellsAnew_126 rfl rfl ?_
                    refine x_vI (As := [.int (iI (xS (29 + 4 * (mNext xS ((mCopy mS mA)) xB (xS 1)) + 0))), .int (iI (xS (29 + 4 * (mNext xS ((mCopy mS mA)) xB (xS 1)) + 1))), .int (iI (xS (29 + 4 * (mNext xS ((mCopy mS mA)) xB (xS 1)) + 2))), .int (iI rule)]) hC (k5_gets l D cs h xF xS (mCopy mS mA) mV mT xB (xS (29 + 4 * (mNext xS ((mCopy mS mA)) xB (xS 1)) + 0)) (xS (29 + 4 * (mNext xS ((mCopy mS mA)) xB (xS 1)) + 1)) (xS (29 + 4 * (mNext xS ((mCopy mS mA)) xB (xS 1)) + 2)) rule (by first | assumption | omega) (by first | assumption | omega) (by first | assumption | omega) (by first | assumption | omega) (by first | assumption | omega)) lk5_68 (q0 := 0) (ci := 5) rfl rfl rfl (sub_all hP hD hS hA) hP hS rfl hl.1 rfl (Nat.le_of_ble_eq_true rfl) ⟨rfl, rfl⟩ ⟨Nat.le_of_ble_eq_true rfl, Nat.le_of_ble_eq_true rfl⟩ ⟨Nat.le_of_ble_eq_true rfl, Nat.le_of_ble_eq_true rfl⟩ dX5_tellsAnew_127 (fun H locs hP hD hS hHs => ?_)
                    have q_127 := mGets_rg xS (xS (29 + 4 * (mNext xS ((mCopy mS mA)) xB (xS 1)) + 0)) (xS (29 + 4 * (mNext xS ((mCopy mS mA)) xB (xS 1)) + 1)) (xS (29 + 4 * (mNext xS ((mCopy mS mA)) xB (xS 1)) + 2)) rule
                    refine x_isw hC [(5, .int (iI (mGets xS (xS (29 + 4 * (mNext xS ((mCopy mS mA)) xB (xS 1)) + 0)) (xS (29 + 4 * (mNext xS ((mCopy mS mA)) xB (xS 1)) + 1)) (xS (29 + 4 * (mNext xS ((mCopy mS mA)) xB (xS 1)) + 2)) rule))), (4, .int (iI (mNext xS ((mCopy mS mA)) xB (xS 1)))), (3, .int (iI (mS 2))), (2, .int (iI (mS 3))), (0, .ref (h 0)), (1, .int (iI rule))] hl dX5_tellsAnew_130 (by decide) rfl (fun ls hl => ?_)
                    refine x_ilw hC hl 0 dX5_tellsAnew_132 rfl ?_
                    refine x_ic hC dX5_tellsAnew_134 ?_
                    refine x_ic_ne hC 140 dX5_tellsAnew_135 (by decide) (by omega) (by omega) (fun c_135 => ?_) (fun c_135 => ?_)
                    · refine x_al hC hl 4 dX5_tellsAnew_140 rfl rfl ?_
                      refine x_get5 (v := .ref (h 5)) hC hP 0 rfl 7 (by decide) tb_626 rfl rfl dX5_tellsAnew_141 ?_
                      refine x_ilw hC hl 1 dX5_tellsAnew_144 rfl ?_
                      refine x_ic hC dX5_tellsAnew_146 ?_
                      refine x_zast hC hP hD hS 5 rfl (by omega) (by decide) (by decide) dX5_tellsAnew_147 (fun H locs hP hD hS => ?_)
                      have hP : va_P D vwCl (wM h cs xF xS (mCopy mS mA) mV mT (u1 xB (mNext xS ((mCopy mS mA)) xB (xS 1)) 1)) H := hP
                      have hD : va_D A (wM h cs xF xS (mCopy mS mA) mV mT (u1 xB (mNext xS ((mCopy mS mA)) xB (xS 1)) 1)) := hD
                      refine x_al hC hl 4 dX5_tellsAnew_148 rfl rfl ?_
                      refine x_get5 (v := .ref (h 1)) hC hP 0 rfl 1 (by decide) tb_620 rfl rfl dX5_tellsAnew_149 ?_
                      refine x_bi hC dX5_tellsAnew_152 (by decide) ?_
                      refine x_ic hC dX5_tellsAnew_154 ?_
                      refine x_ilw hC hl 1 dX5_tellsAnew_155 rfl ?_
                      refine x_imul hC dX5_tellsAnew_157 ?_
                      refine x_iadd hC dX5_tellsAnew_158 ?_
                      refine x_ic hC dX5_tellsAnew_159 ?_
                      refine x_iadd hC dX5_tellsAnew_160 ?_
                      refine x_ilw hC hl 0 dX5_tellsAnew_161 rfl ?_
                      refine x_iast hC hP hD hS 1 rfl (by omega) (by decide) dX5_tellsAnew_163 (fun H locs hP hD hS => ?_)
                      have hP : va_P D vwCl (wM h cs xF (u1 xS ((29 + (4 * (mNext xS ((mCopy mS mA)) xB (xS 1)))) + 3) (mGets xS (xS (29 + 4 * (mNext xS ((mCopy mS mA)) xB (xS 1)) + 0)) (xS (29 + 4 * (mNext xS ((mCopy mS mA)) xB (xS 1)) + 1)) (xS (29 + 4 * (mNext xS ((mCopy mS mA)) xB (xS 1)) + 2)) rule)) (mCopy mS mA) mV mT (u1 xB (mNext xS ((mCopy mS mA)) xB (xS 1)) 1)) H := hP
                      have hD : va_D A (wM h cs xF (u1 xS ((29 + (4 * (mNext xS ((mCopy mS mA)) xB (xS 1)))) + 3) (mGets xS (xS (29 + 4 * (mNext xS ((mCopy mS mA)) xB (xS 1)) + 0)) (xS (29 + 4 * (mNext xS ((mCopy mS mA)) xB (xS 1)) + 1)) (xS (29 + 4 * (mNext xS ((mCopy mS mA)) xB (xS 1)) + 2)) rule)) (mCopy mS mA) mV mT (u1 xB (mNext xS ((mCopy mS mA)) xB (xS 1)) 1)) := hD
                      have hI3b : IM ((u1 xS ((29 + (4 * (mNext xS ((mCopy mS mA)) xB (xS 1)))) + 3) (mGets xS (xS (29 + 4 * (mNext xS ((mCopy mS mA)) xB (xS 1)) + 0)) (xS (29 + 4 * (mNext xS ((mCopy mS mA)) xB (xS 1)) + 1)) (xS (29 + 4 * (mNext xS ((mCopy mS mA)) xB (xS 1)) + 2)) rule))) := IM_hi hI3 (by omega) (by omega)
                      refine x_al hC hl 4 dX5_tellsAnew_164 rfl rfl ?_
                      refine x_ilw hC hl 0 dX5_tellsAnew_165 rfl ?_
                      refine x_vV (As := [.int (iI (mGets xS (xS (29 + 4 * (mNext xS ((mCopy mS mA)) xB (xS 1)) + 0)) (xS (29 + 4 * (mNext xS ((mCopy mS mA)) xB (xS 1)) + 1)) (xS (29 + 4 * (mNext xS ((mCopy mS mA)) xB (xS 1)) + 2)) rule))]) hC (k5_opens l D cs h xF (u1 xS ((29 + (4 * (mNext xS ((mCopy mS mA)) xB (xS 1)))) + 3) (mGets xS (xS (29 + 4 * (mNext xS ((mCopy mS mA)) xB (xS 1)) + 0)) (xS (29 + 4 * (mNext xS ((mCopy mS mA)) xB (xS 1)) + 1)) (xS (29 + 4 * (mNext xS ((mCopy mS mA)) xB (xS 1)) + 2)) rule)) (mCopy mS mA) mV mT (u1 xB (mNext xS ((mCopy mS mA)) xB (xS 1)) 1) (mGets xS (xS (29 + 4 * (mNext xS ((mCopy mS mA)) xB (xS 1)) + 0)) (xS (29 + 4 * (mNext xS ((mCopy mS mA)) xB (xS 1)) + 1)) (xS (29 + 4 * (mNext xS ((mCopy mS mA)) xB (xS 1)) + 2)) rule) (by first | assumption | omega) (by first | assumption | omega)) lk5_74 (q0 := 0) (ci := 5) rfl rfl rfl (sub_all hP hD hS hA) hP hS rfl hl.1 rfl (Nat.le_of_ble_eq_true rfl) ⟨rfl, rfl⟩ ⟨Nat.le_of_ble_eq_true rfl, Nat.le_of_ble_eq_true rfl⟩ ⟨Nat.le_of_ble_eq_true rfl, Nat.le_of_ble_eq_true rfl⟩ dX5_tellsAnew_167 (fun H locs hP hD hS hHs => ?_)
                      have hP : va_P D vwCl (wM h cs xF (mOpens (u1 xS ((29 + (4 * (mNext xS ((mCopy mS mA)) xB (xS 1)))) + 3) (mGets xS (xS (29 + 4 * (mNext xS ((mCopy mS mA)) xB (xS 1)) + 0)) (xS (29 + 4 * (mNext xS ((mCopy mS mA)) xB (xS 1)) + 1)) (xS (29 + 4 * (mNext xS ((mCopy mS mA)) xB (xS 1)) + 2)) rule)) (mGets xS (xS (29 + 4 * (mNext xS ((mCopy mS mA)) xB (xS 1)) + 0)) (xS (29 + 4 * (mNext xS ((mCopy mS mA)) xB (xS 1)) + 1)) (xS (29 + 4 * (mNext xS ((mCopy mS mA)) xB (xS 1)) + 2)) rule)) (mCopy mS mA) mV mT (u1 xB (mNext xS ((mCopy mS mA)) xB (xS 1)) 1)) H := hP
                      have hD : va_D A (wM h cs xF (mOpens (u1 xS ((29 + (4 * (mNext xS ((mCopy mS mA)) xB (xS 1)))) + 3) (mGets xS (xS (29 + 4 * (mNext xS ((mCopy mS mA)) xB (xS 1)) + 0)) (xS (29 + 4 * (mNext xS ((mCopy mS mA)) xB (xS 1)) + 1)) (xS (29 + 4 * (mNext xS ((mCopy mS mA)) xB (xS 1)) + 2)) rule)) (mGets xS (xS (29 + 4 * (mNext xS ((mCopy mS mA)) xB (xS 1)) + 0)) (xS (29 + 4 * (mNext xS ((mCopy mS mA)) xB (xS 1)) + 1)) (xS (29 + 4 * (mNext xS ((mCopy mS mA)) xB (xS 1)) + 2)) rule)) (mCopy mS mA) mV mT (u1 xB (mNext xS ((mCopy mS mA)) xB (xS 1)) 1)) := hD
                      have hI4 : IM ((mOpens (u1 xS ((29 + (4 * (mNext xS ((mCopy mS mA)) xB (xS 1)))) + 3) (mGets xS (xS (29 + 4 * (mNext xS ((mCopy mS mA)) xB (xS 1)) + 0)) (xS (29 + 4 * (mNext xS ((mCopy mS mA)) xB (xS 1)) + 1)) (xS (29 + 4 * (mNext xS ((mCopy mS mA)) xB (xS 1)) + 2)) rule)) (mGets xS (xS (29 + 4 * (mNext xS ((mCopy mS mA)) xB (xS 1)) + 0)) (xS (29 + 4 * (mNext xS ((mCopy mS mA)) xB (xS 1)) + 1)) (xS (29 + 4 * (mNext xS ((mCopy mS mA)) xB (xS 1)) + 2)) rule))) := IM_opens (IM_hi hI3 (by omega) (by omega)) (by omega)
                      have qa := imB hAA (29 + 4 * mNext xS (mCopy mS mA) xB (xS 1) + 3) (by omega)
                      refine x_al hC hl 4 dX5_tellsAnew_170 rfl rfl ?_
                      refine x_dup hC dX5_tellsAnew_171 rfl ?_
                      refine x_get5 (v := .int (iI (xF 10))) hC hP 0 rfl 10 (by decide) tb_629 rfl rfl dX5_tellsAnew_172 ?_
                      refine x_al hC hl 4 dX5_tellsAnew_175 rfl rfl ?_
                      refine x_get5 (v := .ref (h 2)) hC hP 0 rfl 2 (by decide) tb_621 rfl rfl dX5_tellsAnew_176 ?_
                      refine x_bi hC dX5_tellsAnew_179 (by decide) ?_
                      refine x_ic hC dX5_tellsAnew_181 ?_
                      refine x_ilw hC hl 1 dX5_tellsAnew_182 rfl ?_
                      refine x_imul hC dX5_tellsAnew_184 ?_
                      refine x_iadd hC dX5_tellsAnew_185 ?_
                      refine x_ic hC dX5_tellsAnew_186 ?_
                      refine x_iadd hC dX5_tellsAnew_187 ?_
                      refine x_iald hC hP 2 rfl (by omega) (by decide) dX5_tellsAnew_188 ?_
                      have q_188 := imB (S := (mCopy mS mA)) (by assumption) (((29 + (4 * (mNext xS ((mCopy mS mA)) xB (xS 1)))) + 3)) (by omega)
                      refine x_ilw hC hl 0 dX5_tellsAnew_189 rfl ?_
                      refine x_ic_ne hC 198 dX5_tellsAnew_191 (by decide) (by omega) (by omega) (fun c_191 => ?_) (fun c_191 => ?_)
                      · refine x_ic hC dX5_tellsAnew_198 ?_
                        refine x_iadd hC dX5_tellsAnew_199 ?_
                        refine x_put5_10 hC hP hD hS 0 rfl tb_629 dX5_tellsAnew_200 (fun H locs hP hD hS => ?_)
                        have hP : va_P D vwCl (wM h cs (u1 xF 10 ((xF 10) + 1)) (mOpens (u1 xS ((29 + (4 * (mNext xS ((mCopy mS mA)) xB (xS 1)))) + 3) (mGets xS (xS (29 + 4 * (mNext xS ((mCopy mS mA)) xB (xS 1)) + 0)) (xS (29 + 4 * (mNext xS ((mCopy mS mA)) xB (xS 1)) + 1)) (xS (29 + 4 * (mNext xS ((mCopy mS mA)) xB (xS 1)) + 2)) rule)) (mGets xS (xS (29 + 4 * (mNext xS ((mCopy mS mA)) xB (xS 1)) + 0)) (xS (29 + 4 * (mNext xS ((mCopy mS mA)) xB (xS 1)) + 1)) (xS (29 + 4 * (mNext xS ((mCopy mS mA)) xB (xS 1)) + 2)) rule)) (mCopy mS mA) mV mT (u1 xB (mNext xS ((mCopy mS mA)) xB (xS 1)) 1)) H := hP
                        have hD : va_D A (wM h cs (u1 xF 10 ((xF 10) + 1)) (mOpens (u1 xS ((29 + (4 * (mNext xS ((mCopy mS mA)) xB (xS 1)))) + 3) (mGets xS (xS (29 + 4 * (mNext xS ((mCopy mS mA)) xB (xS 1)) + 0)) (xS (29 + 4 * (mNext xS ((mCopy mS mA)) xB (xS 1)) + 1)) (xS (29 + 4 * (mNext xS ((mCopy mS mA)) xB (xS 1)) + 2)) rule)) (mGets xS (xS (29 + 4 * (mNext xS ((mCopy mS mA)) xB (xS 1)) + 0)) (xS (29 + 4 * (mNext xS ((mCopy mS mA)) xB (xS 1)) + 1)) (xS (29 + 4 * (mNext xS ((mCopy mS mA)) xB (xS 1)) + 2)) rule)) (mCopy mS mA) mV mT (u1 xB (mNext xS ((mCopy mS mA)) xB (xS 1)) 1)) := hD
                        have z4 := hI4.2.1
                        have hB4 : B01 ((u1 xB (mNext xS ((mCopy mS mA)) xB (xS 1)) 1)) := B01_u hB3 (by omega)
                        refine x_al hC hl 4 dX5_tellsAnew_203 rfl rfl ?_
                        refine x_vI (As := []) hC (k5_nextTalk l D cs h (u1 xF 10 ((xF 10) + 1)) (mOpens (u1 xS ((29 + (4 * (mNext xS ((mCopy mS mA)) xB (xS 1)))) + 3) (mGets xS (xS (29 + 4 * (mNext xS ((mCopy mS mA)) xB (xS 1)) + 0)) (xS (29 + 4 * (mNext xS ((mCopy mS mA)) xB (xS 1)) + 1)) (xS (29 + 4 * (mNext xS ((mCopy mS mA)) xB (xS 1)) + 2)) rule)) (mGets xS (xS (29 + 4 * (mNext xS ((mCopy mS mA)) xB (xS 1)) + 0)) (xS (29 + 4 * (mNext xS ((mCopy mS mA)) xB (xS 1)) + 1)) (xS (29 + 4 * (mNext xS ((mCopy mS mA)) xB (xS 1)) + 2)) rule)) (mCopy mS mA) mV mT (u1 xB (mNext xS ((mCopy mS mA)) xB (xS 1)) 1) (by first | assumption | omega) (by first | assumption | omega) (by first | assumption | omega)) lk5_119 (q0 := 0) (ci := 5) rfl rfl rfl (sub_all hP hD hS hA) hP hS rfl hl.1 rfl (Nat.le_of_ble_eq_true rfl) ⟨rfl, rfl⟩ ⟨Nat.le_of_ble_eq_true rfl, Nat.le_of_ble_eq_true rfl⟩ ⟨Nat.le_of_ble_eq_true rfl, Nat.le_of_ble_eq_true rfl⟩ dX5_tellsAnew_204 (fun H locs hP hD hS hHs => ?_)
                        have q_204 := mNext_rg (mOpens (u1 xS ((29 + (4 * (mNext xS ((mCopy mS mA)) xB (xS 1)))) + 3) (mGets xS (xS (29 + 4 * (mNext xS ((mCopy mS mA)) xB (xS 1)) + 0)) (xS (29 + 4 * (mNext xS ((mCopy mS mA)) xB (xS 1)) + 1)) (xS (29 + 4 * (mNext xS ((mCopy mS mA)) xB (xS 1)) + 2)) rule)) (mGets xS (xS (29 + 4 * (mNext xS ((mCopy mS mA)) xB (xS 1)) + 0)) (xS (29 + 4 * (mNext xS ((mCopy mS mA)) xB (xS 1)) + 1)) (xS (29 + 4 * (mNext xS ((mCopy mS mA)) xB (xS 1)) + 2)) rule)) (mCopy mS mA) (u1 xB (mNext xS ((mCopy mS mA)) xB (xS 1)) 1) (n := (mOpens (u1 xS ((29 + (4 * (mNext xS ((mCopy mS mA)) xB (xS 1)))) + 3) (mGets xS (xS (29 + 4 * (mNext xS ((mCopy mS mA)) xB (xS 1)) + 0)) (xS (29 + 4 * (mNext xS ((mCopy mS mA)) xB (xS 1)) + 1)) (xS (29 + 4 * (mNext xS ((mCopy mS mA)) xB (xS 1)) + 2)) rule)) (mGets xS (xS (29 + 4 * (mNext xS ((mCopy mS mA)) xB (xS 1)) + 0)) (xS (29 + 4 * (mNext xS ((mCopy mS mA)) xB (xS 1)) + 1)) (xS (29 + 4 * (mNext xS ((mCopy mS mA)) xB (xS 1)) + 2)) rule)) 1) (by omega)
                        refine x_isw hC [(4, .int (iI (mNext (mOpens (u1 xS ((29 + (4 * (mNext xS ((mCopy mS mA)) xB (xS 1)))) + 3) (mGets xS (xS (29 + 4 * (mNext xS ((mCopy mS mA)) xB (xS 1)) + 0)) (xS (29 + 4 * (mNext xS ((mCopy mS mA)) xB (xS 1)) + 1)) (xS (29 + 4 * (mNext xS ((mCopy mS mA)) xB (xS 1)) + 2)) rule)) (mGets xS (xS (29 + 4 * (mNext xS ((mCopy mS mA)) xB (xS 1)) + 0)) (xS (29 + 4 * (mNext xS ((mCopy mS mA)) xB (xS 1)) + 1)) (xS (29 + 4 * (mNext xS ((mCopy mS mA)) xB (xS 1)) + 2)) rule)) (mCopy mS mA) (u1 xB (mNext xS ((mCopy mS mA)) xB (xS 1)) 1) ((mOpens (u1 xS ((29 + (4 * (mNext xS ((mCopy mS mA)) xB (xS 1)))) + 3) (mGets xS (xS (29 + 4 * (mNext xS ((mCopy mS mA)) xB (xS 1)) + 0)) (xS (29 + 4 * (mNext xS ((mCopy mS mA)) xB (xS 1)) + 1)) (xS (29 + 4 * (mNext xS ((mCopy mS mA)) xB (xS 1)) + 2)) rule)) (mGets xS (xS (29 + 4 * (mNext xS ((mCopy mS mA)) xB (xS 1)) + 0)) (xS (29 + 4 * (mNext xS ((mCopy mS mA)) xB (xS 1)) + 1)) (xS (29 + 4 * (mNext xS ((mCopy mS mA)) xB (xS 1)) + 2)) rule)) 1)))), (5, .int (iI (mGets xS (xS (29 + 4 * (mNext xS ((mCopy mS mA)) xB (xS 1)) + 0)) (xS (29 + 4 * (mNext xS ((mCopy mS mA)) xB (xS 1)) + 1)) (xS (29 + 4 * (mNext xS ((mCopy mS mA)) xB (xS 1)) + 2)) rule))), (3, .int (iI (mS 2))), (2, .int (iI (mS 3))), (0, .ref (h 0)), (1, .int (iI rule))] hl dX5_tellsAnew_207 (by decide) rfl (fun ls hl => ?_)
                        refine x_goto hC 98 dX5_tellsAnew_209 (by decide) ?_
                        have hl := lv_sub (l' := [(4, .int (iI (mNext (mOpens (u1 xS ((29 + (4 * (mNext xS ((mCopy mS mA)) xB (xS 1)))) + 3) (mGets xS (xS (29 + 4 * (mNext xS ((mCopy mS mA)) xB (xS 1)) + 0)) (xS (29 + 4 * (mNext xS ((mCopy mS mA)) xB (xS 1)) + 1)) (xS (29 + 4 * (mNext xS ((mCopy mS mA)) xB (xS 1)) + 2)) rule)) (mGets xS (xS (29 + 4 * (mNext xS ((mCopy mS mA)) xB (xS 1)) + 0)) (xS (29 + 4 * (mNext xS ((mCopy mS mA)) xB (xS 1)) + 1)) (xS (29 + 4 * (mNext xS ((mCopy mS mA)) xB (xS 1)) + 2)) rule)) ((mCopy mS mA)) (u1 xB (mNext xS ((mCopy mS mA)) xB (xS 1)) 1) ((mOpens (u1 xS ((29 + (4 * (mNext xS ((mCopy mS mA)) xB (xS 1)))) + 3) (mGets xS (xS (29 + 4 * (mNext xS ((mCopy mS mA)) xB (xS 1)) + 0)) (xS (29 + 4 * (mNext xS ((mCopy mS mA)) xB (xS 1)) + 1)) (xS (29 + 4 * (mNext xS ((mCopy mS mA)) xB (xS 1)) + 2)) rule)) (mGets xS (xS (29 + 4 * (mNext xS ((mCopy mS mA)) xB (xS 1)) + 0)) (xS (29 + 4 * (mNext xS ((mCopy mS mA)) xB (xS 1)) + 1)) (xS (29 + 4 * (mNext xS ((mCopy mS mA)) xB (xS 1)) + 2)) rule)) 1)))), (3, .int (iI (mS 2))), (2, .int (iI (mS 3))), (0, .ref (h 0)), (1, .int (iI rule))]) hl [0, 2, 3, 4, 5] rfl
                        exact ih_98 k2 (u1 xF 10 ((xF 10) + 1)) (mOpens (u1 xS ((29 + (4 * (mNext xS ((mCopy mS mA)) xB (xS 1)))) + 3) (mGets xS (xS (29 + 4 * (mNext xS ((mCopy mS mA)) xB (xS 1)) + 0)) (xS (29 + 4 * (mNext xS ((mCopy mS mA)) xB (xS 1)) + 1)) (xS (29 + 4 * (mNext xS ((mCopy mS mA)) xB (xS 1)) + 2)) rule)) (mGets xS (xS (29 + 4 * (mNext xS ((mCopy mS mA)) xB (xS 1)) + 0)) (xS (29 + 4 * (mNext xS ((mCopy mS mA)) xB (xS 1)) + 1)) (xS (29 + 4 * (mNext xS ((mCopy mS mA)) xB (xS 1)) + 2)) rule)) (u1 xB (mNext xS ((mCopy mS mA)) xB (xS 1)) 1) (by have := cz_u1 xB (t := mNext xS (mCopy mS mA) xB (xS 1)) (by omega) (mNext_ok _ _ _ z3.1 c_101).2 20 (by omega); omega) hI4 (B01_u hB3 (by omega)) (by first | exact (mAnew_s c_101 c_135 rfl rfl (iif_t c_191).symm).symm.trans hf | exact (mAnew_s c_101 c_135 rfl rfl (iif_f c_191).symm).symm.trans hf) (by omega) H locs ls hP hD hS hl
                      · refine x_ic hC dX5_tellsAnew_194 ?_
                        refine x_goto hC 199 dX5_tellsAnew_195 (by decide) ?_
                        refine x_iadd hC dX5_tellsAnew_199 ?_
                        refine x_put5_10 hC hP hD hS 0 rfl tb_629 dX5_tellsAnew_200 (fun H locs hP hD hS => ?_)
                        have hP : va_P D vwCl (wM h cs (u1 xF 10 ((xF 10) + 0)) (mOpens (u1 xS ((29 + (4 * (mNext xS ((mCopy mS mA)) xB (xS 1)))) + 3) (mGets xS (xS (29 + 4 * (mNext xS ((mCopy mS mA)) xB (xS 1)) + 0)) (xS (29 + 4 * (mNext xS ((mCopy mS mA)) xB (xS 1)) + 1)) (xS (29 + 4 * (mNext xS ((mCopy mS mA)) xB (xS 1)) + 2)) rule)) (mGets xS (xS (29 + 4 * (mNext xS ((mCopy mS mA)) xB (xS 1)) + 0)) (xS (29 + 4 * (mNext xS ((mCopy mS mA)) xB (xS 1)) + 1)) (xS (29 + 4 * (mNext xS ((mCopy mS mA)) xB (xS 1)) + 2)) rule)) (mCopy mS mA) mV mT (u1 xB (mNext xS ((mCopy mS mA)) xB (xS 1)) 1)) H := hP
                        have hD : va_D A (wM h cs (u1 xF 10 ((xF 10) + 0)) (mOpens (u1 xS ((29 + (4 * (mNext xS ((mCopy mS mA)) xB (xS 1)))) + 3) (mGets xS (xS (29 + 4 * (mNext xS ((mCopy mS mA)) xB (xS 1)) + 0)) (xS (29 + 4 * (mNext xS ((mCopy mS mA)) xB (xS 1)) + 1)) (xS (29 + 4 * (mNext xS ((mCopy mS mA)) xB (xS 1)) + 2)) rule)) (mGets xS (xS (29 + 4 * (mNext xS ((mCopy mS mA)) xB (xS 1)) + 0)) (xS (29 + 4 * (mNext xS ((mCopy mS mA)) xB (xS 1)) + 1)) (xS (29 + 4 * (mNext xS ((mCopy mS mA)) xB (xS 1)) + 2)) rule)) (mCopy mS mA) mV mT (u1 xB (mNext xS ((mCopy mS mA)) xB (xS 1)) 1)) := hD
                        have z4 := hI4.2.1
                        have hB4 : B01 ((u1 xB (mNext xS ((mCopy mS mA)) xB (xS 1)) 1)) := B01_u hB3 (by omega)
                        refine x_al hC hl 4 dX5_tellsAnew_203 rfl rfl ?_
                        refine x_vI (As := []) hC (k5_nextTalk l D cs h (u1 xF 10 ((xF 10) + 0)) (mOpens (u1 xS ((29 + (4 * (mNext xS ((mCopy mS mA)) xB (xS 1)))) + 3) (mGets xS (xS (29 + 4 * (mNext xS ((mCopy mS mA)) xB (xS 1)) + 0)) (xS (29 + 4 * (mNext xS ((mCopy mS mA)) xB (xS 1)) + 1)) (xS (29 + 4 * (mNext xS ((mCopy mS mA)) xB (xS 1)) + 2)) rule)) (mGets xS (xS (29 + 4 * (mNext xS ((mCopy mS mA)) xB (xS 1)) + 0)) (xS (29 + 4 * (mNext xS ((mCopy mS mA)) xB (xS 1)) + 1)) (xS (29 + 4 * (mNext xS ((mCopy mS mA)) xB (xS 1)) + 2)) rule)) (mCopy mS mA) mV mT (u1 xB (mNext xS ((mCopy mS mA)) xB (xS 1)) 1) (by first | assumption | omega) (by first | assumption | omega) (by first | assumption | omega)) lk5_119 (q0 := 0) (ci := 5) rfl rfl rfl (sub_all hP hD hS hA) hP hS rfl hl.1 rfl (Nat.le_of_ble_eq_true rfl) ⟨rfl, rfl⟩ ⟨Nat.le_of_ble_eq_true rfl, Nat.le_of_ble_eq_true rfl⟩ ⟨Nat.le_of_ble_eq_true rfl, Nat.le_of_ble_eq_true rfl⟩ dX5_tellsAnew_204 (fun H locs hP hD hS hHs => ?_)
                        have q_204_2 := mNext_rg (mOpens (u1 xS ((29 + (4 * (mNext xS ((mCopy mS mA)) xB (xS 1)))) + 3) (mGets xS (xS (29 + 4 * (mNext xS ((mCopy mS mA)) xB (xS 1)) + 0)) (xS (29 + 4 * (mNext xS ((mCopy mS mA)) xB (xS 1)) + 1)) (xS (29 + 4 * (mNext xS ((mCopy mS mA)) xB (xS 1)) + 2)) rule)) (mGets xS (xS (29 + 4 * (mNext xS ((mCopy mS mA)) xB (xS 1)) + 0)) (xS (29 + 4 * (mNext xS ((mCopy mS mA)) xB (xS 1)) + 1)) (xS (29 + 4 * (mNext xS ((mCopy mS mA)) xB (xS 1)) + 2)) rule)) (mCopy mS mA) (u1 xB (mNext xS ((mCopy mS mA)) xB (xS 1)) 1) (n := (mOpens (u1 xS ((29 + (4 * (mNext xS ((mCopy mS mA)) xB (xS 1)))) + 3) (mGets xS (xS (29 + 4 * (mNext xS ((mCopy mS mA)) xB (xS 1)) + 0)) (xS (29 + 4 * (mNext xS ((mCopy mS mA)) xB (xS 1)) + 1)) (xS (29 + 4 * (mNext xS ((mCopy mS mA)) xB (xS 1)) + 2)) rule)) (mGets xS (xS (29 + 4 * (mNext xS ((mCopy mS mA)) xB (xS 1)) + 0)) (xS (29 + 4 * (mNext xS ((mCopy mS mA)) xB (xS 1)) + 1)) (xS (29 + 4 * (mNext xS ((mCopy mS mA)) xB (xS 1)) + 2)) rule)) 1) (by omega)
                        refine x_isw hC [(4, .int (iI (mNext (mOpens (u1 xS ((29 + (4 * (mNext xS ((mCopy mS mA)) xB (xS 1)))) + 3) (mGets xS (xS (29 + 4 * (mNext xS ((mCopy mS mA)) xB (xS 1)) + 0)) (xS (29 + 4 * (mNext xS ((mCopy mS mA)) xB (xS 1)) + 1)) (xS (29 + 4 * (mNext xS ((mCopy mS mA)) xB (xS 1)) + 2)) rule)) (mGets xS (xS (29 + 4 * (mNext xS ((mCopy mS mA)) xB (xS 1)) + 0)) (xS (29 + 4 * (mNext xS ((mCopy mS mA)) xB (xS 1)) + 1)) (xS (29 + 4 * (mNext xS ((mCopy mS mA)) xB (xS 1)) + 2)) rule)) (mCopy mS mA) (u1 xB (mNext xS ((mCopy mS mA)) xB (xS 1)) 1) ((mOpens (u1 xS ((29 + (4 * (mNext xS ((mCopy mS mA)) xB (xS 1)))) + 3) (mGets xS (xS (29 + 4 * (mNext xS ((mCopy mS mA)) xB (xS 1)) + 0)) (xS (29 + 4 * (mNext xS ((mCopy mS mA)) xB (xS 1)) + 1)) (xS (29 + 4 * (mNext xS ((mCopy mS mA)) xB (xS 1)) + 2)) rule)) (mGets xS (xS (29 + 4 * (mNext xS ((mCopy mS mA)) xB (xS 1)) + 0)) (xS (29 + 4 * (mNext xS ((mCopy mS mA)) xB (xS 1)) + 1)) (xS (29 + 4 * (mNext xS ((mCopy mS mA)) xB (xS 1)) + 2)) rule)) 1)))), (5, .int (iI (mGets xS (xS (29 + 4 * (mNext xS ((mCopy mS mA)) xB (xS 1)) + 0)) (xS (29 + 4 * (mNext xS ((mCopy mS mA)) xB (xS 1)) + 1)) (xS (29 + 4 * (mNext xS ((mCopy mS mA)) xB (xS 1)) + 2)) rule))), (3, .int (iI (mS 2))), (2, .int (iI (mS 3))), (0, .ref (h 0)), (1, .int (iI rule))] hl dX5_tellsAnew_207 (by decide) rfl (fun ls hl => ?_)
                        refine x_goto hC 98 dX5_tellsAnew_209 (by decide) ?_
                        have hl := lv_sub (l' := [(4, .int (iI (mNext (mOpens (u1 xS ((29 + (4 * (mNext xS ((mCopy mS mA)) xB (xS 1)))) + 3) (mGets xS (xS (29 + 4 * (mNext xS ((mCopy mS mA)) xB (xS 1)) + 0)) (xS (29 + 4 * (mNext xS ((mCopy mS mA)) xB (xS 1)) + 1)) (xS (29 + 4 * (mNext xS ((mCopy mS mA)) xB (xS 1)) + 2)) rule)) (mGets xS (xS (29 + 4 * (mNext xS ((mCopy mS mA)) xB (xS 1)) + 0)) (xS (29 + 4 * (mNext xS ((mCopy mS mA)) xB (xS 1)) + 1)) (xS (29 + 4 * (mNext xS ((mCopy mS mA)) xB (xS 1)) + 2)) rule)) ((mCopy mS mA)) (u1 xB (mNext xS ((mCopy mS mA)) xB (xS 1)) 1) ((mOpens (u1 xS ((29 + (4 * (mNext xS ((mCopy mS mA)) xB (xS 1)))) + 3) (mGets xS (xS (29 + 4 * (mNext xS ((mCopy mS mA)) xB (xS 1)) + 0)) (xS (29 + 4 * (mNext xS ((mCopy mS mA)) xB (xS 1)) + 1)) (xS (29 + 4 * (mNext xS ((mCopy mS mA)) xB (xS 1)) + 2)) rule)) (mGets xS (xS (29 + 4 * (mNext xS ((mCopy mS mA)) xB (xS 1)) + 0)) (xS (29 + 4 * (mNext xS ((mCopy mS mA)) xB (xS 1)) + 1)) (xS (29 + 4 * (mNext xS ((mCopy mS mA)) xB (xS 1)) + 2)) rule)) 1)))), (3, .int (iI (mS 2))), (2, .int (iI (mS 3))), (0, .ref (h 0)), (1, .int (iI rule))]) hl [0, 2, 3, 4, 5] rfl
                        exact ih_98 k2 (u1 xF 10 ((xF 10) + 0)) (mOpens (u1 xS ((29 + (4 * (mNext xS ((mCopy mS mA)) xB (xS 1)))) + 3) (mGets xS (xS (29 + 4 * (mNext xS ((mCopy mS mA)) xB (xS 1)) + 0)) (xS (29 + 4 * (mNext xS ((mCopy mS mA)) xB (xS 1)) + 1)) (xS (29 + 4 * (mNext xS ((mCopy mS mA)) xB (xS 1)) + 2)) rule)) (mGets xS (xS (29 + 4 * (mNext xS ((mCopy mS mA)) xB (xS 1)) + 0)) (xS (29 + 4 * (mNext xS ((mCopy mS mA)) xB (xS 1)) + 1)) (xS (29 + 4 * (mNext xS ((mCopy mS mA)) xB (xS 1)) + 2)) rule)) (u1 xB (mNext xS ((mCopy mS mA)) xB (xS 1)) 1) (by have := cz_u1 xB (t := mNext xS (mCopy mS mA) xB (xS 1)) (by omega) (mNext_ok _ _ _ z3.1 c_101).2 20 (by omega); omega) hI4 (B01_u hB3 (by omega)) (by first | exact (mAnew_s c_101 c_135 rfl rfl (iif_t c_191).symm).symm.trans hf | exact (mAnew_s c_101 c_135 rfl rfl (iif_f c_191).symm).symm.trans hf) (by omega) H locs ls hP hD hS hl
                    · refine x_ic hC dX5_tellsAnew_138 ?_
                      have ew_2 : (wM h cs xF xS (mCopy mS mA) mV mT xB) = (wM h cs (mAnF mS mA mF mB rule) ((mAn mS mA mF mB rule).2.2.1) (mCopy mS mA) mV mT ((mAn mS mA mF mB rule).2.2.2)) := (wMc (by unfold mAnF; rw [← (mAnew_f c_101 c_135).symm.trans hf]; exact (iif_F).symm : xF = mAnF mS mA mF mB rule) (by rw [← (mAnew_f c_101 c_135).symm.trans hf] : xS = (mAn mS mA mF mB rule).2.2.1) rfl rfl rfl (by rw [← (mAnew_f c_101 c_135).symm.trans hf] : xB = (mAn mS mA mF mB rule).2.2.2))
                      have hP := vPe hP ew_2
                      have hD := vDe hD ew_2
                      exact x_retI (congrArg iI (b2p_f (by rw [← (mAnew_f c_101 c_135).symm.trans hf]; exact fun h => h)).symm) hend hP hD hS dX5_tellsAnew_139
              have hl := lv_sub (l' := [(4, .int (iI (mNext (mNoIn ((mShut mS 8)) 20) ((mCopy mS mA)) (mZero mB 20) ((mNoIn ((mShut mS 8)) 20) 1)))), (3, .int (iI (mS 2))), (2, .int (iI (mS 3))), (0, .ref (h 0)), (1, .int (iI rule))]) hl [0, 1, 2, 3, 4] rfl
              exact loop_98 (Int.toNat ((21 : Int)) + 1) 21 (u1 mF 10 0) (mNoIn ((mShut mS 8)) 20) (mZero mB 20) (Nat.lt_of_le_of_lt (cz_le _ 20) (by decide)) (by assumption) (B01_zero _) rfl (by omega) H locs ls hP hD hS hl
            · refine x_al hC hl 3 dX5_tellsAnew_63 rfl rfl ?_
              refine x_get5 (v := .ref (h 5)) hC hP 0 rfl 7 (by decide) tb_626 rfl rfl dX5_tellsAnew_64 ?_
              refine x_ilw hC hl 0 dX5_tellsAnew_67 rfl ?_
              refine x_ic hC dX5_tellsAnew_69 ?_
              refine x_zast hC hP hD hS 5 rfl (by omega) (by decide) (by decide) dX5_tellsAnew_70 (fun H locs hP hD hS => ?_)
              have hP : va_P D vwCl (wM h cs (u1 mF 10 0) (mNoIn ((mShut mS 8)) i) (mCopy mS mA) mV mT (u1 (mZero mB i) i 0)) H := hP
              have hD : va_D A (wM h cs (u1 mF 10 0) (mNoIn ((mShut mS 8)) i) (mCopy mS mA) mV mT (u1 (mZero mB i) i 0)) := hD
              refine x_al hC hl 3 dX5_tellsAnew_71 rfl rfl ?_
              refine x_get5 (v := .ref (h 1)) hC hP 0 rfl 1 (by decide) tb_620 rfl rfl dX5_tellsAnew_72 ?_
              refine x_bi hC dX5_tellsAnew_75 (by decide) ?_
              refine x_ic hC dX5_tellsAnew_77 ?_
              refine x_ilw hC hl 0 dX5_tellsAnew_78 rfl ?_
              refine x_imul hC dX5_tellsAnew_80 ?_
              refine x_iadd hC dX5_tellsAnew_81 ?_
              refine x_ic hC dX5_tellsAnew_82 ?_
              refine x_iadd hC dX5_tellsAnew_83 ?_
              refine x_ic hC dX5_tellsAnew_84 ?_
              refine x_iast hC hP hD hS 1 rfl (by omega) (by decide) dX5_tellsAnew_85 (fun H locs hP hD hS => ?_)
              have hP : va_P D vwCl (wM h cs (u1 mF 10 0) (u1 (mNoIn ((mShut mS 8)) i) ((29 + (4 * i)) + 3) (-1)) (mCopy mS mA) mV mT (u1 (mZero mB i) i 0)) H := hP
              have hD : va_D A (wM h cs (u1 mF 10 0) (u1 (mNoIn ((mShut mS 8)) i) ((29 + (4 * i)) + 3) (-1)) (mCopy mS mA) mV mT (u1 (mZero mB i) i 0)) := hD
              refine x_iinc hC [(4, .int (iI (i + 1))), (3, .int (iI (mS 2))), (2, .int (iI (mS 3))), (0, .ref (h 0)), (1, .int (iI rule))] 0 hl dX5_tellsAnew_86 rfl (by decide) rfl (fun ls hl => ?_)
              refine x_goto hC 56 dX5_tellsAnew_89 (by decide) ?_
              have ew_3 : (wM h cs (u1 mF 10 0) (u1 (mNoIn ((mShut mS 8)) i) ((29 + (4 * i)) + 3) (-1)) (mCopy mS mA) mV mT (u1 (mZero mB i) i 0)) = (wM h cs (u1 mF 10 0) (mNoIn ((mShut mS 8)) (i + 1)) (mCopy mS mA) mV mT (mZero mB (i + 1))) := (wMc rfl (by rw [mNoIn_s _ hi0] : u1 (mNoIn ((mShut mS 8)) i) ((29 + (4 * i)) + 3) (-1) = mNoIn ((mShut mS 8)) (i + 1)) rfl rfl rfl (by rw [mZero_s _ hi0] : u1 (mZero mB i) i 0 = mZero mB (i + 1)))
              have hP := vPe hP ew_3
              have hD := vDe hD ew_3
              have hl := lv_sub (l' := [(4, .int (iI (i + 1))), (3, .int (iI (mS 2))), (2, .int (iI (mS 3))), (0, .ref (h 0)), (1, .int (iI rule))]) hl [0, 1, 2, 3, 4] rfl
              exact ih_56 (i + 1) (by omega) (by omega) (by omega) H locs ls hP hD hS hl
        have hl := lv_sub (l' := [(4, .int (iI 0)), (3, .int (iI (mS 2))), (2, .int (iI (mS 3))), (0, .ref (h 0)), (1, .int (iI rule))]) hl [0, 1, 2, 3, 4] rfl
        exact loop_56 (Int.toNat (20 - 0) + 1) 0 (by omega) (by omega) (by omega) H locs ls hP hD hS hl
      · refine x_al hC hl 3 dX5_tellsAnew_33 rfl rfl ?_
        refine x_get5 (v := .ref (h 1)) hC hP 0 rfl 1 (by decide) tb_620 rfl rfl dX5_tellsAnew_34 ?_
        refine x_ic hC dX5_tellsAnew_37 ?_
        refine x_ic hC dX5_tellsAnew_38 ?_
        refine x_ilw hC hl 0 dX5_tellsAnew_39 rfl ?_
        refine x_imul hC dX5_tellsAnew_41 ?_
        refine x_iadd hC dX5_tellsAnew_42 ?_
        refine x_ic hC dX5_tellsAnew_43 ?_
        refine x_iadd hC dX5_tellsAnew_44 ?_
        refine x_ic hC dX5_tellsAnew_45 ?_
        refine x_iast hC hP hD hS 1 rfl (by omega) (by decide) dX5_tellsAnew_46 (fun H locs hP hD hS => ?_)
        have hP : va_P D vwCl (wM h cs (u1 mF 10 0) (u1 (mShut mS i) ((5 + (3 * i)) + 2) 0) (mCopy mS mA) mV mT mB) H := hP
        have hD : va_D A (wM h cs (u1 mF 10 0) (u1 (mShut mS i) ((5 + (3 * i)) + 2) 0) (mCopy mS mA) mV mT mB) := hD
        refine x_iinc hC [(4, .int (iI (i + 1))), (3, .int (iI (mS 2))), (2, .int (iI (mS 3))), (0, .ref (h 0)), (1, .int (iI rule))] 0 hl dX5_tellsAnew_47 rfl (by decide) rfl (fun ls hl => ?_)
        refine x_goto hC 26 dX5_tellsAnew_50 (by decide) ?_
        have ew_4 : (wM h cs (u1 mF 10 0) (u1 (mShut mS i) ((5 + (3 * i)) + 2) 0) (mCopy mS mA) mV mT mB) = (wM h cs (u1 mF 10 0) (mShut mS (i + 1)) (mCopy mS mA) mV mT mB) := (wMc rfl (by rw [mShut_s _ hi0] : u1 (mShut mS i) ((5 + (3 * i)) + 2) 0 = mShut mS (i + 1)) rfl rfl rfl rfl)
        have hP := vPe hP ew_4
        have hD := vDe hD ew_4
        have hl := lv_sub (l' := [(4, .int (iI (i + 1))), (3, .int (iI (mS 2))), (2, .int (iI (mS 3))), (0, .ref (h 0)), (1, .int (iI rule))]) hl [0, 1, 2, 3, 4] rfl
        exact ih_26 (i + 1) (by omega) (by omega) (by omega) H locs ls hP hD hS hl
  have hl := lv_sub (l' := [(4, .int (iI 0)), (3, .int (iI (mS 2))), (2, .int (iI (mS 3))), (0, .ref (h 0)), (1, .int (iI rule))]) hl [0, 1, 2, 3, 4] rfl
  exact loop_26 (Int.toNat (8 - 0) + 1) 0 (by omega) (by omega) (by omega) H locs ls hP hD hS hl
abbrev r5_priceBy : Room := { frames := 5, cells := 0, slots := 0, locals := 123 }
set_option maxHeartbeats 4000000 in
set_option maxRecDepth 100000 in
theorem k5_priceBy (l : Launch) (D : va_G) (cs : Nat → ClassId) (h : Nat → Nat) (mF : Int → Int) (mS : Int → Int) (mA : Int → Int) (mV : Int → Int) (mT : Int → Int) (mB : Int → Int) (rule : Int) (hI : IM mS) (h1 : 0 ≤ rule ∧ rule ≤ 3) : CI l D cs yX5_priceBy cX5_priceBy 3 .int r5_priceBy 0 0 [.ref (h 0), .int (iI rule)] (wM h cs mF mS mA mV mT mB) (wM h cs (mAnF mS mA mF mB rule) mS (mCopy mS mA) mV mT ((mAn mS mA mF mB rule).2.2.2)) (iI (mPrice mS mA mF mB rule)) := by
  refine CI_start (own := RX5) (by decide) rfl rfl (Nat.le_of_ble_eq_true rfl) ?_
  intro p e s m args below meth c Q A ls hC hl hP hD hA hS hend
  have hl : lv_has ls 3 [(0, .ref (h 0)), (1, .int (iI rule))] := hl
  obtain ⟨H, hH⟩ : ∃ H : Heap, H = s.heap := ⟨_, rfl⟩
  have hS : va_S A s.heap H [] := by rw [hH]; exact hS
  rw [← hH] at hP
  obtain ⟨locs, hlocs⟩ : ∃ locs : List Loc, locs = [] := ⟨_, rfl⟩
  rw [← hlocs] at hS
  suffices hgo : W p l e r5_priceBy s m args below meth c H locs 0 0 Q (F0 m 0 ls []) by rw [← hH, ← hlocs]; exact hgo
  clear hH hlocs
  obtain ⟨z0, z1, -⟩ := id hI
  refine x_al hC hl 0 dX5_priceBy_0 rfl rfl ?_
  refine x_il hC hl 1 dX5_priceBy_1 rfl rfl ?_
  refine x_vI (As := [.int (iI rule)]) hC (k5_tellsAnew l D cs h mF mS mA mV mT mB rule (by first | assumption | omega) (by first | assumption | omega)) lk5_128 (q0 := 0) (ci := 5) rfl rfl rfl (sub_all hP hD hS hA) hP hS rfl hl.1 rfl (Nat.le_of_ble_eq_true rfl) ⟨rfl, rfl⟩ ⟨Nat.le_of_ble_eq_true rfl, Nat.le_of_ble_eq_true rfl⟩ ⟨Nat.le_of_ble_eq_true rfl, Nat.le_of_ble_eq_true rfl⟩ dX5_priceBy_2 (fun H locs hP hD hS hHs => ?_)
  have hP : va_P D vwCl (wM h cs (mAnF mS mA mF mB rule) ((mAn mS mA mF mB rule).2.2.1) (mCopy mS mA) mV mT ((mAn mS mA mF mB rule).2.2.2)) H := hP
  have hD : va_D A (wM h cs (mAnF mS mA mF mB rule) ((mAn mS mA mF mB rule).2.2.1) (mCopy mS mA) mV mT ((mAn mS mA mF mB rule).2.2.2)) := hD
  refine x_is hC [(2, .int (iI (b2p (mAn mS mA mF mB rule).1))), (0, .ref (h 0)), (1, .int (iI rule))] hl dX5_priceBy_5 rfl (by decide) rfl (fun ls hl => ?_)
  refine x_al hC hl 1 dX5_priceBy_6 rfl rfl ?_
  refine x_vV (As := []) hC (k5_takeBack l D cs h (mAnF mS mA mF mB rule) ((mAn mS mA mF mB rule).2.2.1) (mCopy mS mA) mV mT ((mAn mS mA mF mB rule).2.2.2) ) lk5_131 (q0 := 0) (ci := 5) rfl rfl rfl (sub_all hP hD hS hA) hP hS rfl hl.1 rfl (Nat.le_of_ble_eq_true rfl) ⟨rfl, rfl⟩ ⟨Nat.le_of_ble_eq_true rfl, Nat.le_of_ble_eq_true rfl⟩ ⟨Nat.le_of_ble_eq_true rfl, Nat.le_of_ble_eq_true rfl⟩ dX5_priceBy_7 (fun H locs hP hD hS hHs => ?_)
  have hP : va_P D vwCl (wM h cs (mAnF mS mA mF mB rule) (mCopy (mCopy mS mA) ((mAn mS mA mF mB rule).2.2.1)) (mCopy mS mA) mV mT ((mAn mS mA mF mB rule).2.2.2)) H := hP
  have hD : va_D A (wM h cs (mAnF mS mA mF mB rule) (mCopy (mCopy mS mA) ((mAn mS mA mF mB rule).2.2.1)) (mCopy mS mA) mV mT ((mAn mS mA mF mB rule).2.2.2)) := hD
  refine x_il hC hl 0 dX5_priceBy_10 rfl rfl ?_
  refine x_if_eq_b hC 21 dX5_priceBy_11 (by decide) (fun c_11 => ?_) (fun c_11 => ?_)
  · refine x_ldc hC (-1000002) tb_720 (by decide) dX5_priceBy_21 ?_
    have ew : (wM h cs (mAnF mS mA mF mB rule) (mCopy (mCopy mS mA) ((mAn mS mA mF mB rule).2.2.1)) (mCopy mS mA) mV mT ((mAn mS mA mF mB rule).2.2.2)) = (wM h cs (mAnF mS mA mF mB rule) mS (mCopy mS mA) mV mT ((mAn mS mA mF mB rule).2.2.2)) := (wMc rfl (by exact mCopy_back (mAn_keeps hI).2.2 : mCopy (mCopy mS mA) ((mAn mS mA mF mB rule).2.2.1) = mS) rfl rfl rfl rfl)
    have hP := vPe hP ew
    have hD := vDe hD ew
    exact x_retI (congrArg iI (by unfold mPrice; first | (rw [iif_t c_11]; unfold mAnF; rw [iif_t c_11]; rfl) | exact (iif_f c_11).symm : (-1000002) = mPrice mS mA mF mB rule)) hend hP hD hS dX5_priceBy_23
  · refine x_al hC hl 1 dX5_priceBy_14 rfl rfl ?_
    refine x_get5 (v := .int (iI ((mAnF mS mA mF mB rule) 8))) hC hP 0 rfl 8 (by decide) tb_627 rfl rfl dX5_priceBy_15 ?_
    refine x_goto hC 23 dX5_priceBy_18 (by decide) ?_
    have ew_2 : (wM h cs (mAnF mS mA mF mB rule) (mCopy (mCopy mS mA) ((mAn mS mA mF mB rule).2.2.1)) (mCopy mS mA) mV mT ((mAn mS mA mF mB rule).2.2.2)) = (wM h cs (mAnF mS mA mF mB rule) mS (mCopy mS mA) mV mT ((mAn mS mA mF mB rule).2.2.2)) := (wMc rfl (by exact mCopy_back (mAn_keeps hI).2.2 : mCopy (mCopy mS mA) ((mAn mS mA mF mB rule).2.2.1) = mS) rfl rfl rfl rfl)
    have hP := vPe hP ew_2
    have hD := vDe hD ew_2
    exact x_retI (congrArg iI (by unfold mPrice; first | (rw [iif_t c_11]; unfold mAnF; rw [iif_t c_11]; rfl) | exact (iif_f c_11).symm : (mAnF mS mA mF mB rule) 8 = mPrice mS mA mF mB rule)) hend hP hD hS dX5_priceBy_23
abbrev r5_empties : Room := { frames := 4, cells := 0, slots := 0, locals := 93 }
set_option maxHeartbeats 4000000 in
set_option maxRecDepth 100000 in
theorem k5_empties (l : Launch) (D : va_G) (cs : Nat → ClassId) (h : Nat → Nat) (mF : Int → Int) (mS : Int → Int) (mA : Int → Int) (mV : Int → Int) (mT : Int → Int) (mB : Int → Int) (room : Int) (hI : IM mS) (h1 : 0 ≤ room ∧ room < 8) : CI l D cs yX5_empties cX5_empties 5 .boolean r5_empties 0 0 [.ref (h 0), .int (iI room)] (wM h cs mF mS mA mV mT mB) (wM h cs mF mS (mCopy mS mA) mV mT mB) (iI (b2p (mEmp room (mS 1 - 0).toNat 0 mS).1)) := by
  refine CI_start (own := RX5) (by decide) rfl b2p_nar (Nat.le_of_ble_eq_true rfl) ?_
  intro p e s m args below meth c Q A ls hC hl hP hD hA hS hend
  have hl : lv_has ls 5 [(0, .ref (h 0)), (1, .int (iI room))] := hl
  obtain ⟨H, hH⟩ : ∃ H : Heap, H = s.heap := ⟨_, rfl⟩
  have hS : va_S A s.heap H [] := by rw [hH]; exact hS
  rw [← hH] at hP
  obtain ⟨locs, hlocs⟩ : ∃ locs : List Loc, locs = [] := ⟨_, rfl⟩
  rw [← hlocs] at hS
  suffices hgo : W p l e r5_empties s m args below meth c H locs 0 0 Q (F0 m 0 ls []) by rw [← hH, ← hlocs]; exact hgo
  clear hH hlocs
  obtain ⟨z0, z1, -⟩ := id hI
  refine x_al hC hl 0 dX5_empties_0 rfl rfl ?_
  refine x_vV (As := []) hC (k5_putAside l D cs h mF mS mA mV mT mB ) lk5_113 (q0 := 0) (ci := 5) rfl rfl rfl (sub_all hP hD hS hA) hP hS rfl hl.1 rfl (Nat.le_of_ble_eq_true rfl) ⟨rfl, rfl⟩ ⟨Nat.le_of_ble_eq_true rfl, Nat.le_of_ble_eq_true rfl⟩ ⟨Nat.le_of_ble_eq_true rfl, Nat.le_of_ble_eq_true rfl⟩ dX5_empties_1 (fun H locs hP hD hS hHs => ?_)
  have hP : va_P D vwCl (wM h cs mF mS (mCopy mS mA) mV mT mB) H := hP
  have hD : va_D A (wM h cs mF mS (mCopy mS mA) mV mT mB) := hD
  refine x_ic hC dX5_empties_4 ?_
  refine x_is hC [(2, .int (iI 1)), (0, .ref (h 0)), (1, .int (iI room))] hl dX5_empties_5 rfl (by decide) rfl (fun ls hl => ?_)
  refine x_ic hC dX5_empties_6 ?_
  refine x_is hC [(3, .int (iI 0)), (2, .int (iI 1)), (0, .ref (h 0)), (1, .int (iI room))] hl dX5_empties_7 rfl (by decide) rfl (fun ls hl => ?_)
  have loop_8 : ∀ (n : Nat) (i : Int) (b : Int) (xS : Int → Int), (hi0 : 0 ≤ i) → (hiN : i ≤ mS 1) → (hb : b = 0 ∨ b = 1) → (hI3 : IM xS) → (h3 : xS 1 = mS 1) → (hX : ∀ j, (j < 0 ∨ 109 ≤ j) → xS j = mS j) → (hf : iif (b = 1) (mEmp room (mS 1 - i).toNat i xS) (False, xS) = mEmp room (mS 1 - 0).toNat 0 mS) → (mS 1 - i) < (n : Int) → ∀ (H : Heap) (locs : List Loc) (ls : Array Slot), va_P D vwCl (wM h cs mF xS (mCopy mS mA) mV mT mB) H → va_D A (wM h cs mF xS (mCopy mS mA) mV mT mB) → va_S A s.heap H locs → lv_has ls 5 [(3, .int (iI i)), (2, .int (iI b)), (0, .ref (h 0)), (1, .int (iI room))] → W p l e r5_empties s m args below meth c H locs 0 0 Q (F0 m 8 ls []) := by
    intro n
    induction n with
    | zero =>
      intro i b xS hi0 hiN hb hI3 h3 hX hf hnn
      exfalso; omega
    | succ n ih_8 =>
      intro i b xS hi0 hiN hb hI3 h3 hX hf hnn H locs ls hP hD hS hl
      have z3 := hI3.2.1
      have ql := mLow_rg xS i
      refine x_il hC hl 0 dX5_empties_8 rfl rfl ?_
      refine x_al hC hl 2 dX5_empties_9 rfl rfl ?_
      refine x_get5 (v := .ref (h 1)) hC hP 0 rfl 1 (by decide) tb_620 rfl rfl dX5_empties_10 ?_
      refine x_ic hC dX5_empties_13 ?_
      refine x_iald hC hP 1 rfl (by omega) (by decide) dX5_empties_14 ?_
      refine x_ic_ge hC 80 dX5_empties_15 (by decide) (by omega) (by omega) (fun c_15 => ?_) (fun c_15 => ?_)
      · refine x_al hC hl 2 dX5_empties_80 rfl rfl ?_
        refine x_vV (As := []) hC (k5_takeBack l D cs h mF xS (mCopy mS mA) mV mT mB ) lk5_131 (q0 := 0) (ci := 5) rfl rfl rfl (sub_all hP hD hS hA) hP hS rfl hl.1 rfl (Nat.le_of_ble_eq_true rfl) ⟨rfl, rfl⟩ ⟨Nat.le_of_ble_eq_true rfl, Nat.le_of_ble_eq_true rfl⟩ ⟨Nat.le_of_ble_eq_true rfl, Nat.le_of_ble_eq_true rfl⟩ dX5_empties_81 (fun H locs hP hD hS hHs => ?_)
        have hP : va_P D vwCl (wM h cs mF (mCopy (mCopy mS mA) xS) (mCopy mS mA) mV mT mB) H := hP
        have hD : va_D A (wM h cs mF (mCopy (mCopy mS mA) xS) (mCopy mS mA) mV mT mB) := hD
        refine x_il hC hl 1 dX5_empties_84 rfl rfl ?_
        have ew : (wM h cs mF (mCopy (mCopy mS mA) xS) (mCopy mS mA) mV mT mB) = (wM h cs mF mS (mCopy mS mA) mV mT mB) := (wMc rfl (by exact mCopy_back hX : mCopy (mCopy mS mA) xS = mS) rfl rfl rfl rfl)
        have hP := vPe hP ew
        have hD := vDe hD ew
        exact x_retI (congrArg iI (by first | (rw [iif_t (by omega), mEmp_e (by omega)] at hf; rw [← hf, b2p_t trivial]; omega) | (rw [iif_f (by omega)] at hf; rw [← hf, b2p_f (fun h => h)]; omega) | (rcases hb with hb | hb; (rw [iif_f (by omega)] at hf; rw [← hf, b2p_f (fun h => h)]; omega); (rw [iif_t (by omega), mEmp_e (by omega)] at hf; rw [← hf, b2p_t trivial]; omega)) : b = b2p (mEmp room (mS 1 - 0).toNat 0 mS).1)) hend hP hD hS dX5_empties_85
      · refine x_il hC hl 1 dX5_empties_18 rfl rfl ?_
        refine x_if_eq hC 80 dX5_empties_19 (by decide) (by omega) (fun c_19 => ?_) (fun c_19 => ?_)
        · refine x_al hC hl 2 dX5_empties_80 rfl rfl ?_
          refine x_vV (As := []) hC (k5_takeBack l D cs h mF xS (mCopy mS mA) mV mT mB ) lk5_131 (q0 := 0) (ci := 5) rfl rfl rfl (sub_all hP hD hS hA) hP hS rfl hl.1 rfl (Nat.le_of_ble_eq_true rfl) ⟨rfl, rfl⟩ ⟨Nat.le_of_ble_eq_true rfl, Nat.le_of_ble_eq_true rfl⟩ ⟨Nat.le_of_ble_eq_true rfl, Nat.le_of_ble_eq_true rfl⟩ dX5_empties_81 (fun H locs hP hD hS hHs => ?_)
          have hP : va_P D vwCl (wM h cs mF (mCopy (mCopy mS mA) xS) (mCopy mS mA) mV mT mB) H := hP
          have hD : va_D A (wM h cs mF (mCopy (mCopy mS mA) xS) (mCopy mS mA) mV mT mB) := hD
          refine x_il hC hl 1 dX5_empties_84 rfl rfl ?_
          have ew_2 : (wM h cs mF (mCopy (mCopy mS mA) xS) (mCopy mS mA) mV mT mB) = (wM h cs mF mS (mCopy mS mA) mV mT mB) := (wMc rfl (by exact mCopy_back hX : mCopy (mCopy mS mA) xS = mS) rfl rfl rfl rfl)
          have hP := vPe hP ew_2
          have hD := vDe hD ew_2
          exact x_retI (congrArg iI (by first | (rw [iif_t (by omega), mEmp_e (by omega)] at hf; rw [← hf, b2p_t trivial]; omega) | (rw [iif_f (by omega)] at hf; rw [← hf, b2p_f (fun h => h)]; omega) | (rcases hb with hb | hb; (rw [iif_f (by omega)] at hf; rw [← hf, b2p_f (fun h => h)]; omega); (rw [iif_t (by omega), mEmp_e (by omega)] at hf; rw [← hf, b2p_t trivial]; omega)) : b = b2p (mEmp room (mS 1 - 0).toNat 0 mS).1)) hend hP hD hS dX5_empties_85
        · refine x_al hC hl 2 dX5_empties_22 rfl rfl ?_
          refine x_il hC hl 0 dX5_empties_23 rfl rfl ?_
          refine x_ic hC dX5_empties_24 ?_
          refine x_vI (As := [.int (iI i), .int (iI 3)]) hC (k5_of l D cs h mF xS (mCopy mS mA) mV mT mB i 3 (by first | assumption | omega) (by first | assumption | omega) (by first | assumption | omega)) lk5_34 (q0 := 0) (ci := 5) rfl rfl rfl (sub_all hP hD hS hA) hP hS rfl hl.1 rfl (Nat.le_of_ble_eq_true rfl) ⟨rfl, rfl⟩ ⟨Nat.le_of_ble_eq_true rfl, Nat.le_of_ble_eq_true rfl⟩ ⟨Nat.le_of_ble_eq_true rfl, Nat.le_of_ble_eq_true rfl⟩ dX5_empties_25 (fun H locs hP hD hS hHs => ?_)
          have q_25 := imB (S := xS) (by assumption) (29 + 4 * i + 3) (by omega)
          refine x_il hC hl 3 dX5_empties_28 rfl rfl ?_
          refine x_ic_ne hC 74 dX5_empties_29 (by decide) (by omega) (by omega) (fun c_29 => ?_) (fun c_29 => ?_)
          · refine x_iinc hC [(3, .int (iI (i + 1))), (2, .int (iI b)), (0, .ref (h 0)), (1, .int (iI room))] 0 hl dX5_empties_74 rfl (by decide) rfl (fun ls hl => ?_)
            refine x_goto hC 8 dX5_empties_77 (by decide) ?_
            have hl := lv_sub (l' := [(3, .int (iI (i + 1))), (2, .int (iI b)), (0, .ref (h 0)), (1, .int (iI room))]) hl [0, 1, 2, 3] rfl
            exact ih_8 (i + 1) b xS (by omega) (by omega) (by first | exact hb | exact Or.inr rfl | exact Or.inl rfl) (by first | exact hI3 | exact IM_hi hI3 (by omega) (by omega)) (by first | exact h3 | (rw [u1_n (by omega)]; exact h3)) (fun j hj => by first | exact hX j hj | (rw [u1_n (by omega)]; exact hX j hj)) (by first | (rw [iif_t (by omega), mEmp_c (by omega) c_29] at hf; rw [iif_t (by omega)]; exact hf) | (rw [iif_t (by omega), mEmp_b (by omega) c_29 c_42] at hf; rw [iif_t rfl]; exact hf) | (rw [iif_t (by omega), mEmp_a (by omega) c_29 c_42] at hf; rw [iif_f (by omega)]; exact hf)) (by omega) H locs ls hP hD hS hl
          · refine x_al hC hl 2 dX5_empties_32 rfl rfl ?_
            refine x_il hC hl 0 dX5_empties_33 rfl rfl ?_
            refine x_vI (As := [.int (iI i)]) hC (k5_lowestFor l D cs h mF xS (mCopy mS mA) mV mT mB i (by first | assumption | omega) (by first | assumption | omega)) lk5_167 (q0 := 0) (ci := 5) rfl rfl rfl (sub_all hP hD hS hA) hP hS rfl hl.1 rfl (Nat.le_of_ble_eq_true rfl) ⟨rfl, rfl⟩ ⟨Nat.le_of_ble_eq_true rfl, Nat.le_of_ble_eq_true rfl⟩ ⟨Nat.le_of_ble_eq_true rfl, Nat.le_of_ble_eq_true rfl⟩ dX5_empties_34 (fun H locs hP hD hS hHs => ?_)
            refine x_isw hC [(4, .int (iI (mLow xS i))), (3, .int (iI i)), (2, .int (iI b)), (0, .ref (h 0)), (1, .int (iI room))] hl dX5_empties_37 (by decide) rfl (fun ls hl => ?_)
            refine x_ilw hC hl 0 dX5_empties_39 rfl ?_
            refine x_ic hC dX5_empties_41 ?_
            refine x_ic_eq hC 49 dX5_empties_42 (by decide) (by omega) (by omega) (fun c_42 => ?_) (fun c_42 => ?_)
            · refine x_ic hC dX5_empties_49 ?_
              refine x_is hC [(2, .int (iI 0)), (4, .int (iI (mLow xS i))), (3, .int (iI i)), (0, .ref (h 0)), (1, .int (iI room))] hl dX5_empties_50 rfl (by decide) rfl (fun ls hl => ?_)
              refine x_al hC hl 3 dX5_empties_51 rfl rfl ?_
              refine x_get5 (v := .ref (h 1)) hC hP 0 rfl 1 (by decide) tb_620 rfl rfl dX5_empties_52 ?_
              refine x_bi hC dX5_empties_55 (by decide) ?_
              refine x_ic hC dX5_empties_57 ?_
              refine x_il hC hl 2 dX5_empties_58 rfl rfl ?_
              refine x_imul hC dX5_empties_59 ?_
              refine x_iadd hC dX5_empties_60 ?_
              refine x_ic hC dX5_empties_61 ?_
              refine x_iadd hC dX5_empties_62 ?_
              refine x_il hC hl 0 dX5_empties_63 rfl rfl ?_
              refine x_if_eq hC 72 dX5_empties_64 (by decide) (by omega) (fun c_64 => ?_) (fun hz => absurd hz (by decide))
              refine x_il hC hl 4 dX5_empties_72 rfl rfl ?_
              refine x_iast hC hP hD hS 1 rfl (by omega) (by decide) dX5_empties_73 (fun H locs hP hD hS => ?_)
              have hP : va_P D vwCl (wM h cs mF (u1 xS ((29 + (4 * i)) + 3) room) (mCopy mS mA) mV mT mB) H := hP
              have hD : va_D A (wM h cs mF (u1 xS ((29 + (4 * i)) + 3) room) (mCopy mS mA) mV mT mB) := hD
              refine x_iinc hC [(3, .int (iI (i + 1))), (2, .int (iI 0)), (4, .int (iI (mLow xS i))), (0, .ref (h 0)), (1, .int (iI room))] 2 hl dX5_empties_74 rfl (by decide) rfl (fun ls hl => ?_)
              refine x_goto hC 8 dX5_empties_77 (by decide) ?_
              have hl := lv_sub (l' := [(3, .int (iI (i + 1))), (2, .int (iI 0)), (0, .ref (h 0)), (1, .int (iI room))]) hl [0, 1, 3, 4] rfl
              exact ih_8 (i + 1) 0 (u1 xS ((29 + (4 * i)) + 3) room) (by omega) (by omega) (by first | exact hb | exact Or.inr rfl | exact Or.inl rfl) (by first | exact hI3 | exact IM_hi hI3 (by omega) (by omega)) (by first | exact h3 | (rw [u1_n (by omega)]; exact h3)) (fun j hj => by first | exact hX j hj | (rw [u1_n (by omega)]; exact hX j hj)) (by first | (rw [iif_t (by omega), mEmp_c (by omega) c_29] at hf; rw [iif_t (by omega)]; exact hf) | (rw [iif_t (by omega), mEmp_b (by omega) c_29 c_42] at hf; rw [iif_t rfl]; exact hf) | (rw [iif_t (by omega), mEmp_a (by omega) c_29 c_42] at hf; rw [iif_f (by omega)]; exact hf)) (by omega) H locs ls hP hD hS hl
            · refine x_ic hC dX5_empties_45 ?_
              refine x_goto hC 50 dX5_empties_46 (by decide) ?_
              refine x_is hC [(2, .int (iI 1)), (4, .int (iI (mLow xS i))), (3, .int (iI i)), (0, .ref (h 0)), (1, .int (iI room))] hl dX5_empties_50 rfl (by decide) rfl (fun ls hl => ?_)
              refine x_al hC hl 3 dX5_empties_51 rfl rfl ?_
              refine x_get5 (v := .ref (h 1)) hC hP 0 rfl 1 (by decide) tb_620 rfl rfl dX5_empties_52 ?_
              refine x_bi hC dX5_empties_55 (by decide) ?_
              refine x_ic hC dX5_empties_57 ?_
              refine x_il hC hl 2 dX5_empties_58 rfl rfl ?_
              refine x_imul hC dX5_empties_59 ?_
              refine x_iadd hC dX5_empties_60 ?_
              refine x_ic hC dX5_empties_61 ?_
              refine x_iadd hC dX5_empties_62 ?_
              refine x_il hC hl 0 dX5_empties_63 rfl rfl ?_
              refine x_if_eq hC 72 dX5_empties_64 (by decide) (by omega) (fun hz => absurd hz (by decide)) (fun c_64 => ?_)
              refine x_ilw hC hl 1 dX5_empties_67 rfl ?_
              refine x_goto hC 73 dX5_empties_69 (by decide) ?_
              refine x_iast hC hP hD hS 1 rfl (by omega) (by decide) dX5_empties_73 (fun H locs hP hD hS => ?_)
              have hP : va_P D vwCl (wM h cs mF (u1 xS ((29 + (4 * i)) + 3) (mLow xS i)) (mCopy mS mA) mV mT mB) H := hP
              have hD : va_D A (wM h cs mF (u1 xS ((29 + (4 * i)) + 3) (mLow xS i)) (mCopy mS mA) mV mT mB) := hD
              refine x_iinc hC [(3, .int (iI (i + 1))), (2, .int (iI 1)), (4, .int (iI (mLow xS i))), (0, .ref (h 0)), (1, .int (iI room))] 2 hl dX5_empties_74 rfl (by decide) rfl (fun ls hl => ?_)
              refine x_goto hC 8 dX5_empties_77 (by decide) ?_
              have hl := lv_sub (l' := [(3, .int (iI (i + 1))), (2, .int (iI 1)), (0, .ref (h 0)), (1, .int (iI room))]) hl [0, 1, 3, 4] rfl
              exact ih_8 (i + 1) 1 (u1 xS ((29 + (4 * i)) + 3) (mLow xS i)) (by omega) (by omega) (by first | exact hb | exact Or.inr rfl | exact Or.inl rfl) (by first | exact hI3 | exact IM_hi hI3 (by omega) (by omega)) (by first | exact h3 | (rw [u1_n (by omega)]; exact h3)) (fun j hj => by first | exact hX j hj | (rw [u1_n (by omega)]; exact hX j hj)) (by first | (rw [iif_t (by omega), mEmp_c (by omega) c_29] at hf; rw [iif_t (by omega)]; exact hf) | (rw [iif_t (by omega), mEmp_b (by omega) c_29 c_42] at hf; rw [iif_t rfl]; exact hf) | (rw [iif_t (by omega), mEmp_a (by omega) c_29 c_42] at hf; rw [iif_f (by omega)]; exact hf)) (by omega) H locs ls hP hD hS hl
  have hl := lv_sub (l' := [(3, .int (iI 0)), (2, .int (iI 1)), (0, .ref (h 0)), (1, .int (iI room))]) hl [0, 1, 2, 3] rfl
  exact loop_8 (Int.toNat (mS 1 - 0) + 1) 0 1 mS (by omega) (by omega) (Or.inr rfl) hI rfl (fun _ _ => rfl) (iif_t rfl) (by omega) H locs ls hP hD hS hl
