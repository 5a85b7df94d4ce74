theorem lk5_210 : LkV RX5 210 yX5_order cX5_order 5 (some .int) 0 := ⟨tb_934, tb_931, tb_933, tb_65, tb_76, by decide +kernel⟩
/-! what the calls rest on -/
theorem fI_c {α : Type} {g g' : Int → α → α} {a : α} {n : Int} (hn : 0 ≤ n) (h : ∀ i x, 0 ≤ i → i < n → g i x = g' i x) : fI g a n = fI g' a n := by
  have key : fI g a n = fI g' a n := by
    refine fI_ind (g := g) (fun m y => m ≤ n → y = fI g' a m) (fun _ => rfl) (fun i x hi hin hx hm => ?_) hn (Int.le_refl n)
    rw [fI_s hi, ← hx (by omega), h i x hi hin]
  exact key
theorem mNext_c {S A B A' B' : Int → Int} (hI : IM S) (hA : ∀ j, 0 ≤ j → j < 109 → A j = A' j) (hB : ∀ j, 0 ≤ j → j < 20 → B j = B' j) : mNext S A B (S 1) = mNext S A' B' (S 1) := by
  have hc := hI.2.1
  refine fI_c hc.1 (fun i x hi hin => ?_)
  unfold mNextS
  rw [hA _ (by omega) (by omega), hB _ (by omega) (by omega)]
theorem mAnew_c {A A' : Int → Int} {rule : Int} (hA : ∀ j, 0 ≤ j → j < 109 → A j = A' j) : ∀ (k : Nat) (F F' S B B' : Int → Int), IM S → (∀ j, 0 ≤ j → j < 20 → B j = B' j) → F 10 = F' 10 →
    (mAnew A rule k F S B).1 = (mAnew A' rule k F' S B').1 ∧ (mAnew A rule k F S B).2.2.1 = (mAnew A' rule k F' S B').2.2.1 ∧ (mAnew A rule k F S B).2.1 10 = (mAnew A' rule k F' S B').2.1 10
  | 0, F, F', S, B, B', hI, hB, hF => ⟨rfl, rfl, hF⟩
  | k + 1, F, F', S, B, B', hI, hB, hF => by
    have hc := hI.2.1
    have hn := mNext_c hI hA hB
    have hx := mNext_rg S A B (n := S 1) hc.1
    by_cases c : mNext S A B (S 1) = -1
    · rw [mAnew_e c, mAnew_e (hn ▸ c)]; exact ⟨rfl, rfl, hF⟩
    · have c' : ¬ mNext S A' B' (S 1) = -1 := by rw [← hn]; exact c
      by_cases c2 : mGets S (S (29 + 4 * mNext S A B (S 1) + 0)) (S (29 + 4 * mNext S A B (S 1) + 1)) (S (29 + 4 * mNext S A B (S 1) + 2)) rule = -1
      · rw [mAnew_f c c2, mAnew_f c' (by rw [← hn]; exact c2)]; exact ⟨rfl, rfl, hF⟩
      · have hg := mGets_rg S (S (29 + 4 * mNext S A B (S 1) + 0)) (S (29 + 4 * mNext S A B (S 1) + 1)) (S (29 + 4 * mNext S A B (S 1) + 2)) rule
        rw [mAnew_s c c2 rfl rfl rfl, mAnew_s (t := mNext S A B (S 1)) (r := mGets S (S (29 + 4 * mNext S A B (S 1) + 0)) (S (29 + 4 * mNext S A B (S 1) + 1)) (S (29 + 4 * mNext S A B (S 1) + 2)) rule) (F := F') (B := B') (A := A') c c2 hn.symm rfl rfl]
        refine mAnew_c hA k _ _ _ _ _ (IM_opens (IM_hi hI (by omega) (by omega)) (by omega)) (fun j h0 h1 => ?_) ?_
        · unfold u1; split
          · rfl
          · exact hB j h0 h1
        · rw [u1_s, u1_s, hF, hA _ (by omega) (by omega)]
/-- telling anew, by the row alone -/
noncomputable def mC (S : Int → Int) (rule : Int) : Prop × (Int → Int) × (Int → Int) × (Int → Int) := mAn S S (fun _ => 0) (fun _ => 0) rule
theorem mAn_c {S : Int → Int} (hI : IM S) (A F B : Int → Int) (rule : Int) : (mAn S A F B rule).1 = (mC S rule).1 ∧ (mAn S A F B rule).2.2.1 = (mC S rule).2.2.1 ∧ (mAn S A F B rule).2.1 10 = (mC S rule).2.1 10 := by
  refine mAnew_c (fun j h0 h1 => ?_) 21 _ _ _ _ _ (IM_noin (IM_shut hI (by omega) (by omega)) (by omega) (by omega)) (fun j h0 h1 => ?_) ?_
  · rw [mCopy_in _ _ h0 h1, mCopy_in _ _ h0 h1]
  · rw [mZero_in _ (by omega) ⟨h0, h1⟩, mZero_in _ (by omega) ⟨h0, h1⟩]
  · rw [u1_s, u1_s]
noncomputable def mPr (S : Int → Int) (rule : Int) : Int := iif (mC S rule).1 ((mC S rule).2.2.1 3 - S 3) (-1000002)
theorem mPrice_c {S : Int → Int} (hI : IM S) (A F B : Int → Int) (rule : Int) : mPrice S A F B rule = mPr S rule := by
  have h := mAn_c hI A F B rule
  unfold mPrice mPr
  rw [h.1, h.2.1]
theorem mOpens_3 {S : Int → Int} {r : Int} (hr : 0 ≤ r ∧ r < 8) : mOpens S r 3 = S 3 ∨ mOpens S r 3 = S 3 + S (5 + 3 * r + 1) := by
  unfold mOpens iif
  split
  · exact Or.inl rfl
  · right
    unfold mOp3 mOp2 mOp1
    rw [u1_s, u1_n (by omega), u1_n (by omega), u1_n (by omega), u1_n (by omega)]
theorem mAnew_3 {A : Int → Int} {rule : Int} : ∀ (k : Nat) (F S B : Int → Int), IM S → S 3 - k ≤ (mAnew A rule k F S B).2.2.1 3 ∧ (mAnew A rule k F S B).2.2.1 3 ≤ S 3 + 99 * k
  | 0, F, S, B, h1 => by show S 3 - _ ≤ S 3 ∧ S 3 ≤ _; omega
  | k + 1, F, S, B, h1 => by
    have hx := mNext_rg S A B (n := S 1) h1.2.1.1
    have hc := h1.2.1
    by_cases c : mNext S A B (S 1) = -1
    · rw [mAnew_e c]; show S 3 - _ ≤ S 3 ∧ S 3 ≤ _; omega
    · by_cases c2 : mGets S (S (29 + 4 * mNext S A B (S 1) + 0)) (S (29 + 4 * mNext S A B (S 1) + 1)) (S (29 + 4 * mNext S A B (S 1) + 2)) rule = -1
      · rw [mAnew_f c c2]; show S 3 - _ ≤ S 3 ∧ S 3 ≤ _; omega
      · rw [mAnew_s c c2 rfl rfl rfl]
        have hg := mGets_rg S (S (29 + 4 * mNext S A B (S 1) + 0)) (S (29 + 4 * mNext S A B (S 1) + 1)) (S (29 + 4 * mNext S A B (S 1) + 2)) rule
        have h2 : IM (u1 S (29 + 4 * mNext S A B (S 1) + 3) (mGets S (S (29 + 4 * mNext S A B (S 1) + 0)) (S (29 + 4 * mNext S A B (S 1) + 1)) (S (29 + 4 * mNext S A B (S 1) + 2)) rule)) := IM_hi h1 (by omega) (by omega)
        have ih := mAnew_3 k (u1 F 10 (F 10 + iif (A (29 + 4 * mNext S A B (S 1) + 3) = mGets S (S (29 + 4 * mNext S A B (S 1) + 0)) (S (29 + 4 * mNext S A B (S 1) + 1)) (S (29 + 4 * mNext S A B (S 1) + 2)) rule) 0 1)) _ (u1 B (mNext S A B (S 1)) 1) (IM_opens h2 (r := mGets S (S (29 + 4 * mNext S A B (S 1) + 0)) (S (29 + 4 * mNext S A B (S 1) + 1)) (S (29 + 4 * mNext S A B (S 1) + 2)) rule) (by omega)) (A := A) (rule := rule)
        have h3 := mOpens_3 (S := u1 S (29 + 4 * mNext S A B (S 1) + 3) (mGets S (S (29 + 4 * mNext S A B (S 1) + 0)) (S (29 + 4 * mNext S A B (S 1) + 1)) (S (29 + 4 * mNext S A B (S 1) + 2)) rule)) (r := mGets S (S (29 + 4 * mNext S A B (S 1) + 0)) (S (29 + 4 * mNext S A B (S 1) + 1)) (S (29 + 4 * mNext S A B (S 1) + 2)) rule) (by omega)
        have h4 := imB h2 (5 + 3 * mGets S (S (29 + 4 * mNext S A B (S 1) + 0)) (S (29 + 4 * mNext S A B (S 1) + 1)) (S (29 + 4 * mNext S A B (S 1) + 2)) rule + 1) (by omega)
        rw [u1_n (by omega)] at h3
        omega
theorem mPr_rg {S : Int → Int} (hI : IM S) (rule : Int) : -1000002 ≤ mPr S rule ∧ mPr S rule ≤ 3000 ∧ (mPr S rule = -1000002 ↔ ¬ (mC S rule).1) := by
  have h := mAnew_3 (A := mCopy S S) (rule := rule) 21 (u1 (fun _ => 0) 10 0) (mNoIn (mShut S 8) 20) (mZero (fun _ => 0) 20) (IM_noin (IM_shut hI (by omega) (by omega)) (by omega) (by omega))
  rw [mNoIn_out _ (by omega) (by omega) (by omega), mShut_out _ (by omega) (by omega) (by omega)] at h
  have h2 : S 3 - 21 ≤ (mC S rule).2.2.1 3 ∧ (mC S rule).2.2.1 3 ≤ S 3 + 99 * 21 := h
  unfold mPr
  by_cases c : (mC S rule).1
  · rw [iif_t c]
    refine ⟨by omega, by omega, fun h => by omega, fun h => absurd c h⟩
  · rw [iif_f c]
    exact ⟨by omega, by omega, fun _ => c, fun _ => rfl⟩
theorem mAnew_k {A : Int → Int} {rule : Int} {j : Int} (hj : ¬ j = 10) : ∀ (k : Nat) (F S B : Int → Int), (mAnew A rule k F S B).2.1 j = F j
  | 0, F, S, B => rfl
  | k + 1, F, S, B => by
    by_cases c : mNext S A B (S 1) = -1
    · rw [mAnew_e c]
    · by_cases c2 : mGets S (S (29 + 4 * mNext S A B (S 1) + 0)) (S (29 + 4 * mNext S A B (S 1) + 1)) (S (29 + 4 * mNext S A B (S 1) + 2)) rule = -1
      · rw [mAnew_f c c2]
      · rw [mAnew_s c c2 rfl rfl rfl, mAnew_k hj k, u1_n hj]
theorem mAnF_k (S A F B : Int → Int) (rule : Int) {j : Int} (hj : ¬ j = 10 ∧ ¬ j = 8 ∧ ¬ j = 9) : mAnF S A F B rule j = F j := by
  have h : (mAn S A F B rule).2.1 j = F j := by
    unfold mAn
    rw [mAnew_k hj.1, u1_n hj.1]
  unfold mAnF iif
  split
  · rw [u1_n hj.2.2, u1_n hj.2.1, h]
  · exact h
theorem mAnF_8 {S : Int → Int} (hI : IM S) (A F B : Int → Int) (rule : Int) (h : (mC S rule).1) : mAnF S A F B rule 8 = mPr S rule := by
  have hc := mAn_c hI A F B rule
  unfold mAnF mPr
  rw [hc.1, hc.2.1, iif_t h, iif_t h, u1_n (by omega), u1_s]
theorem mAnF_9 {S : Int → Int} (hI : IM S) (A F B : Int → Int) (rule : Int) (h : (mC S rule).1) : mAnF S A F B rule 9 = (mC S rule).2.2.1 2 - S 2 := by
  have hc := mAn_c hI A F B rule
  unfold mAnF
  rw [hc.1, hc.2.1, iif_t h, u1_s]
theorem mAnF_10 {S : Int → Int} (hI : IM S) (A F B : Int → Int) (rule : Int) (h : (mC S rule).1) : mAnF S A F B rule 10 = (mC S rule).2.1 10 := by
  have hc := mAn_c hI A F B rule
  unfold mAnF
  rw [hc.1, iif_t h, u1_n (by omega), u1_n (by omega), hc.2.2]
theorem rdF_k (T F S : Int → Int) {j : Int} (hj : j < 11 ∨ 16 < j) : rdF T F S j = F j := by
  unfold rdF mSetF
  rw [u1_n (by omega), u1_n (by omega), u1_n (by omega), u1_n (by omega), u1_n (by omega), u1_n (by omega)]
theorem mReads_k {T : Int → Int} {j : Int} (hj : j < 11 ∨ 16 < j) : ∀ (k : Nat) (F S : Int → Int), (mReads T k F S).1 j = F j
  | 0, F, S => rfl
  | k + 1, F, S => by
    by_cases c : F 11 < F 6 ∧ F 14 = 0
    · rw [mReads_s c.1 c.2, mReads_k hj k, rdF_k _ _ _ hj]
    · rw [mReads_e c]
theorem mRd_k (T F S : Int → Int) {j : Int} (hj : j < 11 ∨ 16 < j) : (mRd T F S).1 j = F j := by
  unfold mRd
  rw [mReads_k hj, u1_n (by omega), u1_n (by omega), u1_n (by omega)]
theorem rdF_14 (T F S : Int → Int) : 0 ≤ rdF T F S 14 ∧ rdF T F S 14 ≤ 2 := by
  unfold rdF
  rw [u1_n (by omega), u1_n (by omega), u1_s]
  unfold iif
  split
  · split <;> omega
  · omega
theorem mReads_14 {T : Int → Int} : ∀ (k : Nat) (F S : Int → Int), 0 ≤ F 14 ∧ F 14 ≤ 2 → 0 ≤ (mReads T k F S).1 14 ∧ (mReads T k F S).1 14 ≤ 2
  | 0, F, S, h => h
  | k + 1, F, S, h => by
    by_cases c : F 11 < F 6 ∧ F 14 = 0
    · rw [mReads_s c.1 c.2]; exact mReads_14 k _ _ (rdF_14 T F S)
    · rw [mReads_e c]; exact h
theorem mRd_14 (T F S : Int → Int) : 0 ≤ (mRd T F S).1 14 ∧ (mRd T F S).1 14 ≤ 2 := mReads_14 62 _ _ (by rw [u1_s]; omega)
theorem mDoS_out {S : Int → Int} (h : IM S) (l a b c : Int) {j : Int} (hj : j < 0 ∨ 109 ≤ j) : mDoS S l a b c j = S j := by
  have hc := h.2.1
  unfold mDoS
  by_cases c1 : l = 116
  · rw [iif_t c1]
    by_cases c2 : mRefT S a b c = 0
    · rw [iif_t c2]
      have h2 := mRefT_0 c2
      have hg := mGets_rg S a b c (S 0)
      unfold mTells mTel1 mTel
      rw [mOpens_out _ (by omega) hj, u1_n (by omega), u1_n (by omega), u1_n (by omega), u1_n (by omega), u1_n (by omega)]
    · rw [iif_f c2]
  · rw [iif_f c1]
    by_cases c2 : l = 119
    · rw [iif_t c2]
      by_cases c3 : mTalkP S a
      · rw [iif_t c3]; unfold mTalkP at c3; unfold mWith mWith1; rw [u1_n (by omega), u1_n (by omega)]
      · rw [iif_f c3]
    · rw [iif_f c2]
      by_cases c3 : l = 114
      · rw [iif_t c3]
        by_cases c4 : mRefR S a b c = 0
        · rw [iif_t c4]; have h2 := mRefR_0 c4; unfold mLay; rw [u1_n (by omega), u1_n (by omega)]
        · rw [iif_f c4]
      · rw [iif_f c3, u1_n (by omega)]
theorem mReads_out {T : Int → Int} {j : Int} (hj : j < 0 ∨ 109 ≤ j) : ∀ (k : Nat) (F S : Int → Int), IM S → (mReads T k F S).2 j = S j
  | 0, F, S, h => rfl
  | k + 1, F, S, h => by
    by_cases c : F 11 < F 6 ∧ F 14 = 0
    · rw [mReads_s c.1 c.2, mReads_out hj k _ _ (IM_oS h _ _ _)]
      unfold oS iif
      split
      · exact mDoS_out h _ _ _ _ hj
      · rfl
    · rw [mReads_e c]

abbrev r5_reads : Room := { frames := 7, cells := 0, slots := 0, locals := 172 }
set_option maxHeartbeats 4000000 in
set_option maxRecDepth 100000 in
theorem k5_reads (l : Launch) (D : va_G) (cs : Nat → ClassId) (h : Nat → Nat) (mF : Int → Int) (mS : Int → Int) (mA : Int → Int) (mV : Int → Int) (mT : Int → Int) (mB : Int → Int) (hI : IM mS) (hTT : IT mT) (hln : 0 ≤ (mF 6) ∧ (mF 6) ≤ 60) : CI l D cs yX5_reads cX5_reads 2 .int r5_reads 0 0 [.ref (h 0)] (wM h cs mF mS mA mV mT mB) (wM h cs ((mRd mT mF mS).1) ((mRd mT mF mS).2) mA mV mT mB) (iI ((mRd mT mF mS).1 14)) := by
  refine CI_start (own := RX5) (by decide) rfl rfl (Nat.le_of_ble_eq_true rfl) ?_
  intro p e s m args below meth c Q A ls hC hl hP hD hA hS hend
  have hl : lv_has ls 2 [(0, .ref (h 0))] := hl
  obtain ⟨H, hH⟩ : ∃ H : Heap, H = s.heap := ⟨_, rfl⟩
  have hS : va_S A s.heap H [] := by rw [hH]; exact hS
  rw [← hH] at hP
  obtain ⟨locs, hlocs⟩ : ∃ locs : List Loc, locs = [] := ⟨_, rfl⟩
  rw [← hlocs] at hS
  suffices hgo : W p l e r5_reads s m args below meth c H locs 0 0 Q (F0 m 0 ls []) by rw [← hH, ← hlocs]; exact hgo
  clear hH hlocs
  refine x_al hC hl 0 dX5_reads_0 rfl rfl ?_
  refine x_ic hC dX5_reads_1 ?_
  refine x_put5_11 hC hP hD hS 0 rfl tb_630 dX5_reads_2 (fun H locs hP hD hS => ?_)
  have hP : va_P D vwCl (wM h cs (u1 mF 11 0) mS mA mV mT mB) H := hP
  have hD : va_D A (wM h cs (u1 mF 11 0) mS mA mV mT mB) := hD
  refine x_al hC hl 0 dX5_reads_5 rfl rfl ?_
  refine x_ic hC dX5_reads_6 ?_
  refine x_put5_16 hC hP hD hS 0 rfl tb_635 dX5_reads_7 (fun H locs hP hD hS => ?_)
  have hP : va_P D vwCl (wM h cs (u1 (u1 mF 11 0) 16 0) mS mA mV mT mB) H := hP
  have hD : va_D A (wM h cs (u1 (u1 mF 11 0) 16 0) mS mA mV mT mB) := hD
  refine x_al hC hl 0 dX5_reads_10 rfl rfl ?_
  refine x_ic hC dX5_reads_11 ?_
  refine x_put5_14 hC hP hD hS 0 rfl tb_633 dX5_reads_12 (fun H locs hP hD hS => ?_)
  have hP : va_P D vwCl (wM h cs (u1 (u1 (u1 mF 11 0) 16 0) 14 0) mS mA mV mT mB) H := hP
  have hD : va_D A (wM h cs (u1 (u1 (u1 mF 11 0) 16 0) 14 0) mS mA mV mT mB) := hD
  have loop_15 : ∀ (n : Nat) (k : Nat) (xF : Int → Int) (xS : Int → Int), (hk : xF 14 = 0 → xF 11 < xF 6 → 60 - xF 11 < (k : Int)) → (hI3 : IM xS) → (h6 : xF 6 = mF 6) → (ha3 : 0 ≤ xF 11 ∧ xF 11 ≤ 60) → (hw3 : 0 ≤ xF 14 ∧ xF 14 ≤ 2) → (hf : mReads mT k xF xS = mRd mT mF mS) → (k : Int) < (n : Int) → ∀ (H : Heap) (locs : List Loc) (ls : Array Slot), va_P D vwCl (wM h cs xF xS mA mV mT mB) H → va_D A (wM h cs xF xS mA mV mT mB) → va_S A s.heap H locs → lv_has ls 2 [(0, .ref (h 0))] → W p l e r5_reads s m args below meth c H locs 0 0 Q (F0 m 15 ls []) := by
    intro n
    induction n with
    | zero =>
      intro k xF xS hk hI3 h6 ha3 hw3 hf hnn
      exfalso; omega
    | succ n ih_15 =>
      intro k xF xS hk hI3 h6 ha3 hw3 hf hnn H locs ls hP hD hS hl
      refine x_al hC hl 0 dX5_reads_15 rfl rfl ?_
      refine x_get5 (v := .int (iI (xF 11))) hC hP 0 rfl 11 (by decide) tb_630 rfl rfl dX5_reads_16 ?_
      refine x_al hC hl 0 dX5_reads_19 rfl rfl ?_
      refine x_get5 (v := .int (iI (xF 6))) hC hP 0 rfl 6 (by decide) tb_625 rfl rfl dX5_reads_20 ?_
      refine x_ic_ge hC 107 dX5_reads_23 (by decide) (by omega) (by omega) (fun c_23 => ?_) (fun c_23 => ?_)
      · refine x_al hC hl 0 dX5_reads_107 rfl rfl ?_
        refine x_get5 (v := .int (iI (xF 14))) hC hP 0 rfl 14 (by decide) tb_633 rfl rfl dX5_reads_108 ?_
        have ew : (wM h cs xF xS mA mV mT mB) = (wM h cs ((mRd mT mF mS).1) ((mRd mT mF mS).2) mA mV mT mB) := (wMc (by rw [← (mReads_e (by omega)).symm.trans hf] : xF = (mRd mT mF mS).1) (by rw [← (mReads_e (by omega)).symm.trans hf] : xS = (mRd mT mF mS).2) rfl rfl rfl rfl)
        have hP := vPe hP ew
        have hD := vDe hD ew
        exact x_retI (congrArg iI (by rw [← (mReads_e (by omega)).symm.trans hf] : xF 14 = (mRd mT mF mS).1 14)) hend hP hD hS dX5_reads_111
      · refine x_al hC hl 0 dX5_reads_26 rfl rfl ?_
        refine x_get5 (v := .int (iI (xF 14))) hC hP 0 rfl 14 (by decide) tb_633 rfl rfl dX5_reads_27 ?_
        refine x_if_ne hC 107 dX5_reads_30 (by decide) (by omega) (fun c_30 => ?_) (fun c_30 => ?_)
        · refine x_al hC hl 0 dX5_reads_107 rfl rfl ?_
          refine x_get5 (v := .int (iI (xF 14))) hC hP 0 rfl 14 (by decide) tb_633 rfl rfl dX5_reads_108 ?_
          have ew_2 : (wM h cs xF xS mA mV mT mB) = (wM h cs ((mRd mT mF mS).1) ((mRd mT mF mS).2) mA mV mT mB) := (wMc (by rw [← (mReads_e (by omega)).symm.trans hf] : xF = (mRd mT mF mS).1) (by rw [← (mReads_e (by omega)).symm.trans hf] : xS = (mRd mT mF mS).2) rfl rfl rfl rfl)
          have hP := vPe hP ew_2
          have hD := vDe hD ew_2
          exact x_retI (congrArg iI (by rw [← (mReads_e (by omega)).symm.trans hf] : xF 14 = (mRd mT mF mS).1 14)) hend hP hD hS dX5_reads_111
        · obtain ⟨k2, rfl⟩ : ∃ k2, k = k2 + 1 := ⟨k - 1, by have := hk c_30 c_23; omega⟩
          have qk := hk c_30 c_23
          refine x_al hC hl 0 dX5_reads_33 rfl rfl ?_
          refine x_al hC hl 0 dX5_reads_34 rfl rfl ?_
          refine x_get5 (v := .int (iI (xF 11))) hC hP 0 rfl 11 (by decide) tb_630 rfl rfl dX5_reads_35 ?_
          refine x_put5_13 hC hP hD hS 0 rfl tb_632 dX5_reads_38 (fun H locs hP hD hS => ?_)
          have hP : va_P D vwCl (wM h cs (u1 xF 13 (xF 11)) xS mA mV mT mB) H := hP
          have hD : va_D A (wM h cs (u1 xF 13 (xF 11)) xS mA mV mT mB) := hD
          refine x_al hC hl 0 dX5_reads_41 rfl rfl ?_
          refine x_vI (As := []) (val := iI (oRef mT ((xF 11)) ((xF 6)) xS)) hC (k5_order l D cs h (u1 xF 13 (xF 11)) xS mA mV mT mB (by first | assumption | omega) (by first | assumption | omega) (by show 0 ≤ (xF 11) ∧ (xF 11) ≤ 60; first | assumption | omega) (by show 0 ≤ (xF 6) ∧ (xF 6) ≤ 60; first | assumption | omega)) lk5_210 (q0 := 0) (ci := 5) rfl rfl rfl (sub_all hP hD hS hA) hP hS rfl hl.1 rfl (Nat.le_of_ble_eq_true rfl) ⟨rfl, rfl⟩ ⟨Nat.le_of_ble_eq_true rfl, Nat.le_of_ble_eq_true rfl⟩ ⟨Nat.le_of_ble_eq_true rfl, Nat.le_of_ble_eq_true rfl⟩ dX5_reads_42 (fun H locs hP hD hS hHs => ?_)
          have hP : va_P D vwCl (wM h cs (mSetF (u1 xF 13 (xF 11)) (b2p (oPf mT ((xF 11)) ((xF 6)))) (oA mT ((xF 11)) ((xF 6)))) (oS mT ((xF 11)) ((xF 6)) xS) mA mV mT mB) H := hP
          have hD : va_D A (wM h cs (mSetF (u1 xF 13 (xF 11)) (b2p (oPf mT ((xF 11)) ((xF 6)))) (oA mT ((xF 11)) ((xF 6)))) (oS mT ((xF 11)) ((xF 6)) xS) mA mV mT mB) := hD
          have q_42 := oRef_rg mT ((xF 11)) ((xF 6)) xS
          refine x_is hC [(1, .int (iI (oRef mT ((xF 11)) ((xF 6)) xS))), (0, .ref (h 0))] hl dX5_reads_45 rfl (by decide) rfl (fun ls hl => ?_)
          have qa := oA_rg (T := mT) (a := xF 11) (n := xF 6) ha3 (by omega)
          refine x_al hC hl 1 dX5_reads_46 rfl rfl ?_
          refine x_al hC hl 1 dX5_reads_47 rfl rfl ?_
          refine x_get5 (v := .int (iI (b2p (oPf mT ((xF 11)) ((xF 6)))))) hC hP 0 rfl 12 (by decide) tb_631 rfl rfl dX5_reads_48 ?_
          refine x_if_ne_b hC 58 dX5_reads_51 (by decide) (fun c_51 => ?_) (fun c_51 => ?_)
          · refine x_il hC hl 0 dX5_reads_58 rfl rfl ?_
            refine x_if_eq hC 66 dX5_reads_59 (by decide) (by omega) (fun c_59 => ?_) (fun c_59 => ?_)
            · refine x_ic hC dX5_reads_66 ?_
              refine x_put5_14 hC hP hD hS 0 rfl tb_633 dX5_reads_67 (fun H locs hP hD hS => ?_)
              have hP : va_P D vwCl (wM h cs (u1 (mSetF (u1 xF 13 (xF 11)) (b2p (oPf mT ((xF 11)) ((xF 6)))) (oA mT ((xF 11)) ((xF 6)))) 14 0) (oS mT ((xF 11)) ((xF 6)) xS) mA mV mT mB) H := hP
              have hD : va_D A (wM h cs (u1 (mSetF (u1 xF 13 (xF 11)) (b2p (oPf mT ((xF 11)) ((xF 6)))) (oA mT ((xF 11)) ((xF 6)))) 14 0) (oS mT ((xF 11)) ((xF 6)) xS) mA mV mT mB) := hD
              refine x_al hC hl 1 dX5_reads_70 rfl rfl ?_
              refine x_al hC hl 1 dX5_reads_71 rfl rfl ?_
              refine x_get5 (v := .int (iI (b2p (oPf mT ((xF 11)) ((xF 6)))))) hC hP 0 rfl 12 (by decide) tb_631 rfl rfl dX5_reads_72 ?_
              refine x_if_ne_b hC 90 dX5_reads_75 (by decide) (fun c_75 => ?_) (fun hz => absurd c_51 hz)
              refine x_il hC hl 0 dX5_reads_90 rfl rfl ?_
              refine x_put5_15 hC hP hD hS 0 rfl tb_634 dX5_reads_91 (fun H locs hP hD hS => ?_)
              have hP : va_P D vwCl (wM h cs (u1 (u1 (mSetF (u1 xF 13 (xF 11)) (b2p (oPf mT ((xF 11)) ((xF 6)))) (oA mT ((xF 11)) ((xF 6)))) 14 0) 15 (oRef mT ((xF 11)) ((xF 6)) xS)) (oS mT ((xF 11)) ((xF 6)) xS) mA mV mT mB) H := hP
              have hD : va_D A (wM h cs (u1 (u1 (mSetF (u1 xF 13 (xF 11)) (b2p (oPf mT ((xF 11)) ((xF 6)))) (oA mT ((xF 11)) ((xF 6)))) 14 0) 15 (oRef mT ((xF 11)) ((xF 6)) xS)) (oS mT ((xF 11)) ((xF 6)) xS) mA mV mT mB) := hD
              refine x_al hC hl 1 dX5_reads_94 rfl rfl ?_
              refine x_dup hC dX5_reads_95 rfl ?_
              refine x_get5 (v := .int (iI (xF 16))) hC hP 0 rfl 16 (by decide) tb_635 rfl rfl dX5_reads_96 ?_
              refine x_ic hC dX5_reads_99 ?_
              refine x_iadd hC dX5_reads_100 ?_
              refine x_put5_16 hC hP hD hS 0 rfl tb_635 dX5_reads_101 (fun H locs hP hD hS => ?_)
              have hP : va_P D vwCl (wM h cs (u1 (u1 (u1 (mSetF (u1 xF 13 (xF 11)) (b2p (oPf mT ((xF 11)) ((xF 6)))) (oA mT ((xF 11)) ((xF 6)))) 14 0) 15 (oRef mT ((xF 11)) ((xF 6)) xS)) 16 ((xF 16) + 1)) (oS mT ((xF 11)) ((xF 6)) xS) mA mV mT mB) H := hP
              have hD : va_D A (wM h cs (u1 (u1 (u1 (mSetF (u1 xF 13 (xF 11)) (b2p (oPf mT ((xF 11)) ((xF 6)))) (oA mT ((xF 11)) ((xF 6)))) 14 0) 15 (oRef mT ((xF 11)) ((xF 6)) xS)) 16 ((xF 16) + 1)) (oS mT ((xF 11)) ((xF 6)) xS) mA mV mT mB) := hD
              refine x_goto hC 15 dX5_reads_104 (by decide) ?_
              have hl := lv_sub (l' := [(0, .ref (h 0))]) hl [1] rfl
              exact ih_15 k2 (u1 (u1 (u1 (mSetF (u1 xF 13 (xF 11)) (b2p (oPf mT ((xF 11)) ((xF 6)))) (oA mT ((xF 11)) ((xF 6)))) 14 0) 15 (oRef mT ((xF 11)) ((xF 6)) xS)) 16 ((xF 16) + 1)) (oS mT ((xF 11)) ((xF 6)) xS) (by show 0 = 0 → (oA mT ((xF 11)) ((xF 6))) < (xF 6) → 60 - (oA mT ((xF 11)) ((xF 6))) < ((k2 : Nat) : Int); first | (intro hz; omega) | (intro _ _; have qb := qa.2 c_51; omega)) (IM_oS hI3 _ _ _) (by show (xF 6) = mF 6; omega) (by show 0 ≤ (oA mT ((xF 11)) ((xF 6))) ∧ (oA mT ((xF 11)) ((xF 6))) ≤ 60; omega) (by show 0 ≤ 0 ∧ 0 ≤ 2; omega) (by rw [mReads_s c_23 c_30] at hf; unfold rdF at hf; first | (simp only [iif_f c_51] at hf; exact hf) | (simp only [iif_t c_51, iif_t c_59] at hf; exact hf) | (simp only [iif_t c_51, iif_f c_59] at hf; exact hf)) (by omega) H locs ls hP hD hS hl
            · refine x_ic hC dX5_reads_62 ?_
              refine x_goto hC 67 dX5_reads_63 (by decide) ?_
              refine x_put5_14 hC hP hD hS 0 rfl tb_633 dX5_reads_67 (fun H locs hP hD hS => ?_)
              have hP : va_P D vwCl (wM h cs (u1 (mSetF (u1 xF 13 (xF 11)) (b2p (oPf mT ((xF 11)) ((xF 6)))) (oA mT ((xF 11)) ((xF 6)))) 14 2) (oS mT ((xF 11)) ((xF 6)) xS) mA mV mT mB) H := hP
              have hD : va_D A (wM h cs (u1 (mSetF (u1 xF 13 (xF 11)) (b2p (oPf mT ((xF 11)) ((xF 6)))) (oA mT ((xF 11)) ((xF 6)))) 14 2) (oS mT ((xF 11)) ((xF 6)) xS) mA mV mT mB) := hD
              refine x_al hC hl 1 dX5_reads_70 rfl rfl ?_
              refine x_al hC hl 1 dX5_reads_71 rfl rfl ?_
              refine x_get5 (v := .int (iI (b2p (oPf mT ((xF 11)) ((xF 6)))))) hC hP 0 rfl 12 (by decide) tb_631 rfl rfl dX5_reads_72 ?_
              refine x_if_ne_b hC 90 dX5_reads_75 (by decide) (fun c_75 => ?_) (fun hz => absurd c_51 hz)
              refine x_il hC hl 0 dX5_reads_90 rfl rfl ?_
              refine x_put5_15 hC hP hD hS 0 rfl tb_634 dX5_reads_91 (fun H locs hP hD hS => ?_)
              have hP : va_P D vwCl (wM h cs (u1 (u1 (mSetF (u1 xF 13 (xF 11)) (b2p (oPf mT ((xF 11)) ((xF 6)))) (oA mT ((xF 11)) ((xF 6)))) 14 2) 15 (oRef mT ((xF 11)) ((xF 6)) xS)) (oS mT ((xF 11)) ((xF 6)) xS) mA mV mT mB) H := hP
              have hD : va_D A (wM h cs (u1 (u1 (mSetF (u1 xF 13 (xF 11)) (b2p (oPf mT ((xF 11)) ((xF 6)))) (oA mT ((xF 11)) ((xF 6)))) 14 2) 15 (oRef mT ((xF 11)) ((xF 6)) xS)) (oS mT ((xF 11)) ((xF 6)) xS) mA mV mT mB) := hD
              refine x_al hC hl 1 dX5_reads_94 rfl rfl ?_
              refine x_dup hC dX5_reads_95 rfl ?_
              refine x_get5 (v := .int (iI (xF 16))) hC hP 0 rfl 16 (by decide) tb_635 rfl rfl dX5_reads_96 ?_
              refine x_ic hC dX5_reads_99 ?_
              refine x_iadd hC dX5_reads_100 ?_
              refine x_put5_16 hC hP hD hS 0 rfl tb_635 dX5_reads_101 (fun H locs hP hD hS => ?_)
              have hP : va_P D vwCl (wM h cs (u1 (u1 (u1 (mSetF (u1 xF 13 (xF 11)) (b2p (oPf mT ((xF 11)) ((xF 6)))) (oA mT ((xF 11)) ((xF 6)))) 14 2) 15 (oRef mT ((xF 11)) ((xF 6)) xS)) 16 ((xF 16) + 1)) (oS mT ((xF 11)) ((xF 6)) xS) mA mV mT mB) H := hP
              have hD : va_D A (wM h cs (u1 (u1 (u1 (mSetF (u1 xF 13 (xF 11)) (b2p (oPf mT ((xF 11)) ((xF 6)))) (oA mT ((xF 11)) ((xF 6)))) 14 2) 15 (oRef mT ((xF 11)) ((xF 6)) xS)) 16 ((xF 16) + 1)) (oS mT ((xF 11)) ((xF 6)) xS) mA mV mT mB) := hD
              refine x_goto hC 15 dX5_reads_104 (by decide) ?_
              have hl := lv_sub (l' := [(0, .ref (h 0))]) hl [1] rfl
              exact ih_15 k2 (u1 (u1 (u1 (mSetF (u1 xF 13 (xF 11)) (b2p (oPf mT ((xF 11)) ((xF 6)))) (oA mT ((xF 11)) ((xF 6)))) 14 2) 15 (oRef mT ((xF 11)) ((xF 6)) xS)) 16 ((xF 16) + 1)) (oS mT ((xF 11)) ((xF 6)) xS) (by show 2 = 0 → (oA mT ((xF 11)) ((xF 6))) < (xF 6) → 60 - (oA mT ((xF 11)) ((xF 6))) < ((k2 : Nat) : Int); first | (intro hz; omega) | (intro _ _; have qb := qa.2 c_51; omega)) (IM_oS hI3 _ _ _) (by show (xF 6) = mF 6; omega) (by show 0 ≤ (oA mT ((xF 11)) ((xF 6))) ∧ (oA mT ((xF 11)) ((xF 6))) ≤ 60; omega) (by show 0 ≤ 2 ∧ 2 ≤ 2; omega) (by rw [mReads_s c_23 c_30] at hf; unfold rdF at hf; first | (simp only [iif_f c_51] at hf; exact hf) | (simp only [iif_t c_51, iif_t c_59] at hf; exact hf) | (simp only [iif_t c_51, iif_f c_59] at hf; exact hf)) (by omega) H locs ls hP hD hS hl
          · refine x_ic hC dX5_reads_54 ?_
            refine x_goto hC 67 dX5_reads_55 (by decide) ?_
            refine x_put5_14 hC hP hD hS 0 rfl tb_633 dX5_reads_67 (fun H locs hP hD hS => ?_)
            have hP : va_P D vwCl (wM h cs (u1 (mSetF (u1 xF 13 (xF 11)) (b2p (oPf mT ((xF 11)) ((xF 6)))) (oA mT ((xF 11)) ((xF 6)))) 14 1) (oS mT ((xF 11)) ((xF 6)) xS) mA mV mT mB) H := hP
            have hD : va_D A (wM h cs (u1 (mSetF (u1 xF 13 (xF 11)) (b2p (oPf mT ((xF 11)) ((xF 6)))) (oA mT ((xF 11)) ((xF 6)))) 14 1) (oS mT ((xF 11)) ((xF 6)) xS) mA mV mT mB) := hD
            refine x_al hC hl 1 dX5_reads_70 rfl rfl ?_
            refine x_al hC hl 1 dX5_reads_71 rfl rfl ?_
            refine x_get5 (v := .int (iI (b2p (oPf mT ((xF 11)) ((xF 6)))))) hC hP 0 rfl 12 (by decide) tb_631 rfl rfl dX5_reads_72 ?_
            refine x_if_ne_b hC 90 dX5_reads_75 (by decide) (fun hz => absurd hz c_51) (fun c_75 => ?_)
            refine x_al hC hl 1 dX5_reads_78 rfl rfl ?_
            refine x_get5 (v := .int (iI (oA mT ((xF 11)) ((xF 6))))) hC hP 0 rfl 11 (by decide) tb_630 rfl rfl dX5_reads_79 ?_
            refine x_al hC hl 1 dX5_reads_82 rfl rfl ?_
            refine x_get5 (v := .int (iI (xF 11))) hC hP 0 rfl 13 (by decide) tb_632 rfl rfl dX5_reads_83 ?_
            refine x_isub hC dX5_reads_86 ?_
            refine x_goto hC 91 dX5_reads_87 (by decide) ?_
            refine x_put5_15 hC hP hD hS 0 rfl tb_634 dX5_reads_91 (fun H locs hP hD hS => ?_)
            have hP : va_P D vwCl (wM h cs (u1 (u1 (mSetF (u1 xF 13 (xF 11)) (b2p (oPf mT ((xF 11)) ((xF 6)))) (oA mT ((xF 11)) ((xF 6)))) 14 1) 15 ((oA mT ((xF 11)) ((xF 6))) - (xF 11))) (oS mT ((xF 11)) ((xF 6)) xS) mA mV mT mB) H := hP
            have hD : va_D A (wM h cs (u1 (u1 (mSetF (u1 xF 13 (xF 11)) (b2p (oPf mT ((xF 11)) ((xF 6)))) (oA mT ((xF 11)) ((xF 6)))) 14 1) 15 ((oA mT ((xF 11)) ((xF 6))) - (xF 11))) (oS mT ((xF 11)) ((xF 6)) xS) mA mV mT mB) := hD
            refine x_al hC hl 1 dX5_reads_94 rfl rfl ?_
            refine x_dup hC dX5_reads_95 rfl ?_
            refine x_get5 (v := .int (iI (xF 16))) hC hP 0 rfl 16 (by decide) tb_635 rfl rfl dX5_reads_96 ?_
            refine x_ic hC dX5_reads_99 ?_
            refine x_iadd hC dX5_reads_100 ?_
            refine x_put5_16 hC hP hD hS 0 rfl tb_635 dX5_reads_101 (fun H locs hP hD hS => ?_)
            have hP : va_P D vwCl (wM h cs (u1 (u1 (u1 (mSetF (u1 xF 13 (xF 11)) (b2p (oPf mT ((xF 11)) ((xF 6)))) (oA mT ((xF 11)) ((xF 6)))) 14 1) 15 ((oA mT ((xF 11)) ((xF 6))) - (xF 11))) 16 ((xF 16) + 1)) (oS mT ((xF 11)) ((xF 6)) xS) mA mV mT mB) H := hP
            have hD : va_D A (wM h cs (u1 (u1 (u1 (mSetF (u1 xF 13 (xF 11)) (b2p (oPf mT ((xF 11)) ((xF 6)))) (oA mT ((xF 11)) ((xF 6)))) 14 1) 15 ((oA mT ((xF 11)) ((xF 6))) - (xF 11))) 16 ((xF 16) + 1)) (oS mT ((xF 11)) ((xF 6)) xS) mA mV mT mB) := hD
            refine x_goto hC 15 dX5_reads_104 (by decide) ?_
            have hl := lv_sub (l' := [(0, .ref (h 0))]) hl [1] rfl
            exact ih_15 k2 (u1 (u1 (u1 (mSetF (u1 xF 13 (xF 11)) (b2p (oPf mT ((xF 11)) ((xF 6)))) (oA mT ((xF 11)) ((xF 6)))) 14 1) 15 ((oA mT ((xF 11)) ((xF 6))) - (xF 11))) 16 ((xF 16) + 1)) (oS mT ((xF 11)) ((xF 6)) xS) (by show 1 = 0 → (oA mT ((xF 11)) ((xF 6))) < (xF 6) → 60 - (oA mT ((xF 11)) ((xF 6))) < ((k2 : Nat) : Int); first | (intro hz; omega) | (intro _ _; have qb := qa.2 c_51; omega)) (IM_oS hI3 _ _ _) (by show (xF 6) = mF 6; omega) (by show 0 ≤ (oA mT ((xF 11)) ((xF 6))) ∧ (oA mT ((xF 11)) ((xF 6))) ≤ 60; omega) (by show 0 ≤ 1 ∧ 1 ≤ 2; omega) (by rw [mReads_s c_23 c_30] at hf; unfold rdF at hf; first | (simp only [iif_f c_51] at hf; exact hf) | (simp only [iif_t c_51, iif_t c_59] at hf; exact hf) | (simp only [iif_t c_51, iif_f c_59] at hf; exact hf)) (by omega) H locs ls hP hD hS hl
  have hl := lv_sub (l' := [(0, .ref (h 0))]) hl [0] rfl
  exact loop_15 (Int.toNat ((62 : Int)) + 1) 62 (u1 (u1 (u1 mF 11 0) 16 0) 14 0) mS (by intro _ _; show (60 : Int) - 0 < ((62 : Nat) : Int); omega) hI rfl (by show (0 : Int) ≤ 0 ∧ (0 : Int) ≤ 60; omega) (by show (0 : Int) ≤ 0 ∧ (0 : Int) ≤ 2; omega) rfl (by omega) H locs ls hP hD hS hl
