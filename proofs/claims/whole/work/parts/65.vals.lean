/-! the calls' answers: class against reference -/
section V1
variable {S : Int → Int} {O : Nat → Bool} {G F E Z P R C : Int → Int} {T : Int → Nat → Bool}
theorem v_talkOf (h : rB S O G F E Z P R C T) (t w : Int) : iif (bPl P t = -1) (iI (-1000001)) (bTalkOf O F E Z P R T t w) = iif (mTalkP S t ∧ 0 ≤ w ∧ w ≤ 5) (iif (w = 4) (mskI (fun r => mMove S t r) 8) (iif (w = 5) (mskI (fun u => ¬ u = t ∧ ¬ S (29 + 4 * u + 3) = -1 ∧ S (29 + 4 * u + 0) < S (29 + 4 * t + 1) ∧ S (29 + 4 * t + 0) < S (29 + 4 * u + 1)) (S 1)) (iI (S (29 + 4 * t + w))))) (iI (-1000001)) := by
  have hp := talkP_iff h t
  by_cases c : mTalkP S t
  · rw [iif_f (hp.1.mpr c), talkOf_eq h c]
    by_cases d : 0 ≤ w ∧ w ≤ 5
    · rw [iif_t d, iif_t (show mTalkP S t ∧ 0 ≤ w ∧ w ≤ 5 from ⟨c, d⟩)]
    · rw [iif_f d, iif_f (show ¬ (mTalkP S t ∧ 0 ≤ w ∧ w ≤ 5) from fun q => d q.2)]
  · rw [iif_t (Classical.not_not.mp (fun q => c (hp.1.mp q))), iif_f (show ¬ (mTalkP S t ∧ 0 ≤ w ∧ w ≤ 5) from fun q => c q.1)]
theorem v_roomOf (h : rB S O G F E Z P R C T) (r w : Int) : iif (0 ≤ r ∧ r ≤ 7) (bRoomOf O P R C T r w) (iI (-1000001)) = iif (0 ≤ r ∧ r ≤ 7) (mRoomOf S r w) (iI (-1000001)) := by
  by_cases c : 0 ≤ r ∧ r ≤ 7
  · rw [iif_t c, iif_t c]; exact roomOf_eq h (by omega)
  · rw [iif_f c, iif_f c]
theorem v_at (h : rB S O G F E Z P R C T) (r k : Int) : iif ((0 ≤ r ∧ r ≤ 7) ∧ 0 ≤ k ∧ k ≤ 47) (iif ((bTalkIn F E P r k) = -1) (-1000004) (bTalkIn F E P r k)) (-1000001) = iif ((0 ≤ r ∧ r ≤ 7) ∧ 0 ≤ k ∧ k ≤ 47) (mTalkAt S r k) (-1000001) := by
  by_cases c : (0 ≤ r ∧ r ≤ 7) ∧ 0 ≤ k ∧ k ≤ 47
  · rw [iif_t c, iif_t c]; exact talkIn_eq h (by omega)
  · rw [iif_f c, iif_f c]
theorem v_hourOf (h : rB S O G F E Z P R C T) (k w : Int) : iif (0 ≤ k ∧ k ≤ 47) (iif (w = 0) (iI (bAt F E P k 20)) (iif (w = 1) (mskI (fun t => O t.toNat = true ∧ ¬ T t k.toNat = true) 8) (iI (-1000001)))) (iI (-1000001)) = iif ((0 ≤ k ∧ k ≤ 47) ∧ 0 ≤ w ∧ w ≤ 1) (iif (w = 0) (iI (mTalksAt S k 8)) (mskI (fun t => S (5 + 3 * t + 2) = 1 ∧ mTalkAt S t k = -1000004) 8)) (iI (-1000001)) := by
  by_cases c : 0 ≤ k ∧ k ≤ 47
  · rw [iif_t c]
    by_cases c0 : w = 0
    · rw [iif_t c0, iif_t (show (0 ≤ k ∧ k ≤ 47) ∧ 0 ≤ w ∧ w ≤ 1 from ⟨c, by omega⟩), iif_t c0, at_eq h]
    · rw [iif_f c0]
      by_cases c1 : w = 1
      · rw [iif_t c1, iif_t (show (0 ≤ k ∧ k ≤ 47) ∧ 0 ≤ w ∧ w ≤ 1 from ⟨c, by omega⟩), iif_f c0]
        exact free_eq h (by omega)
      · rw [iif_f c1, iif_f (show ¬ ((0 ≤ k ∧ k ≤ 47) ∧ 0 ≤ w ∧ w ≤ 1) by omega)]
  · rw [iif_f c, iif_f (show ¬ ((0 ≤ k ∧ k ≤ 47) ∧ 0 ≤ w ∧ w ≤ 1) from fun q => c q.1)]
theorem v_would (h : rB S O G F E Z P R C T) (f e z rule : Int) : iif (((0 ≤ f ∧ f ≤ 47) ∧ (f + 1 ≤ e ∧ e ≤ 48) ∧ (1 ≤ z ∧ z ≤ 9)) ∧ 0 ≤ rule ∧ rule ≤ 3) (iif ((bFor O R C T f e z rule) = -1) (-1000004) (bFor O R C T f e z rule)) (-1000001) = iif (((0 ≤ f ∧ f ≤ 47) ∧ (f + 1 ≤ e ∧ e ≤ 48) ∧ (1 ≤ z ∧ z ≤ 9)) ∧ 0 ≤ rule ∧ rule ≤ 3) (iif (mGets S f e z rule = -1) (-1000004) (mGets S f e z rule)) (-1000001) := by
  by_cases c : ((0 ≤ f ∧ f ≤ 47) ∧ (f + 1 ≤ e ∧ e ≤ 48) ∧ (1 ≤ z ∧ z ≤ 9)) ∧ 0 ≤ rule ∧ rule ≤ 3
  · rw [iif_t c, iif_t c, for_eq h.1.1 h.1.2.1 h.1.2.2 z (by omega) c.2]
  · rw [iif_f c, iif_f c]
theorem pr_neg (h : rB S O G F E Z P R C T) {rule : Int} (hu : 0 ≤ rule ∧ rule ≤ 3) : (bAnV F E Z R C G P T rule < 0 ↔ mPr S rule = -1000002) ∧ bAnV F E Z R C G P T rule = mPr S rule ∧ (¬ mPr S rule = -1000002 → (mC S rule).1) := by
  have ha := an_eq h hu
  have hr := mPr_rg h.2.2.1.1 rule
  have h3 : ¬ mPr S rule = -1000002 → (mC S rule).1 := fun q => Classical.not_not.mp (fun z => q (hr.2.2.mpr z))
  refine ⟨?_, ha.2.1, h3⟩
  rw [ha.2.1]
  constructor
  · intro q
    refine Classical.not_not.mp (fun z => ?_)
    have := (ha.2.2 (h3 z)).2.2.2
    omega
  · intro q; omega
theorem v_known (h : rB S O G F E Z P R C T) (rule w : Int) : iif ((0 ≤ rule ∧ rule ≤ 3) ∧ 0 ≤ w ∧ w ≤ 2) (iif (bAnV F E Z R C G P T rule < 0 ∨ w = 0) (bAnV F E Z R C G P T rule) (iif (w = 1) ((cntN (bAnew F E Z R C G P T rule).2.1 8 : Nat) : Int) (bElse (bAnew F E Z R C G P T rule).2.2.2.1 P 20))) (-1000001) = iif ((0 ≤ rule ∧ rule ≤ 3) ∧ 0 ≤ w ∧ w ≤ 2) (iif (mPr S rule = -1000002 ∨ w = 0) (mPr S rule) (iif (w = 1) ((mC S rule).2.2.1 2 - S 2) ((mC S rule).2.1 10))) (-1000001) := by
  by_cases c : (0 ≤ rule ∧ rule ≤ 3) ∧ 0 ≤ w ∧ w ≤ 2
  · rw [iif_t c, iif_t c]
    have hn := pr_neg h c.1
    rw [hn.2.1]
    by_cases d : mPr S rule = -1000002 ∨ w = 0
    · rw [iif_t d, iif_t (show mPr S rule < 0 ∨ w = 0 by rcases d with d | d <;> omega)]
    · have hv := hn.2.1
      have hd : ¬ mPr S rule = -1000002 := fun q => d (Or.inl q)
      rw [iif_f d, iif_f (show ¬ (mPr S rule < 0 ∨ w = 0) by rw [← hv]; intro q; rcases q with q | q; exact hd (hn.1.mp q); exact d (Or.inr q))]
      have ha := ((an_eq h c.1).2.2 (hn.2.2 hd)).1.1
      rw [ha.1, ha.2]
  · rw [iif_f c, iif_f c]
theorem v_unk (h : rB S O G F E Z P R C T) : iif (bAnV F E Z R C G P T (G 12) < 0) (bAnV F E Z R C G P T (G 12)) (G 11 - bAnV F E Z R C G P T (G 12) + 10000) = iif (mPr S (S 0) = -1000002) (mPr S (S 0)) (S 3 - mPr S (S 0) + 10000) := by
  have g := h.2.1.2
  rw [g.1.1, g.2.1.2]
  have hn := pr_neg h (rule := S 0) h.2.2.1.1.1
  have hv := hn.2.1
  by_cases c : mPr S (S 0) = -1000002
  · rw [iif_t c, iif_t (hn.1.mpr c)]; exact hv
  · rw [iif_f c, iif_f (fun q => c (hn.1.mp q)), hv]
theorem v_share (h : rB S O G F E Z P R C T) (hU : S 3 ≤ 2147483647) : ∃ FE FT : Nat, ((1 ≤ FE ∧ FE ≤ 254) ∧ FT < 8388608) ∧ (0 < bAnV F E Z R C G P T (G 12) → Jvm.FP.fdiv (Jvm.FP.i2f (iI (G 11))) (Jvm.FP.i2f (iI (bAnV F E Z R C G P T (G 12)))) = nF FE FT) ∧ (¬ mPr S (S 0) = -1000002 → ¬ mTalks S (S 1) = 0 → Jvm.FP.fdiv (Jvm.FP.i2f (iI (S 3))) (Jvm.FP.i2f (iI (mPr S (S 0)))) = nF FE FT) ∧ iif (bAnV F E Z R C G P T (G 12) < 0) (bAnV F E Z R C G P T (G 12)) (iif (bAnV F E Z R C G P T (G 12) = 0) (-1000004) ((FE : Int) * 8388608 + FT)) = iif (mPr S (S 0) = -1000002) (-1000002) (iif (mTalks S (S 1) = 0) (-1000004) ((FE : Int) * 8388608 + FT)) := by
  have g := h.2.1.2
  rw [g.1.1, g.2.1.2]
  have hu := h.2.2.1.1.1
  have hn := pr_neg h (rule := S 0) hu
  rw [hn.2.1]
  have hr := mPr_rg h.2.2.1.1 (S 0)
  by_cases c : mPr S (S 0) = -1000002
  · exact ⟨1, 0, ⟨⟨by omega, by omega⟩, by omega⟩, fun q => by omega, fun q => absurd c q, by rw [iif_t c, iif_t (show mPr S (S 0) < 0 by omega)]; exact c⟩
  · have ha := ((an_eq h hu).2.2 (hn.2.2 c))
    have h0 := ha.2.2.2
    have hz := ha.2.2.1
    by_cases d : mTalks S (S 1) = 0
    · have e := hz.mpr d
      exact ⟨1, 0, ⟨⟨by omega, by omega⟩, by omega⟩, fun q => by omega, fun _ q => absurd d q, by rw [iif_f c, iif_t d, iif_f (show ¬ mPr S (S 0) < 0 by omega), iif_t e]⟩
    · have e : ¬ mPr S (S 0) = 0 := fun q => d (hz.mp q)
      have hp : 1 ≤ S 3 := by
        have hm := h.2.2.2
        have hV := h.1.2.1
        refine Classical.not_not.mp (fun z => d ?_)
        rw [talks_sI]
        refine sI_0 hV.1.1 (fun t t0 t1 => ?_)
        refine iif_t (Classical.not_not.mp (fun y => ?_))
        have hv := hV.2 t t0 t1
        have := hm.2 (S (29 + 4 * t + 3)) (by omega) (by omega) (hv.2.1 y)
        omega
      obtain ⟨FE, FT, hE, hx⟩ := share_n (a := S 3) (b := mPr S (S 0)) ⟨hp, hU⟩ ⟨by omega, by omega⟩
      exact ⟨FE, FT, ⟨⟨hE.1, hE.2.1⟩, hE.2.2⟩, fun _ => hx, fun _ _ => hx, by rw [iif_f c, iif_f d, iif_f (show ¬ mPr S (S 0) < 0 by omega), iif_f e]⟩
theorem v_best (h : rB S O G F E Z P R C T) (w : Int) : iif (0 ≤ w ∧ w ≤ 1) (iif ((bBest F E Z R C G P T 4).1 = -1) (-1000004) (iif (w = 0) (bBest F E Z R C G P T 4).1 (bBest F E Z R C G P T 4).2)) (-1000001) = iif (0 ≤ w ∧ w ≤ 1) (iif ((mBest S 4).1 = -1000004 ∨ w = 0) (mBest S 4).1 (mBest S 4).2) (-1000001) := by rw [best_eq h w]
theorem v_emptied (h : rB S O G F E Z P R C T) (w : Int) : iif (0 ≤ w ∧ w ≤ 1) (iif ((bEmX O G F E Z P R C T 8).1 = -1) (-1000004) (iif (w = 0) (bEmX O G F E Z P R C T 8).1 ((cntN (bd (fun t => P t = (bEmX O G F E Z P R C T 8).1)) 20 : Nat) : Int))) (-1000001) = iif (0 ≤ w ∧ w ≤ 1) (iif (mEm S 8 = -1000004 ∨ w = 0) (mEm S 8) (popI (mskI (fun t => S (29 + 4 * t + 3) = mEm S 8) (S 1)) 20)) (-1000001) := by rw [emp_eq h w]
theorem v_count (h : rB S O G F E Z P R C T) (hN : rN S) {k n : Int} {Fm : Int → Int} (h4 : k = Fm 4) (h6 : n = Fm 6) (w : Int) : iif (w = 8) k (iif (w = 9) n (iif (w = 20) (G 12) (bNum O G F E P T w))) = mCount Fm S w := by
  by_cases c8 : w = 8
  · subst c8
    rw [iif_t rfl, h4]
    unfold mCount
    rw [iif_f (by omega), iif_f (by omega), iif_f (by omega), iif_f (by omega), iif_f (by omega), iif_f (by omega), iif_f (by omega), iif_f (by omega), iif_t rfl]
  · by_cases c9 : w = 9
    · subst c9
      rw [iif_f c8, iif_t rfl, h6]
      unfold mCount
      rw [iif_f (by omega), iif_f (by omega), iif_f (by omega), iif_f (by omega), iif_f (by omega), iif_f (by omega), iif_f (by omega), iif_f (by omega), iif_f (by omega), iif_t rfl]
    · by_cases c20 : w = 20
      · subst c20
        rw [iif_f c8, iif_f c9, iif_t rfl, h.2.1.2.1.1]
        unfold mCount
        rw [iif_f (by omega), iif_f (by omega), iif_f (by omega), iif_f (by omega), iif_f (by omega), iif_f (by omega), iif_f (by omega), iif_f (by omega), iif_f (by omega), iif_f (by omega), iif_t rfl]
      · rw [iif_f c8, iif_f c9, iif_f c20]
        exact num_eq h hN Fm c8 c9 c20
end V1
