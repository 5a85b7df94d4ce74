/-! texts run, on both sides -/
theorem do_3 {S : Int → Int} (hI : IM S) (l a b c : Int) : mDoS S l a b c 3 ≤ S 3 + 99 := by
  unfold mDoS
  by_cases c1 : l = 116
  · rw [iif_t c1]
    by_cases q : mRefT S a b c = 0
    · rw [iif_t q]
      have m := mRefT_0 q
      have hg := mGets_rg S a b c (S 0)
      unfold mTells
      have o := mOpens_3 (S := mTel1 S a b c (mGets S a b c (S 0))) (r := mGets S a b c (S 0)) (by omega)
      have t1 := tel_at S a b c (mGets S a b c (S 0)) (by have := hI.2.1; omega)
      rw [t1.2.1 3 (by omega), t1.2.1 _ (by omega)] at o
      have := imB hI (5 + 3 * mGets S a b c (S 0) + 1) (by omega)
      omega
    · rw [iif_f q]; omega
  · rw [iif_f c1]
    by_cases c2 : l = 119
    · rw [iif_t c2]
      by_cases q : mTalkP S a
      · rw [iif_t q, (with_at S q.1.1).1 3 (by omega)]; omega
      · rw [iif_f q]; omega
    · rw [iif_f c2]
      by_cases c3 : l = 114
      · rw [iif_t c3]
        by_cases q : mRefR S a b c = 0
        · have m := mRefR_0 q
          rw [iif_t q]
          unfold mLay
          rw [u1_n (by omega), u1_n (by omega)]; omega
        · rw [iif_f q]; omega
      · rw [iif_f c3, u1_n (by omega)]; omega
theorem reads_3 {T : Int → Int} : ∀ (k : Nat) (W S : Int → Int), IM S → (mReads T k W S).2 3 ≤ S 3 + 99 * k
  | 0, W, S, h => by show S 3 ≤ _; omega
  | k + 1, W, S, h => by
    by_cases c : W 11 < W 6 ∧ W 14 = 0
    · rw [mReads_s c.1 c.2]
      have ih := reads_3 (T := T) k (rdF T W S) _ (IM_oS h T (W 11) (W 6))
      have e : oS T (W 11) (W 6) S 3 ≤ S 3 + 99 := by
        unfold oS
        by_cases q : oPf T (W 11) (W 6)
        · rw [iif_t q]; exact do_3 h _ _ _ _
        · rw [iif_f q]; omega
      omega
    · rw [mReads_e c]; show S 3 ≤ _; omega
theorem rdF_at (T W S : Int → Int) : (rdF T W S 14 = iif (oPf T (W 11) (W 6)) (iif (oRef T (W 11) (W 6) S = 0) 0 2) 1 ∧ rdF T W S 13 = W 11 ∧ rdF T W S 15 = iif (oPf T (W 11) (W 6)) (oRef T (W 11) (W 6) S) (oA T (W 11) (W 6) - W 11)) ∧ rdF T W S 16 = W 16 + 1 ∧ rdF T W S 11 = oA T (W 11) (W 6) ∧ rdF T W S 6 = W 6 := by
  unfold rdF mSetF
  refine ⟨⟨?_, ?_, ?_⟩, ?_, ?_, ?_⟩
  · rw [u1_n (by omega), u1_n (by omega), u1_s]
  · rw [u1_n (by omega), u1_n (by omega), u1_n (by omega), u1_n (by omega), u1_n (by omega), u1_s]
  · rw [u1_n (by omega), u1_s]
  · rw [u1_s]
  · rw [u1_n (by omega), u1_n (by omega), u1_n (by omega), u1_s]
  · rw [u1_n (by omega), u1_n (by omega), u1_n (by omega), u1_n (by omega), u1_n (by omega), u1_n (by omega)]
theorem run_sim {T : Int → Int} {n : Int} (hT : IT T) (hn : n ≤ 60) : ∀ (k : Nat) (a : Int) (x g N : Int → Int) (O : Nat → Bool) (G F E Z P R C : Int → Int) (H : Int → Nat → Bool) (W S : Int → Int), rB S O G F E Z P R C H → rN S → W 11 = a → W 6 = n → W 14 = 0 → 0 ≤ a → a ≤ 60 → 60 - a < k →
    ((cRun T n k a x g N O G F E Z P R C H).1 ↔ (mReads T k W S).1 14 = 0) ∧ (¬ (cRun T n k a x g N O G F E Z P R C H).1 → ((cRun T n k a x g N O G F E Z P R C H).2.1 4 = (mReads T k W S).1 13 ∧ (cRun T n k a x g N O G F E Z P R C H).2.1 5 = (mReads T k W S).1 14) ∧ (cRun T n k a x g N O G F E Z P R C H).2.1 6 = (mReads T k W S).1 15) ∧ ((cRun T n k a x g N O G F E Z P R C H).1 → (rB (mReads T k W S).2 (cRun T n k a x g N O G F E Z P R C H).2.2.2.2.1 (cRun T n k a x g N O G F E Z P R C H).2.2.2.2.2.1 (cRun T n k a x g N O G F E Z P R C H).2.2.2.2.2.2.1 (cRun T n k a x g N O G F E Z P R C H).2.2.2.2.2.2.2.1 (cRun T n k a x g N O G F E Z P R C H).2.2.2.2.2.2.2.2.1 (cRun T n k a x g N O G F E Z P R C H).2.2.2.2.2.2.2.2.2.1 (cRun T n k a x g N O G F E Z P R C H).2.2.2.2.2.2.2.2.2.2.1 (cRun T n k a x g N O G F E Z P R C H).2.2.2.2.2.2.2.2.2.2.2.1 (cRun T n k a x g N O G F E Z P R C H).2.2.2.2.2.2.2.2.2.2.2.2 ∧ rN (mReads T k W S).2) ∧ (mReads T k W S).1 16 - W 16 = (cRun T n k a x g N O G F E Z P R C H).2.1 3 - x 3)
  | 0, a, x, g, N, O, G, F, E, Z, P, R, C, H, W, S, h, hN, w1, w6, w14, a0, a60, hk => by omega
  | k + 1, a, x, g, N, O, G, F, E, Z, P, R, C, H, W, S, h, hN, w1, w6, w14, a0, a60, hk => by
    by_cases c : a < n
    · have rd := rd_eq T N a n
      have rg := rdF_at T W S
      rw [w1, w6] at rg
      rw [mReads_s (by omega) w14, w1, w6]
      by_cases c1 : (cRd T N a n).1
      · have pf := rd.1.mp c1
        have r3 := rd.2.2 c1
        have de := do_eq h hN (k := mSg T a n) (a := (cRd T N a n).2.2 0) (b := (cRd T N a n).2.2 1) (c := (cRd T N a n).2.2 2) (b2 := oX2 T a n) (c2 := oX3 T a n) (by have := r3.1; unfold oP3 oK1 at this; omega) (fun q => r3.2.2 q)
        have er : oRef T a n S = mDoV S (mSg T a n) ((cRd T N a n).2.2 0) (oX2 T a n) (oX3 T a n) := by unfold oRef; rw [iif_t pf, r3.2.1]
        have es : oS T a n S = mDoS S (mSg T a n) ((cRd T N a n).2.2 0) (oX2 T a n) (oX3 T a n) := by unfold oS; rw [iif_t pf, r3.2.1]
        rw [iif_t pf, iif_t pf, er] at rg
        by_cases c2 : dV O G F E Z P R C H (mSg T a n) ((cRd T N a n).2.2 0) ((cRd T N a n).2.2 1) ((cRd T N a n).2.2 2) < 0
        · have q0 := de.1.mp c2
          have q1 := de.2.1 c2
          rw [iif_f q0] at rg
          rw [cRun_f c c1 c2, mReads_e (by rw [rg.1.1]; omega)]
          refine ⟨⟨False.elim, fun q => by have q : rdF T W S 14 = 0 := q; rw [rg.1.1] at q; omega⟩, fun _ => ⟨⟨?_, ?_⟩, ?_⟩, False.elim⟩
          · show u1 (u1 (u1 x 4 a) 5 2) 6 (dV O G F E Z P R C H (mSg T a n) ((cRd T N a n).2.2 0) ((cRd T N a n).2.2 1) ((cRd T N a n).2.2 2)) 4 = rdF T W S 13
            rw [rg.1.2.1, u1_n (by omega), u1_n (by omega), u1_s]
          · show u1 (u1 (u1 x 4 a) 5 2) 6 (dV O G F E Z P R C H (mSg T a n) ((cRd T N a n).2.2 0) ((cRd T N a n).2.2 1) ((cRd T N a n).2.2 2)) 5 = rdF T W S 14
            rw [rg.1.1, u1_n (by omega), u1_s]
          · show u1 (u1 (u1 x 4 a) 5 2) 6 _ 6 = rdF T W S 15
            rw [rg.1.2.2, ← q1]; exact u1_s
        · have q0 : mDoV S (mSg T a n) ((cRd T N a n).2.2 0) (oX2 T a n) (oX3 T a n) = 0 := Classical.not_not.mp (fun q => c2 (de.1.mpr q))
          have q1 := de.2.2 c2
          rw [iif_t q0] at rg
          rw [cRun_s c c1 c2, es]
          have ra := cRd_rg (T := T) (N := N) (a := a) (n := n) ⟨a0, c⟩ hn
          have rb := ra.2 c1
          have ih := run_sim hT hn k (cRd T N a n).2.1 (u1 x 3 (x 3 + 1)) (u1 (u1 g 1 (mSg T a n)) 2 (cRd T N a n).2.1) (cRd T N a n).2.2 _ _ _ _ _ _ _ _ _ (rdF T W S) _ q1.1 q1.2 (by rw [rg.2.2.1, rd.2.1]) rg.2.2.2 rg.1.1 (by omega) ra.1.2 (by omega)
          refine ⟨ih.1, ih.2.1, fun q => ⟨(ih.2.2 q).1, ?_⟩⟩
          have := (ih.2.2 q).2
          rw [rg.2.1, u1_s] at this
          omega
      · have pf : ¬ oPf T a n := fun q => c1 (rd.1.mpr q)
        rw [iif_f pf, iif_f pf] at rg
        rw [cRun_n c c1, mReads_e (by rw [rg.1.1]; omega)]
        refine ⟨⟨False.elim, fun q => by have q : rdF T W S 14 = 0 := q; rw [rg.1.1] at q; omega⟩, fun _ => ⟨⟨?_, ?_⟩, ?_⟩, False.elim⟩
        · show u1 (u1 (u1 x 4 a) 5 1) 6 ((cRd T N a n).2.1 - a) 4 = rdF T W S 13
          rw [rg.1.2.1, u1_n (by omega), u1_n (by omega), u1_s]
        · show u1 (u1 (u1 x 4 a) 5 1) 6 ((cRd T N a n).2.1 - a) 5 = rdF T W S 14
          rw [rg.1.1, u1_n (by omega), u1_s]
        · show u1 (u1 (u1 x 4 a) 5 1) 6 _ 6 = rdF T W S 15
          rw [rg.1.2.2, rd.2.1]; exact u1_s
    · rw [cRun_e c, mReads_e (by omega)]
      exact ⟨⟨fun _ => w14, fun _ => trivial⟩, fun q => absurd trivial q, fun _ => ⟨⟨h, hN⟩, by show W 16 - W 16 = x 3 - x 3; omega⟩⟩
