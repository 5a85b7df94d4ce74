/-! orders read and done, on both sides -/
theorem rN_tell {S : Int → Int} {O : Nat → Bool} {G F E Z P R C : Int → Int} {T : Int → Nat → Bool} (h : rB S O G F E Z P R C T) (hN : rN S) {a b c : Int} (hc : mRefT S a b c = 0) : rN (mTells S a b c) := by
  have hI := h.2.2.1.1
  have h1 := hI.2.1
  obtain ⟨hv, hg, h20⟩ := (refT_0 hI h.1.2.1).mp hc
  have hok := (gets_ok h.1.2.1 a b c (S 0)).resolve_left hg
  unfold rN mTells
  generalize mGets S a b c (S 0) = r at *
  have t1 := tel_at S a b c r ⟨h1.1, h20⟩
  have o1 := opens_at (mTel1 S a b c r) hok.1
  have e1 : mOpens (mTel1 S a b c r) r 1 = S 1 + 1 := by rw [o1.2.1 1 (by omega)]; exact t1.1
  have e4 : mOpens (mTel1 S a b c r) r 4 = S 4 := by rw [o1.2.1 4 (by omega)]; exact t1.2.1 4 (by omega)
  have en : mOpens (mTel1 S a b c r) r (29 + 4 * (S 1) + 3) = r := by rw [o1.2.1 _ (by omega)]; exact t1.2.2.1.2.2
  rw [e1, e4, talks_sI, sI_s _ h1.1, en, iif_f (by omega)]
  have e : sI (fun t => iif (mOpens (mTel1 S a b c r) r (29 + 4 * t + 3) = -1) 0 1) (S 1) = mTalks S (S 1) := by
    rw [talks_sI]
    refine sI_c h1.1 (fun u u0 u1 => ?_)
    show iif (mOpens (mTel1 S a b c r) r (29 + 4 * u + 3) = -1) 0 1 = iif (S (29 + 4 * u + 3) = -1) 0 1
    rw [o1.2.1 _ (by omega), (t1.2.2.2 u u0 (by omega)).2.2]
  rw [e, hN]; omega
theorem rN_drop {S : Int → Int} {O : Nat → Bool} {G F E Z P R C : Int → Int} {T : Int → Nat → Bool} (h : rB S O G F E Z P R C T) (hN : rN S) {t : Int} (ht : mTalkP S t) : rN (mWith S t) := by
  obtain ⟨hp, h1, h2, h3⟩ := (talkP_iff h t).2 ht
  have w := with_at S h1.1
  unfold rN
  rw [w.1 1 (by omega), w.2.1, talks_sI]
  have e := sI_one (g := fun u => iif (S (29 + 4 * u + 3) = -1) 0 1) (g' := fun u => iif (mWith S t (29 + 4 * u + 3) = -1) 0 1) (n := S 1) (q := t) (d := -1) h1 (fun u u0 u1 un => by show iif (mWith S t (29 + 4 * u + 3) = -1) 0 1 = iif (S (29 + 4 * u + 3) = -1) 0 1; rw [(w.2.2.2 u u0 un).2.2]) (by show iif (mWith S t (29 + 4 * t + 3) = -1) 0 1 = iif (S (29 + 4 * t + 3) = -1) 0 1 + -1; rw [w.2.2.1.2.2, iif_t rfl, iif_f (by omega)]; rfl)
  rw [e, ← talks_sI, hN]; omega
theorem rN_same {S S' : Int → Int} (hN : rN S) (h0 : 0 ≤ S 1) (h1 : S' 1 = S 1) (h4 : S' 4 = S 4) (h : ∀ t, 0 ≤ t → t < S 1 → (S' (29 + 4 * t + 3) = -1 ↔ S (29 + 4 * t + 3) = -1)) : rN S' := by
  unfold rN
  rw [talks_c h1 h0 h, h1, h4]; exact hN
theorem rN_move {S : Int → Int} {O : Nat → Bool} {G F E Z P R C : Int → Int} {T : Int → Nat → Bool} (h : rB S O G F E Z P R C T) (hN : rN S) {t r : Int} (ht : mTalkP S t) (hr : 0 ≤ r) : rN (u1 S (29 + 4 * t + 3) r) := by
  obtain ⟨hp, h1, h2, h3⟩ := (talkP_iff h t).2 ht
  have b := in_at S r h1.1
  refine rN_same hN h.2.2.1.1.2.1.1 (b.1 1 (by omega)) (b.1 4 (by omega)) (fun u u0 u1 => ?_)
  by_cases c : u = t
  · rw [c, b.2.1.2.2]; omega
  · rw [(b.2.2 u c).2.2]
theorem rN_lay {S : Int → Int} {O : Nat → Bool} {G F E Z P R C : Int → Int} {T : Int → Nat → Bool} (h : rB S O G F E Z P R C T) (hN : rN S) {r z c : Int} (hr : 0 ≤ r ∧ r ≤ 7) : rN (mLay S r z c) := by
  have e : ∀ j, ¬ j = (5 + 3 * r + 0) ∧ ¬ j = (5 + 3 * r + 1) → mLay S r z c j = S j := by
    intro j hj
    unfold mLay
    rw [u1_n hj.2, u1_n hj.1]
  refine rN_same hN h.2.2.1.1.2.1.1 (e 1 (by omega)) (e 4 (by omega)) (fun u u0 u1 => ?_)
  rw [e _ (by omega)]
theorem rN_u1 {S : Int → Int} {O : Nat → Bool} {G F E Z P R C : Int → Int} {T : Int → Nat → Bool} (h : rB S O G F E Z P R C T) (hN : rN S) {j v : Int} (hj : j = 0 ∨ (5 ≤ j ∧ j < 29)) : rN (u1 S j v) :=
  rN_same hN h.2.2.1.1.2.1.1 (u1_n (by omega)) (u1_n (by omega)) (fun u u0 u1 => by rw [u1_n (by omega)])

theorem iif_TT {α : Type} (a b : α) : iif True a b = a := iif_t trivial
theorem do_eq {S : Int → Int} {O : Nat → Bool} {G F E Z P R C : Int → Int} {T : Int → Nat → Bool} (h : rB S O G F E Z P R C T) (hN : rN S) {k a b c b2 c2 : Int} (hk : k = 116 ∨ k = 119 ∨ k = 114 ∨ k = 117) (hb : k = 116 ∨ k = 114 → b = b2 ∧ c = c2) : (dV O G F E Z P R C T k a b c < 0 ↔ ¬ mDoV S k a b2 c2 = 0) ∧ (dV O G F E Z P R C T k a b c < 0 → dV O G F E Z P R C T k a b c = mDoV S k a b2 c2) ∧ (¬ dV O G F E Z P R C T k a b c < 0 → rB (mDoS S k a b2 c2) (dO O G F E Z P R C T k a b c) (dG O G F E Z P R C T k a b c) (dF O G F E Z P R C T k a b c) (dE O G F E Z P R C T k a b c) (dZ O G F E Z P R C T k a b c) (dP O G F E Z P R C T k a b c) (dR O G F E Z P R C T k a b c) (dC O G F E Z P R C T k a b c) (dT O G F E Z P R C T k a b c) ∧ rN (mDoS S k a b2 c2)) := by
  rcases hk with rfl | rfl | rfl | rfl
  · obtain ⟨rfl, rfl⟩ := hb (Or.inl rfl)
    have ev : dV O G F E Z P R C T 116 a b c = bTelV O G R C T a b c := iif_t rfl
    have em : mDoV S 116 a b c = mRefT S a b c := iif_t rfl
    have es : mDoS S 116 a b c = iif (mRefT S a b c = 0) (mTells S a b c) S := iif_t rfl
    rw [ev, em, es, telV_eq h]
    have hr : mRefT S a b c = 0 ∨ mRefT S a b c < 0 := by unfold mRefT iif; split <;> try split <;> try split
                                                          all_goals omega
    by_cases q : mRefT S a b c = 0
    · have hok := (gets_ok h.1.2.1 a b c (S 0)).resolve_left ((refT_0 h.2.2.1.1 h.1.2.1).mp q).2.1
      rw [iif_t q, iif_t q]
      refine ⟨by omega, fun x => by omega, fun _ => ?_⟩
      have hc := (telC_iff h).mpr q
      have e1 := tell_rel h hc
      unfold dO dG dF dE dZ dP dR dC dT
      simp only [iif_t (P := (116 : Int) = 116) rfl, iif_t hc, iif_TT, iif_f (P := (116 : Int) = 114) (by omega)]
      exact ⟨e1, rN_tell h hN q⟩
    · rw [iif_f q, iif_f q]
      exact ⟨by omega, fun _ => rfl, fun x => by omega⟩
  · have ev : dV O G F E Z P R C T 119 a b c = iif (¬ bPl P a = -1) (bPl P a) (-1000001) := by unfold dV; rw [iif_f (by omega), iif_t rfl]
    have em : mDoV S 119 a b2 c2 = iif (mTalkP S a) 0 (-1000001) := by unfold mDoV; rw [iif_f (by omega), iif_t rfl]
    have es : mDoS S 119 a b2 c2 = iif (mTalkP S a) (mWith S a) S := by unfold mDoS; rw [iif_f (by omega), iif_t rfl]
    have tp := talkP_iff h a
    rw [ev, em, es, propext tp.1]
    by_cases q : mTalkP S a
    · have q1 := tp.2 q
      rw [iif_t q, iif_t q, iif_t q]
      refine ⟨by omega, fun x => by omega, fun _ => ?_⟩
      have e1 := drop_rel h q
      have hc := tp.1.mpr q
      unfold dO dG dF dE dZ dP dR dC dT
      simp only [iif_t (P := (119 : Int) = 119) rfl, iif_t hc, iif_TT, iif_f (P := (119 : Int) = 116) (by omega), iif_f (P := (119 : Int) = 114) (by omega)]
      exact ⟨e1, rN_drop h hN q⟩
    · rw [iif_f q, iif_f q]
      exact ⟨by omega, fun _ => rfl, fun x => by omega⟩
  · obtain ⟨rfl, rfl⟩ := hb (Or.inr rfl)
    have ev : dV O G F E Z P R C T 114 a b c = bFuV O R C a b c := by unfold dV; rw [iif_f (by omega), iif_f (by omega), iif_t rfl]
    have em : mDoV S 114 a b c = mRefR S a b c := by unfold mDoV; rw [iif_f (by omega), iif_f (by omega), iif_t rfl]
    have es : mDoS S 114 a b c = iif (mRefR S a b c = 0) (mLay S a b c) S := by unfold mDoS; rw [iif_f (by omega), iif_f (by omega), iif_t rfl]
    have fv := furV_eq h.1.1 a b c
    have f0 := refR_0 h.1.1 (r := a) (z := b) (c := c)
    rw [ev, em, es, fv]
    have hr : mRefR S a b c = 0 ∨ mRefR S a b c < 0 := by unfold mRefR iif; split <;> try split
                                                          all_goals omega
    by_cases q : mRefR S a b c = 0
    · have hc := f0.mp q
      have g := (h.1.1 a hc.1.1.1 (by have := hc.1.1.2; omega)).2.2
      rw [iif_t q, iif_t q]
      refine ⟨by omega, fun x => by omega, fun _ => ?_⟩
      have e1 := fur_rel h hc
      unfold dO dG dF dE dZ dP dR dC dT
      simp only [iif_t (P := (114 : Int) = 114) rfl, iif_t hc, iif_TT, iif_f (P := (114 : Int) = 116) (by omega), iif_f (P := (114 : Int) = 119) (by omega), iif_f (P := (114 : Int) = 117) (by omega)]
      exact ⟨e1, rN_lay h hN hc.1.1⟩
    · rw [iif_f q, iif_f q]
      exact ⟨by omega, fun _ => rfl, fun x => by omega⟩
  · have ev : dV O G F E Z P R C T 117 a b c = iif (0 ≤ a ∧ a ≤ 3) (G 12) (-1000001) := by unfold dV; rw [iif_f (by omega), iif_f (by omega), iif_f (by omega), iif_t rfl]
    have em : mDoV S 117 a b2 c2 = iif (0 ≤ a ∧ a ≤ 3) 0 (-1000001) := by unfold mDoV; rw [iif_f (by omega), iif_f (by omega), iif_f (by omega)]
    have es : mDoS S 117 a b2 c2 = u1 S 0 (iif (0 ≤ a ∧ a ≤ 3) a (S 0)) := by unfold mDoS; rw [iif_f (by omega), iif_f (by omega), iif_f (by omega)]
    have g12 := h.2.2.1.2.2.1
    rw [ev, em, es]
    by_cases q : 0 ≤ a ∧ a ≤ 3
    · rw [iif_t q, iif_t q, iif_t q]
      refine ⟨by omega, fun x => by omega, fun _ => ?_⟩
      have e1 := rule_rel h q
      unfold dO dG dF dE dZ dP dR dC dT
      simp only [iif_t (P := (117 : Int) = 117) rfl, iif_t q, iif_TT, iif_f (P := (117 : Int) = 116) (by omega), iif_f (P := (117 : Int) = 119) (by omega), iif_f (P := (117 : Int) = 114) (by omega)]
      exact ⟨e1, rN_u1 h hN (Or.inl rfl)⟩
    · rw [iif_f q, iif_f q]
      exact ⟨by omega, fun _ => rfl, fun x => by omega⟩
/-- reading -/
theorem st_0 (T : Int → Int) (a n c : Int) : mNa T 0 a n = a ∧ b2p (mN1 T 0 a n) = 0 ∧ b2p (mWs T 0 a n c) = 0 := by
  have h1 : ¬ mN1 T 0 a n := fun q => by unfold mN1 at q; omega
  have h2 : ¬ mN2 T 0 a n := fun q => h1 q.1
  refine ⟨?_, b2p_f h1, b2p_f (fun q => by unfold mWs at q; omega)⟩
  unfold mNa
  rw [iif_f h2, b2p_f h1]; omega
theorem cS_sp (T N : Int → Int) (j c a n : Int) (f : (Int → Int) → Int → Prop × Int × (Int → Int)) : (cS T N j c a n f = f (u1 N j (mNv T 1 a n)) (mNa T 1 a n + 1) ∧ b2p (mN1 T 1 a n) = 1 ∧ b2p (mWs T 1 (mNa T 1 a n) n c) = 1) ∨ ((∃ M, cS T N j c a n f = (False, mNa T 1 a n, M)) ∧ b2p (mWs T (b2p (mN1 T 1 a n)) (mNa T 1 a n) n c) = 0) := by
  by_cases h1 : mN1 T 1 a n
  · by_cases h2 : mWs T 1 (mNa T 1 a n) n c
    · left
      rw [cS_t h1 h2, cN_in h1]
      unfold cA
      rw [b2p_t h1, b2p_t h2]
      exact ⟨rfl, rfl, rfl⟩
    · right
      refine ⟨⟨cN T N j a n, ?_⟩, by rw [b2p_t h1]; exact b2p_f h2⟩
      rw [cS_f h1 h2]
      unfold cA
      rw [b2p_f h2, Int.add_zero]
  · right
    refine ⟨⟨cN T N j a n, cS_e h1⟩, ?_⟩
    rw [b2p_f h1]
    exact (st_0 T _ n c).2.2
theorem rd_eq (T N : Int → Int) (a n : Int) : ((cRd T N a n).1 ↔ oPf T a n) ∧ (cRd T N a n).2.1 = oA T a n ∧ ((cRd T N a n).1 → (oP3 T a n ∨ oK1 T a n) ∧ (cRd T N a n).2.2 0 = oV1 T a n ∧ (oP3 T a n → (cRd T N a n).2.2 1 = oX2 T a n ∧ (cRd T N a n).2.2 2 = oX3 T a n)) := by
  have tr : (b2p True : Int) = 1 := b2p_t trivial
  by_cases c3 : oP3 T a n
  · have e : cRd T N a n = cR3 T N (a + 1) n := iif_t c3
    have w0 : oW0 T a n = 1 := b2p_t (by unfold oP3 at c3; unfold oP0; omega)
    have a0 : oA0 T a n = a + 1 := by unfold oA0; rw [w0]
    have a1 : oA1 T a n = mNa T 1 (a + 1) n := by unfold oA1; rw [w0, a0]
    have w1 : oW1 T a n = b2p (mN1 T 1 (a + 1) n) := by unfold oW1; rw [w0, a0]
    have v1 : oV1 T a n = mNv T 1 (a + 1) n := by unfold oV1; rw [w0, a0]
    have pf : oPf T a n = mWs T (oW5 T a n) (oA5 T a n) n 59 := iif_t c3
    have oa : oA T a n = oA5 T a n + b2p (mWs T (oW5 T a n) (oA5 T a n) n 59) := by unfold oA; rw [iif_t c3, pf]
    have dead4 : oW4 T a n = 0 → ((False ↔ oPf T a n) ∧ oA4 T a n = oA T a n) := by
      intro q
      have z := st_0 T (oA4 T a n) n 59
      have w5 : oW5 T a n = 0 := by unfold oW5; rw [q]; exact z.2.1
      have a5 : oA5 T a n = oA4 T a n := by unfold oA5; rw [q]; exact z.1
      have p0 := st_0 T (oA5 T a n) n 59
      rw [pf, oa, w5, p0.2.2, a5]
      exact ⟨⟨False.elim, fun x => by unfold mWs at x; omega⟩, by omega⟩
    have dead2 : oW2 T a n = 0 → ((False ↔ oPf T a n) ∧ oA2 T a n = oA T a n) := by
      intro q
      have z := st_0 T (oA2 T a n) n 44
      have w3 : oW3 T a n = 0 := by unfold oW3; rw [q]; exact z.2.1
      have a3 : oA3 T a n = oA2 T a n := by unfold oA3; rw [q]; exact z.1
      have w4 : oW4 T a n = 0 := by unfold oW4; rw [w3]; exact (st_0 T _ n 44).2.2
      have a4 : oA4 T a n = oA2 T a n := by unfold oA4; rw [w4, a3]; omega
      have d := dead4 w4
      rw [a4] at d; exact d
    rw [e]
    unfold cR3
    rcases cS_sp T N 0 44 (a + 1) n (fun N a => cQ2 T N a n) with ⟨s1, s2, s3⟩ | ⟨⟨M, s1⟩, s2⟩
    · rw [s1]
      have w1' : oW1 T a n = 1 := by rw [w1]; exact s2
      have w2 : oW2 T a n = 1 := by unfold oW2; rw [w1', a1]; exact s3
      have a2 : oA2 T a n = mNa T 1 (a + 1) n + 1 := by unfold oA2; rw [w2, a1]
      rw [← a2]
      have a3 : oA3 T a n = mNa T 1 (oA2 T a n) n := by unfold oA3; rw [w2]
      have w3 : oW3 T a n = b2p (mN1 T 1 (oA2 T a n) n) := by unfold oW3; rw [w2]
      have v2 : oV2 T a n = mNv T 1 (oA2 T a n) n := by unfold oV2; rw [w2]
      show ((cQ2 T _ (oA2 T a n) n).1 ↔ _) ∧ _
      unfold cQ2
      rcases cS_sp T (u1 N 0 (mNv T 1 (a + 1) n)) 1 44 (oA2 T a n) n (fun N a => cQ3 T N a n) with ⟨s4, s5, s6⟩ | ⟨⟨M, s4⟩, s5⟩
      · rw [s4]
        have w3' : oW3 T a n = 1 := by rw [w3]; exact s5
        have w4 : oW4 T a n = 1 := by unfold oW4; rw [w3', a3]; exact s6
        have a4 : oA4 T a n = mNa T 1 (oA2 T a n) n + 1 := by unfold oA4; rw [w4, a3]
        rw [← a4]
        have a5 : oA5 T a n = mNa T 1 (oA4 T a n) n := by unfold oA5; rw [w4]
        have w5 : oW5 T a n = b2p (mN1 T 1 (oA4 T a n) n) := by unfold oW5; rw [w4]
        have v3 : oV3 T a n = mNv T 1 (oA4 T a n) n := by unfold oV3; rw [w4]
        show ((cQ3 T _ (oA4 T a n) n).1 ↔ _) ∧ _
        unfold cQ3
        rcases cS_sp T (u1 (u1 N 0 (mNv T 1 (a + 1) n)) 1 (mNv T 1 (oA2 T a n) n)) 2 59 (oA4 T a n) n (fun N a => (True, a, N)) with ⟨s7, s8, s9⟩ | ⟨⟨M, s7⟩, s8⟩
        · rw [s7, pf, oa, w5, s8, a5, s9]
          refine ⟨⟨fun _ => b2p_1.mp s9, fun _ => trivial⟩, rfl, fun _ => ⟨Or.inl c3, ?_, fun _ => ⟨?_, ?_⟩⟩⟩
          · rw [v1]
            dsimp only
            rw [u1_n (by omega), u1_n (by omega), u1_s]
          · unfold oX2
            rw [iif_t c3, v2]
            dsimp only
            rw [u1_n (by omega), u1_s]
          · unfold oX3
            rw [iif_t c3, v3]
            dsimp only
            rw [u1_s]
        · rw [s7, pf, oa, w5, a5, s8]
          exact ⟨⟨False.elim, fun x => by have := b2p_0.mp s8; exact this x⟩, by show mNa T 1 (oA4 T a n) n = _ + 0; omega, False.elim⟩
      · rw [s4]
        have w4 : oW4 T a n = 0 := by unfold oW4; rw [w3, a3]; exact s5
        have a4 : oA4 T a n = mNa T 1 (oA2 T a n) n := by unfold oA4; rw [w4, a3]; omega
        have d := dead4 w4
        rw [a4] at d
        exact ⟨d.1, d.2, False.elim⟩
    · rw [s1]
      have w2 : oW2 T a n = 0 := by unfold oW2; rw [w1, a1]; exact s2
      have a2 : oA2 T a n = mNa T 1 (a + 1) n := by unfold oA2; rw [w2, a1]; omega
      have d := dead2 w2
      rw [a2] at d
      exact ⟨d.1, d.2, False.elim⟩
  · have pf : oPf T a n = mWs T (oW1 T a n) (oA1 T a n) n 59 := iif_f c3
    have oa : oA T a n = oA1 T a n + b2p (mWs T (oW1 T a n) (oA1 T a n) n 59) := by unfold oA; rw [iif_f c3, pf]
    by_cases c1 : oK1 T a n
    · have e : cRd T N a n = cR1 T N (a + 1) n := by unfold cRd; rw [iif_f c3, iif_t c1]
      have w0 : oW0 T a n = 1 := b2p_t (by unfold oK1 at c1; unfold oP0; omega)
      have a0 : oA0 T a n = a + 1 := by unfold oA0; rw [w0]
      have a1 : oA1 T a n = mNa T 1 (a + 1) n := by unfold oA1; rw [w0, a0]
      have w1 : oW1 T a n = b2p (mN1 T 1 (a + 1) n) := by unfold oW1; rw [w0, a0]
      have v1 : oV1 T a n = mNv T 1 (a + 1) n := by unfold oV1; rw [w0, a0]
      rw [e]
      unfold cR1
      rcases cS_sp T N 0 59 (a + 1) n (fun N a => (True, a, N)) with ⟨s1, s2, s3⟩ | ⟨⟨M, s1⟩, s2⟩
      · rw [s1, pf, oa, w1, a1, s2, s3]
        refine ⟨⟨fun _ => b2p_1.mp s3, fun _ => trivial⟩, rfl, fun _ => ⟨Or.inr c1, ?_, fun q => absurd q c3⟩⟩
        rw [v1]
        dsimp only
        rw [u1_s]
      · rw [s1, pf, oa, w1, a1, s2]
        exact ⟨⟨False.elim, fun x => by have := b2p_0.mp s2; exact this x⟩, by show mNa T 1 (a + 1) n = _ + 0; omega, False.elim⟩
    · have e : cRd T N a n = (False, a, N) := by unfold cRd; rw [iif_f c3, iif_f c1]
      have w0 : oW0 T a n = 0 := b2p_f (by unfold oP0; unfold oP3 at c3; unfold oK1 at c1; omega)
      have a0 : oA0 T a n = a := by unfold oA0; rw [w0]; omega
      have z := st_0 T a n 59
      have a1 : oA1 T a n = a := by unfold oA1; rw [w0, a0]; exact z.1
      have w1 : oW1 T a n = 0 := by unfold oW1; rw [w0, a0]; exact z.2.1
      rw [e, pf, oa, w1, a1, z.2.2]
      exact ⟨⟨False.elim, fun x => by unfold mWs at x; omega⟩, by show a = a + 0; omega, False.elim⟩
