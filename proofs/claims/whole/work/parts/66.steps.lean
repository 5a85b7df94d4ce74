/-! the calls: both sides together -/
/-- b: the board now; Q: the boards kept; n: the text's length; g: the text; F S V X: the reference's -/
def RR (U : Int) (b : Bd) (Q : List Bd) (n : Int) (g F S V X : Int → Int) : Prop := (rBd U S b ∧ rQ U Q (F 4) V) ∧ (F 6 = n ∧ 0 ≤ n ∧ n ≤ 60) ∧ X = g ∧ IT X
theorem RR_F {U : Int} {b : Bd} {Q : List Bd} {n : Int} {g F S V X F2 : Int → Int} (h : RR U b Q n g F S V X) (h4 : F2 4 = F 4) (h6 : F2 6 = F 6) : RR U b Q n g F2 S V X :=
  ⟨⟨h.1.1, by rw [h4]; exact h.1.2⟩, by rw [h6]; exact h.2.1, h.2.2⟩
theorem RR_mono {U U2 : Int} {b : Bd} {Q : List Bd} {n : Int} {g F S V X : Int → Int} (h : RR U b Q n g F S V X) (hU : U ≤ U2) : RR U2 b Q n g F S V X := ⟨⟨rBd_mono h.1.1 hU, rQ_mono h.1.2 hU⟩, h.2⟩
theorem RR_4 {U : Int} {b : Bd} {Q : List Bd} {n : Int} {g F S V X : Int → Int} (h : RR U b Q n g F S V X) : 0 ≤ F 4 ∧ F 4 ≤ 4 := by
  have := h.1.2.1
  have := h.1.2.2.1
  omega
theorem RR_push {U U2 : Int} {b b2 : Bd} {Q : List Bd} {n : Int} {g F S V X F1 F2 S2 : Int → Int} (h : RR U b Q n g F S V X) (hU : U ≤ U2) (h4 : F1 4 = F 4) (h6 : F1 6 = F 6) (e4 : F2 4 = mRecF F1 4) (e6 : F2 6 = F1 6) (hb : rBd U2 S2 b2) : RR U2 b2 (qPush Q b) n g F2 S2 (mRecV F1 S V) X := by
  refine ⟨⟨hb, ?_⟩, ?_, h.2.2⟩
  · rw [e4]
    refine rQ_push ?_ (rBd_mono h.1.1 hU)
    rw [h4]
    exact rQ_mono h.1.2 hU
  · rw [e6, h6]; exact h.2.1
theorem RR_chg {U U2 : Int} {b b2 : Bd} {Q : List Bd} {n : Int} {g F S V X F1 S2 : Int → Int} (h : RR U b Q n g F S V X) (hU : U ≤ U2) (h4 : F1 4 = F 4) (h6 : F1 6 = F 6) {v : Int} {c : Prop} (hc : 0 ≤ v ↔ c) (hb : c → rBd U2 S2 b2) : RR U2 (iif (0 ≤ v) b2 b) (iif (0 ≤ v) (qPush Q b) Q) n g (iif c (mRecF F1) F1) (iif c S2 S) (iif c (mRecV F1 S V) V) X := by
  by_cases d : c
  · rw [iif_t (hc.mpr d), iif_t (hc.mpr d), iif_t d, iif_t d, iif_t d]
    exact RR_push h hU h4 h6 rfl (mRecF_k _ (by omega)) (hb d)
  · have e : ¬ 0 ≤ v := fun q => d (hc.mp q)
    rw [iif_f e, iif_f e, iif_f d, iif_f d, iif_f d]
    exact RR_mono (RR_F h h4 h6) hU
theorem f0_4 (F : Int → Int) : u1 F 0 0 4 = F 4 := u1_n (by omega)
theorem f0_6 (F : Int → Int) : u1 F 0 0 6 = F 6 := u1_n (by omega)
theorem tup {O O2 : Nat → Bool} {G F E Z P R C G2 F2 E2 Z2 P2 R2 C2 : Int → Int} {T T2 : Int → Nat → Bool} {U : Int} {S : Int → Int} (h : rB S O2 G2 F2 E2 Z2 P2 R2 C2 T2 ∧ rN S ∧ S 3 ≤ U) (hO : O = O2) (hG : G = G2) (hF : F = F2) (hE : E = E2) (hZ : Z = Z2) (hP : P = P2) (hR : R = R2) (hC : C = C2) (hT : T = T2) : rBd U S (O, G, F, E, Z, P, R, C, T) := by
  subst hO; subst hG; subst hF; subst hE; subst hZ; subst hP; subst hR; subst hC; subst hT
  exact h
section V2
variable {U : Int} {O : Nat → Bool} {G F E Z P R C : Int → Int} {T : Int → Nat → Bool} {Q : List Bd} {n : Int} {g W S V X : Int → Int}
theorem s_talk (h : RR U (O, G, F, E, Z, P, R, C, T) Q n g W S V X) (f e z : Int) : bTelV O G R C T f e z = iif (mRefT S f e z = 0) (mGets S f e z (S 0)) (mRefT S f e z) ∧ RR (U + 6200) (iif (0 ≤ bTelV O G R C T f e z) (iif (bTelC O G R C T f e z) (bPutO O (bTelR O G R C T f e z)) O, iif (bTelC O G R C T f e z) (bTelG O G C (bTelR O G R C T f e z)) G, iif (bTelC O G R C T f e z) (u1 F (G 8) f) F, iif (bTelC O G R C T f e z) (u1 E (G 8) e) E, iif (bTelC O G R C T f e z) (u1 Z (G 8) z) Z, iif (bTelC O G R C T f e z) (u1 P (G 8) (bTelR O G R C T f e z)) P, R, C, iif (bTelC O G R C T f e z) (bPutT T (u1 F (G 8) f) (u1 E (G 8) e) (G 8) (bTelR O G R C T f e z)) T) (O, G, F, E, Z, P, R, C, T)) (iif (0 ≤ bTelV O G R C T f e z) (qPush Q (O, G, F, E, Z, P, R, C, T)) Q) n g (iif (mRefT S f e z = 0) (mRecF (u1 W 0 0)) (u1 W 0 0)) (iif (mRefT S f e z = 0) (mTells S f e z) S) (iif (mRefT S f e z = 0) (mRecV (u1 W 0 0) S V) V) X := by
  have hb : rB S O G F E Z P R C T := h.1.1.1
  have hv := telV_eq hb (a := f) (b := e) (c := z)
  have hr := mRefT_rg S f e z
  refine ⟨hv, RR_chg h (by omega) (f0_4 W) (f0_6 W) ?_ (fun c => ?_)⟩
  · rw [hv]
    by_cases c : mRefT S f e z = 0
    · rw [iif_t c]
      have m := mRefT_0 c
      have := gets_ok hb.1.2.1 f e z (S 0)
      omega
    · rw [iif_f c]; omega
  · have ht := (telC_iff hb).mpr c
    refine tup ⟨tell_rel hb ht, rN_tell hb h.1.1.2.1 c, ?_⟩ (iif_t ht) (iif_t ht) (iif_t ht) (iif_t ht) (iif_t ht) (iif_t ht) rfl rfl (iif_t ht)
    have d := do_3 hb.2.2.1.1 116 f e z
    unfold mDoS at d
    rw [iif_t rfl, iif_t c] at d
    have := h.1.1.2.2
    omega
theorem s_withdraw (h : RR U (O, G, F, E, Z, P, R, C, T) Q n g W S V X) (t : Int) : iif (¬ bPl P t = -1) (bPl P t) (-1000001) = iif (mTalkP S t) (S (29 + 4 * t + 3)) (-1000001) ∧ RR (U + 6200) (iif (0 ≤ iif (¬ bPl P t = -1) (bPl P t) (-1000001)) (O, iif (¬ bPl P t = -1) (u1 G 9 (G 9 + 1)) G, F, E, Z, iif (¬ bPl P t = -1) (u1 P t (-1)) P, R, C, iif (¬ bPl P t = -1) (bOutT T F E t (bPl P t)) T) (O, G, F, E, Z, P, R, C, T)) (iif (0 ≤ iif (¬ bPl P t = -1) (bPl P t) (-1000001)) (qPush Q (O, G, F, E, Z, P, R, C, T)) Q) n g (iif (mTalkP S t) (mRecF (u1 W 0 0)) (u1 W 0 0)) (iif (mTalkP S t) (mWith S t) S) (iif (mTalkP S t) (mRecV (u1 W 0 0) S V) V) X := by
  have hb : rB S O G F E Z P R C T := h.1.1.1
  have hp := talkP_iff hb t
  refine ⟨?_, RR_chg h (by omega) (f0_4 W) (f0_6 W) ?_ (fun c => ?_)⟩
  · by_cases c : mTalkP S t
    · rw [iif_t c, iif_t (hp.1.mpr c)]; exact (hp.2 c).1
    · rw [iif_f c, iif_f (fun q => c (hp.1.mp q))]
  · by_cases c : mTalkP S t
    · rw [iif_t (hp.1.mpr c)]
      have := hp.2 c
      exact ⟨fun _ => c, fun _ => by omega⟩
    · rw [iif_f (fun q => c (hp.1.mp q))]
      exact ⟨fun q => by omega, fun q => absurd q c⟩
  · have ht := hp.1.mpr c
    refine tup ⟨drop_rel hb c, rN_drop hb h.1.1.2.1 c, ?_⟩ rfl (iif_t ht) rfl rfl rfl (iif_t ht) rfl rfl (iif_t ht)
    rw [(with_at S c.1.1).1 3 (by omega)]
    have := h.1.1.2.2
    omega
theorem s_move (h : RR U (O, G, F, E, Z, P, R, C, T) Q n g W S V X) (t r : Int) : bShV O F E Z P R T t r = iif (mTalkP S t ∧ 0 ≤ r ∧ r ≤ 7) (iif (mMove S t r) (S (29 + 4 * t + 3)) (-1000002)) (-1000001) ∧ RR (U + 6200) (iif (0 ≤ bShV O F E Z P R T t r) (iif (bShC O F E Z P R T t r) (bPutO O r) O, iif (bShC O F E Z P R T t r) (bPutG O G C r) G, F, E, Z, iif (bShC O F E Z P R T t r) (u1 (u1 P t (-1)) t r) P, R, C, iif (bShC O F E Z P R T t r) (bShT F E P T t r) T) (O, G, F, E, Z, P, R, C, T)) (iif (0 ≤ bShV O F E Z P R T t r) (qPush Q (O, G, F, E, Z, P, R, C, T)) Q) n g (iif ((mTalkP S t ∧ 0 ≤ r ∧ r ≤ 7) ∧ mMove S t r) (mRecF (u1 W 0 0)) (u1 W 0 0)) (iif ((mTalkP S t ∧ 0 ≤ r ∧ r ≤ 7) ∧ mMove S t r) (u1 S (29 + 4 * t + 3) r) S) (iif ((mTalkP S t ∧ 0 ≤ r ∧ r ≤ 7) ∧ mMove S t r) (mRecV (u1 W 0 0) S V) V) X := by
  have hb : rB S O G F E Z P R C T := h.1.1.1
  have hp := talkP_iff hb t
  have hv : bShV O F E Z P R T t r = iif (mTalkP S t ∧ 0 ≤ r ∧ r ≤ 7) (iif (mMove S t r) (S (29 + 4 * t + 3)) (-1000002)) (-1000001) := by
    unfold bShV
    by_cases c : mTalkP S t ∧ 0 ≤ r ∧ r ≤ 7
    · rw [iif_t c, iif_t (show ¬ bPl P t = -1 ∧ 0 ≤ r ∧ r ≤ 7 from ⟨hp.1.mpr c.1, c.2⟩)]
      have hg := go_iff hb c.1 (r := r) (by omega)
      by_cases d : mMove S t r
      · rw [iif_t d, iif_t (hg.mpr d)]; exact (hp.2 c.1).1
      · rw [iif_f d, iif_f (fun q => d (hg.mp q))]
    · rw [iif_f c, iif_f (show ¬ (¬ bPl P t = -1 ∧ 0 ≤ r ∧ r ≤ 7) from fun q => c ⟨hp.1.mp q.1, q.2⟩)]
  refine ⟨hv, RR_chg h (by omega) (f0_4 W) (f0_6 W) ?_ (fun c => ?_)⟩
  · rw [hv]
    by_cases c : mTalkP S t ∧ 0 ≤ r ∧ r ≤ 7
    · rw [iif_t c]
      have := (hp.2 c.1).2.2.1
      by_cases d : mMove S t r
      · rw [iif_t d]; exact ⟨fun _ => ⟨c, d⟩, fun _ => by omega⟩
      · rw [iif_f d]; exact ⟨fun q => by omega, fun q => absurd q.2 d⟩
    · rw [iif_f c]; exact ⟨fun q => by omega, fun q => absurd q.1 c⟩
  · have hr : 0 ≤ r ∧ r < 8 := by have := c.1.2; omega
    have ht : bShC O F E Z P R T t r := ⟨⟨hp.1.mpr c.1.1, c.1.2⟩, (go_iff hb c.1.1 hr).mpr c.2⟩
    have hs := shift_rel hb c.1.1 hr c.2
    refine tup ⟨hs.1, rN_move hb h.1.1.2.1 c.1.1 hr.1, ?_⟩ (iif_t ht) (iif_t ht) rfl rfl rfl (iif_t ht) rfl rfl ((iif_t ht).trans ?_)
    · rw [u1_n (by have := c.1.1.1; omega)]
      have := h.1.1.2.2
      omega
    · unfold bShT
      rw [(hp.2 c.1.1).1]
theorem s_room (h : RR U (O, G, F, E, Z, P, R, C, T) Q n g W S V X) (r z c : Int) : bFuV O R C r z c = iif (mRefR S r z c = 0) (100 * S (5 + 3 * r + 0) + S (5 + 3 * r + 1)) (mRefR S r z c) ∧ RR (U + 6200) (iif (0 ≤ bFuV O R C r z c) (O, G, F, E, Z, P, iif (bFuC O r z c) (u1 R r z) R, iif (bFuC O r z c) (u1 C r c) C, T) (O, G, F, E, Z, P, R, C, T)) (iif (0 ≤ bFuV O R C r z c) (qPush Q (O, G, F, E, Z, P, R, C, T)) Q) n g (iif (mRefR S r z c = 0) (mRecF (u1 W 0 0)) (u1 W 0 0)) (iif (mRefR S r z c = 0) (mLay S r z c) S) (iif (mRefR S r z c = 0) (mRecV (u1 W 0 0) S V) V) X := by
  have hb : rB S O G F E Z P R C T := h.1.1.1
  have hv := furV_eq hb.1.1 r z c
  have hr := mRefR_rg S r z c
  refine ⟨hv, RR_chg h (by omega) (f0_4 W) (f0_6 W) ?_ (fun d => ?_)⟩
  · rw [hv]
    by_cases d : mRefR S r z c = 0
    · rw [iif_t d]
      have m := mRefR_0 d
      have := hb.1.1 r (by omega) (by omega)
      omega
    · rw [iif_f d]; omega
  · have ht := (refR_0 hb.1.1).mp d
    have m := mRefR_0 d
    refine tup ⟨fur_rel hb ht, rN_lay hb h.1.1.2.1 (by omega), ?_⟩ rfl rfl rfl rfl rfl rfl (iif_t ht) (iif_t ht) rfl
    unfold mLay
    rw [u1_n (by omega), u1_n (by omega)]
    have := h.1.1.2.2
    omega
theorem s_close (h : RR U (O, G, F, E, Z, P, R, C, T) Q n g W S V X) (r : Int) : iif (0 ≤ r ∧ r ≤ 7) (iif (bCl O T r) ((cntN (oClr O r) 8 : Nat) : Int) (-1000002)) (-1000001) = iif (0 ≤ r ∧ r ≤ 7) (iif (S (5 + 3 * r + 2) = 1 ∧ mskI (fun t => S (29 + 4 * t + 3) = r) (S 1) = 0) (mOpenN (u1 S (5 + 3 * r + 2) 0) 8) (-1000002)) (-1000001) ∧ RR (U + 6200) (iif (0 ≤ iif (0 ≤ r ∧ r ≤ 7) (iif (bCl O T r) ((cntN (oClr O r) 8 : Nat) : Int) (-1000002)) (-1000001)) (iif ((0 ≤ r ∧ r ≤ 7) ∧ bCl O T r) (oClr O r) O, G, F, E, Z, P, R, C, T) (O, G, F, E, Z, P, R, C, T)) (iif (0 ≤ iif (0 ≤ r ∧ r ≤ 7) (iif (bCl O T r) ((cntN (oClr O r) 8 : Nat) : Int) (-1000002)) (-1000001)) (qPush Q (O, G, F, E, Z, P, R, C, T)) Q) n g (iif ((0 ≤ r ∧ r ≤ 7) ∧ S (5 + 3 * r + 2) = 1 ∧ mskI (fun t => S (29 + 4 * t + 3) = r) (S 1) = 0) (mRecF (u1 W 0 0)) (u1 W 0 0)) (iif ((0 ≤ r ∧ r ≤ 7) ∧ S (5 + 3 * r + 2) = 1 ∧ mskI (fun t => S (29 + 4 * t + 3) = r) (S 1) = 0) (u1 S (5 + 3 * r + 2) 0) S) (iif ((0 ≤ r ∧ r ≤ 7) ∧ S (5 + 3 * r + 2) = 1 ∧ mskI (fun t => S (29 + 4 * t + 3) = r) (S 1) = 0) (mRecV (u1 W 0 0) S V) V) X := by
  have hb : rB S O G F E Z P R C T := h.1.1.1
  refine ⟨?_, RR_chg h (by omega) (f0_4 W) (f0_6 W) ?_ (fun d => ?_)⟩
  · by_cases c : 0 ≤ r ∧ r ≤ 7
    · have hr : 0 ≤ r ∧ r < 8 := by omega
      have hc := cl_iff hb.1 hr
      rw [iif_t c, iif_t c]
      by_cases d : S (5 + 3 * r + 2) = 1 ∧ mskI (fun t => S (29 + 4 * t + 3) = r) (S 1) = 0
      · rw [iif_t d, iif_t (hc.mpr d)]
        exact (openN_eq (shut_rel hb hr d).1.1 (n := 8) (by omega) (by omega)).symm
      · rw [iif_f d, iif_f (fun q => d (hc.mp q))]
    · rw [iif_f c, iif_f c]
  · by_cases c : 0 ≤ r ∧ r ≤ 7
    · have hr : 0 ≤ r ∧ r < 8 := by omega
      have hc := cl_iff hb.1 hr
      rw [iif_t c]
      by_cases d : bCl O T r
      · rw [iif_t d]; exact ⟨fun _ => ⟨c, hc.mp d⟩, fun _ => by omega⟩
      · rw [iif_f d]; exact ⟨fun q => by omega, fun q => absurd (hc.mpr q.2) d⟩
    · rw [iif_f c]; exact ⟨fun q => by omega, fun q => absurd q.1 c⟩
  · have hr : 0 ≤ r ∧ r < 8 := by have := d.1; omega
    have ht : (0 ≤ r ∧ r ≤ 7) ∧ bCl O T r := ⟨d.1, (cl_iff hb.1 hr).mpr d.2⟩
    refine tup ⟨shut_rel hb hr d.2, rN_u1 hb h.1.1.2.1 (by omega), ?_⟩ (iif_t ht) rfl rfl rfl rfl rfl rfl rfl rfl
    rw [u1_n (by omega)]
    have := h.1.1.2.2
    omega
theorem s_set (h : RR U (O, G, F, E, Z, P, R, C, T) Q n g W S V X) (w v : Int) : iif (w = 0) (iif (0 ≤ v ∧ v ≤ 3) (G 12) (-1000001)) (-1000001) = iif (w = 0 ∧ 0 ≤ v ∧ v ≤ 3) (S 0) (-1000001) ∧ RR (U + 6200) (iif (0 ≤ iif (w = 0) (iif (0 ≤ v ∧ v ≤ 3) (G 12) (-1000001)) (-1000001)) (O, iif (w = 0) (iif (0 ≤ v ∧ v ≤ 3) (u1 G 12 v) G) G, F, E, Z, P, R, C, T) (O, G, F, E, Z, P, R, C, T)) (iif (0 ≤ iif (w = 0) (iif (0 ≤ v ∧ v ≤ 3) (G 12) (-1000001)) (-1000001)) (qPush Q (O, G, F, E, Z, P, R, C, T)) Q) n g (iif (w = 0 ∧ 0 ≤ v ∧ v ≤ 3) (mRecF (u1 W 0 0)) (u1 W 0 0)) (iif (w = 0 ∧ 0 ≤ v ∧ v ≤ 3) (u1 S 0 v) S) (iif (w = 0 ∧ 0 ≤ v ∧ v ≤ 3) (mRecV (u1 W 0 0) S V) V) X := by
  have hb : rB S O G F E Z P R C T := h.1.1.1
  have g0 := hb.2.1.2.1.1
  have i0 := hb.2.2.1.1.1
  refine ⟨?_, RR_chg h (by omega) (f0_4 W) (f0_6 W) ?_ (fun d => ?_)⟩
  · by_cases c : w = 0
    · by_cases d : 0 ≤ v ∧ v ≤ 3
      · rw [iif_t c, iif_t d, iif_t (show w = 0 ∧ 0 ≤ v ∧ v ≤ 3 from ⟨c, d⟩)]; exact g0
      · rw [iif_t c, iif_f d, iif_f (show ¬ (w = 0 ∧ 0 ≤ v ∧ v ≤ 3) from fun q => d q.2)]
    · rw [iif_f c, iif_f (show ¬ (w = 0 ∧ 0 ≤ v ∧ v ≤ 3) from fun q => c q.1)]
  · by_cases c : w = 0
    · by_cases d : 0 ≤ v ∧ v ≤ 3
      · rw [iif_t c, iif_t d]; exact ⟨fun _ => ⟨c, d⟩, fun _ => by omega⟩
      · rw [iif_t c, iif_f d]; exact ⟨fun q => by omega, fun q => absurd q.2 d⟩
    · rw [iif_f c]; exact ⟨fun q => by omega, fun q => absurd q.1 c⟩
  · refine tup ⟨rule_rel hb d.2, rN_u1 hb h.1.1.2.1 (by omega), ?_⟩ rfl (by rw [iif_t d.1, iif_t d.2]) rfl rfl rfl rfl rfl rfl rfl
    rw [u1_n (by omega)]
    have := h.1.1.2.2
    omega
theorem s_anew (h : RR U (O, G, F, E, Z, P, R, C, T) Q n g W S V X) (A B A2 B2 : Int → Int) : bAnV F E Z R C G P T (G 12) = mPr S (S 0) ∧ RR (U + 6200) (iif (0 ≤ bAnV F E Z R C G P T (G 12)) ((bAnew F E Z R C G P T (G 12)).2.1, (bAnew F E Z R C G P T (G 12)).2.2.1, F, E, Z, (bAnew F E Z R C G P T (G 12)).2.2.2.1, R, C, (bAnew F E Z R C G P T (G 12)).2.2.2.2) (O, G, F, E, Z, P, R, C, T)) (iif (0 ≤ bAnV F E Z R C G P T (G 12)) (qPush Q (O, G, F, E, Z, P, R, C, T)) Q) n g (iif (mPr S (S 0) = -1000002) (mAnF S A (u1 W 0 0) B (S 0)) (mAnF S A2 (mRecF (mAnF S A (u1 W 0 0) B (S 0))) B2 (S 0))) (iif (mPr S (S 0) = -1000002) S (u1 (mC S (S 0)).2.2.1 3 (mPr S (S 0)))) (iif (mPr S (S 0) = -1000002) V (mRecV (mAnF S A (u1 W 0 0) B (S 0)) S V)) X := by
  have hb : rB S O G F E Z P R C T := h.1.1.1
  have g0 := hb.2.1.2.1.1
  have i0 := hb.2.2.1.1.1
  rw [g0]
  have hn := pr_neg hb i0
  have a4 : ∀ (A F B : Int → Int), mAnF S A F B (S 0) 4 = F 4 := fun A F B => mAnF_k S A F B (S 0) (by omega)
  have a6 : ∀ (A F B : Int → Int), mAnF S A F B (S 0) 6 = F 6 := fun A F B => mAnF_k S A F B (S 0) (by omega)
  have hr := mPr_rg hb.2.2.1.1 (S 0)
  refine ⟨hn.2.1, ?_⟩
  by_cases c : mPr S (S 0) = -1000002
  · have d : ¬ 0 ≤ bAnV F E Z R C G P T (S 0) := Int.not_le.mpr (hn.1.mpr c)
    rw [iif_f d, iif_f d, iif_t c, iif_t c, iif_t c]
    exact RR_mono (RR_F h ((a4 _ _ _).trans (f0_4 W)) ((a6 _ _ _).trans (f0_6 W))) (by omega)
  · have d : 0 ≤ bAnV F E Z R C G P T (S 0) := Int.not_lt.mp (fun q => c (hn.1.mp q))
    have ha := (an_eq hb i0).2.2 (hn.2.2 c)
    rw [iif_t d, iif_t d, iif_f c, iif_f c, iif_f c]
    refine RR_push h (by omega) ((a4 _ _ _).trans (f0_4 W)) ((a6 _ _ _).trans (f0_6 W)) (a4 _ _ _) ((a6 _ _ _).trans (mRecF_k _ (by omega))) ⟨ha.1.2, ha.2.1 h.1.1.2.1, ?_⟩
    rw [u1_s]
    have := h.1.1.2.2
    have := hb.2.2.2.1
    omega
theorem s_undo0 {b : Bd} (h : RR U b [] n g W S V X) : iif (W 4 = 0) (-1000002) (W 4 - 1) = (-1000002 : Int) ∧ RR U b [] n g (iif (W 4 = 0) (u1 W 0 0) (u1 (u1 W 0 0) 4 (W 4 - 1))) (iif (W 4 = 0) S (mTake S V (W 4 - 1))) V X := by
  have h0 : W 4 = 0 := h.1.2.1
  rw [iif_t h0, iif_t h0, iif_t h0]
  exact ⟨rfl, RR_F h (f0_4 W) (f0_6 W)⟩
theorem s_undo1 {b c : Bd} (h : RR U b (Q ++ [c]) n g W S V X) : iif (W 4 = 0) (-1000002) (W 4 - 1) = (Q.length : Int) ∧ RR U c Q n g (iif (W 4 = 0) (u1 W 0 0) (u1 (u1 W 0 0) 4 (W 4 - 1))) (iif (W 4 = 0) S (mTake S V (W 4 - 1))) V X := by
  have h0 := h.1.2.1
  rw [List.length_append, List.length_singleton] at h0
  have h1 : ¬ W 4 = 0 := by omega
  have hp := rQ_pop (S := S) h.1.2
  rw [iif_f h1, iif_f h1, iif_f h1]
  refine ⟨by omega, ⟨hp.2, ?_⟩, ?_, h.2.2⟩
  · rw [u1_s]; exact hp.1
  · rw [u1_n (by omega), f0_6]; exact h.2.1
theorem s_type {b : Bd} {sG : Int → Int} (h : RR U b Q (sG 2) g W S V X) (ch : Int) : iif (32 ≤ ch ∧ ch ≤ 126) (iif (sG 2 < 60) (sG 2 + 1) (-1000003)) (-1000001) = iif (32 ≤ ch ∧ ch ≤ 126) (iif (W 6 = 60) (-1000003) (W 6 + 1)) (-1000001) ∧ RR U b Q ((iif (32 ≤ ch ∧ ch ≤ 126) (iif (sG 2 < 60) (u1 sG 2 (sG 2 + 1)) sG) sG) 2) (iif (32 ≤ ch ∧ ch ≤ 126) (iif (sG 2 < 60) (u1 g (sG 2) ch) g) g) (iif ((32 ≤ ch ∧ ch ≤ 126) ∧ ¬ W 6 = 60) (u1 (u1 W 0 0) 6 (W 6 + 1)) (u1 W 0 0)) S V (iif ((32 ≤ ch ∧ ch ≤ 126) ∧ ¬ W 6 = 60) (u1 X (W 6) ch) X) := by
  have h6 := h.2.1
  by_cases c : 32 ≤ ch ∧ ch ≤ 126
  · rw [iif_t c, iif_t c, iif_t c, iif_t c]
    by_cases d : W 6 = 60
    · rw [iif_t d, iif_f (show ¬ sG 2 < 60 by omega), iif_f (show ¬ sG 2 < 60 by omega), iif_f (show ¬ sG 2 < 60 by omega), iif_f (show ¬ ((32 ≤ ch ∧ ch ≤ 126) ∧ ¬ W 6 = 60) from fun q => q.2 d), iif_f (show ¬ ((32 ≤ ch ∧ ch ≤ 126) ∧ ¬ W 6 = 60) from fun q => q.2 d)]
      exact ⟨rfl, RR_F h (f0_4 W) (f0_6 W)⟩
    · have e : sG 2 < 60 := by omega
      rw [iif_f d, iif_t e, iif_t e, iif_t e, iif_t (show (32 ≤ ch ∧ ch ≤ 126) ∧ ¬ W 6 = 60 from ⟨c, d⟩), iif_t (show (32 ≤ ch ∧ ch ≤ 126) ∧ ¬ W 6 = 60 from ⟨c, d⟩)]
      refine ⟨by omega, ⟨h.1.1, ?_⟩, ?_, ?_, ?_⟩
      · rw [u1_n (by omega), f0_4]; exact h.1.2
      · rw [u1_s, u1_s]; omega
      · rw [h.2.2.1, h6.1]
      · intro j j0 j1
        by_cases q : j = W 6
        · rw [q, u1_s]; omega
        · rw [u1_n q]; exact h.2.2.2 j j0 j1
  · rw [iif_f c, iif_f c, iif_f c, iif_f c, iif_f (show ¬ ((32 ≤ ch ∧ ch ≤ 126) ∧ ¬ W 6 = 60) from fun q => c q.1), iif_f (show ¬ ((32 ≤ ch ∧ ch ≤ 126) ∧ ¬ W 6 = 60) from fun q => c q.1)]
    exact ⟨rfl, RR_F h (f0_4 W) (f0_6 W)⟩
theorem s_clear {b : Bd} {sG : Int → Int} (h : RR U b Q (sG 2) g W S V X) : sG 2 = W 6 ∧ RR U b Q ((u1 sG 2 0) 2) g (u1 (u1 W 0 0) 6 0) S V X := by
  refine ⟨h.2.1.1.symm, ⟨h.1.1, ?_⟩, ?_, h.2.2⟩
  · rw [u1_n (by omega), f0_4]; exact h.1.2
  · rw [u1_s, u1_s]; omega
end V2
theorem cRun_2 {t : Int → Int} {n : Int} : ∀ (k : Nat) (a : Int) (x g N : Int → Int) (O : Nat → Bool) (G F E Z P R C : Int → Int) (T : Int → Nat → Bool), (cRun t n k a x g N O G F E Z P R C T).2.1 2 = x 2
  | 0, a, x, g, N, O, G, F, E, Z, P, R, C, T => rfl
  | k + 1, a, x, g, N, O, G, F, E, Z, P, R, C, T => by
    by_cases c : a < n
    · by_cases c1 : (cRd t N a n).1
      · by_cases c2 : dV O G F E Z P R C T (mSg t a n) ((cRd t N a n).2.2 0) ((cRd t N a n).2.2 1) ((cRd t N a n).2.2 2) < 0
        · rw [cRun_f c c1 c2]
          have e : u1 (u1 (u1 x 4 a) 5 2) 6 (dV O G F E Z P R C T (mSg t a n) ((cRd t N a n).2.2 0) ((cRd t N a n).2.2 1) ((cRd t N a n).2.2 2)) 2 = x 2 := by rw [u1_n (by omega), u1_n (by omega), u1_n (by omega)]
          exact e
        · rw [cRun_s c c1 c2, cRun_2 k, u1_n (by omega)]
      · rw [cRun_n c c1]
        have e : u1 (u1 (u1 x 4 a) 5 1) 6 ((cRd t N a n).2.1 - a) 2 = x 2 := by rw [u1_n (by omega), u1_n (by omega), u1_n (by omega)]
        exact e
    · rw [cRun_e c]
section V3
variable {U : Int} {O : Nat → Bool} {G F E Z P R C : Int → Int} {T : Int → Nat → Bool} {Q : List Bd} {n : Int} {g W S V X : Int → Int} {sG oG oN : Int → Int}
theorem s_run (h : RR U (O, G, F, E, Z, P, R, C, T) Q (sG 2) g W S V X) {W1 : Int → Int} (h6 : W1 6 = W 6) : ((cRun g (sG 2) 62 0 (u1 sG 3 0) oG oN O G F E Z P R C T).1 ↔ (mRd X W1 S).1 14 = 0) ∧ (¬ (cRun g (sG 2) 62 0 (u1 sG 3 0) oG oN O G F E Z P R C T).1 → ((cRun g (sG 2) 62 0 (u1 sG 3 0) oG oN O G F E Z P R C T).2.1 4 = (mRd X W1 S).1 13 ∧ (cRun g (sG 2) 62 0 (u1 sG 3 0) oG oN O G F E Z P R C T).2.1 5 = (mRd X W1 S).1 14) ∧ (cRun g (sG 2) 62 0 (u1 sG 3 0) oG oN O G F E Z P R C T).2.1 6 = (mRd X W1 S).1 15) ∧ ((cRun g (sG 2) 62 0 (u1 sG 3 0) oG oN O G F E Z P R C T).1 → rBd (U + 6200) (mRd X W1 S).2 ((cRun g (sG 2) 62 0 (u1 sG 3 0) oG oN O G F E Z P R C T).2.2.2.2) ∧ (mRd X W1 S).1 16 = (cRun g (sG 2) 62 0 (u1 sG 3 0) oG oN O G F E Z P R C T).2.1 3) := by
  have hX := h.2.2
  have h2 := h.2.1
  have hr := run_sim (T := X) (n := sG 2) hX.2 h2.2.2 62 0 (u1 sG 3 0) oG oN O G F E Z P R C T (u1 (u1 (u1 W1 11 0) 16 0) 14 0) S h.1.1.1 h.1.1.2.1 (by rw [u1_n (by omega), u1_n (by omega), u1_s]) (by rw [u1_n (by omega), u1_n (by omega), u1_n (by omega), h6]; exact h2.1) u1_s (by omega) (by omega) (by omega)
  rw [hX.1] at hr ⊢
  refine ⟨hr.1, hr.2.1, fun c => ?_⟩
  have hc := hr.2.2 c
  refine ⟨⟨hc.1.1, hc.1.2, ?_⟩, ?_⟩
  · have := reads_3 (T := g) 62 (u1 (u1 (u1 W1 11 0) 16 0) 14 0) S h.1.1.1.2.2.1.1
    have := h.1.1.2.2
    show (mReads g 62 (u1 (u1 (u1 W1 11 0) 16 0) 14 0) S).2 3 ≤ U + 6200
    omega
  · have e := hc.2
    rw [u1_s, u1_n (show ¬ (16 : Int) = 14 by omega), u1_s] at e
    show (mReads g 62 (u1 (u1 (u1 W1 11 0) 16 0) 14 0) S).1 16 = _
    omega
theorem s_fault (h : RR U (O, G, F, E, Z, P, R, C, T) Q (sG 2) g W S V X) (w : Int) : iif (0 ≤ w ∧ w ≤ 2) (iif ((cRun g (sG 2) 62 0 (u1 sG 3 0) oG oN O G F E Z P R C T).1) (-1000004) (iif (w = 0) ((cRun g (sG 2) 62 0 (u1 sG 3 0) oG oN O G F E Z P R C T).2.1 4) (iif (w = 1) ((cRun g (sG 2) 62 0 (u1 sG 3 0) oG oN O G F E Z P R C T).2.1 5) ((cRun g (sG 2) 62 0 (u1 sG 3 0) oG oN O G F E Z P R C T).2.1 6)))) (-1000001) = iif (0 ≤ w ∧ w ≤ 2) (iif ((mRd X (u1 W 0 0) S).1 14 = 0) (-1000004) (iif (w = 0) ((mRd X (u1 W 0 0) S).1 13) (iif (w = 1) ((mRd X (u1 W 0 0) S).1 14) ((mRd X (u1 W 0 0) S).1 15)))) (-1000001) ∧ RR U (O, G, F, E, Z, P, R, C, T) Q ((iif (0 ≤ w ∧ w ≤ 2) ((cRun g (sG 2) 62 0 (u1 sG 3 0) oG oN O G F E Z P R C T).2.1) sG) 2) g (iif (0 ≤ w ∧ w ≤ 2) (mRd X (u1 W 0 0) S).1 (u1 W 0 0)) S V X := by
  have hr := s_run (oG := oG) (oN := oN) h (f0_6 W)
  have k2 : (iif (0 ≤ w ∧ w ≤ 2) ((cRun g (sG 2) 62 0 (u1 sG 3 0) oG oN O G F E Z P R C T).2.1) sG) 2 = sG 2 := by
    by_cases c : 0 ≤ w ∧ w ≤ 2
    · rw [iif_t c, cRun_2, u1_n (by omega)]
    · rw [iif_f c]
  rw [k2]
  by_cases c : 0 ≤ w ∧ w ≤ 2
  · rw [iif_t c, iif_t c, iif_t c]
    refine ⟨?_, RR_F h ((mRd_k _ _ _ (by omega)).trans (f0_4 W)) ((mRd_k _ _ _ (by omega)).trans (f0_6 W))⟩
    by_cases d : (mRd X (u1 W 0 0) S).1 14 = 0
    · rw [iif_t d, iif_t (hr.1.mpr d)]
    · have e := hr.2.1 (fun q => d (hr.1.mp q))
      rw [iif_f d, iif_f (fun q => d (hr.1.mp q)), e.1.1, e.1.2, e.2]
  · rw [iif_f c, iif_f c, iif_f c]
    exact ⟨rfl, RR_F h (f0_4 W) (f0_6 W)⟩
theorem s_play (h : RR U (O, G, F, E, Z, P, R, C, T) Q (sG 2) g W S V X) : iif ((cRun g (sG 2) 62 0 (u1 sG 3 0) oG oN O G F E Z P R C T).1) ((cRun g (sG 2) 62 0 (u1 sG 3 0) oG oN O G F E Z P R C T).2.1 3) (-1000002) = iif ((mRd X (u1 W 0 0) S).1 14 = 0) ((mRd X (mRecF (mRd X (u1 W 0 0) S).1) S).1 16) (-1000002) ∧ RR (U + 6200) (iif (0 ≤ iif ((cRun g (sG 2) 62 0 (u1 sG 3 0) oG oN O G F E Z P R C T).1) ((cRun g (sG 2) 62 0 (u1 sG 3 0) oG oN O G F E Z P R C T).2.1 3) (-1000002)) ((cRun g (sG 2) 62 0 (u1 sG 3 0) oG oN O G F E Z P R C T).2.2.2.2) (O, G, F, E, Z, P, R, C, T)) (iif (0 ≤ iif ((cRun g (sG 2) 62 0 (u1 sG 3 0) oG oN O G F E Z P R C T).1) ((cRun g (sG 2) 62 0 (u1 sG 3 0) oG oN O G F E Z P R C T).2.1 3) (-1000002)) (qPush Q (O, G, F, E, Z, P, R, C, T)) Q) ((cRun g (sG 2) 62 0 (u1 sG 3 0) oG oN O G F E Z P R C T).2.1 2) g (iif ((mRd X (u1 W 0 0) S).1 14 = 0) (mRd X (mRecF (mRd X (u1 W 0 0) S).1) S).1 (mRd X (u1 W 0 0) S).1) (iif ((mRd X (u1 W 0 0) S).1 14 = 0) (mRd X (mRecF (mRd X (u1 W 0 0) S).1) S).2 S) (iif ((mRd X (u1 W 0 0) S).1 14 = 0) (mRecV (mRd X (u1 W 0 0) S).1 S V) V) X := by
  have r4 : ∀ (A : Int → Int), (mRd X A S).1 4 = A 4 := fun A => mRd_k X A S (by omega)
  have r6 : ∀ (A : Int → Int), (mRd X A S).1 6 = A 6 := fun A => mRd_k X A S (by omega)
  have h1 := s_run (oG := oG) (oN := oN) h (f0_6 W)
  have h2 := s_run (oG := oG) (oN := oN) h (W1 := mRecF (mRd X (u1 W 0 0) S).1) ((mRecF_k _ (by omega)).trans ((r6 _).trans (f0_6 W)))
  have k2 : (cRun g (sG 2) 62 0 (u1 sG 3 0) oG oN O G F E Z P R C T).2.1 2 = sG 2 := by rw [cRun_2, u1_n (by omega)]
  have k3 := (cRun_3 (t := g) (n := sG 2) 62 0 (u1 sG 3 0) oG oN O G F E Z P R C T).1
  rw [u1_s] at k3
  rw [k2]
  by_cases d : (mRd X (u1 W 0 0) S).1 14 = 0
  · have e := h1.1.mpr d
    have e2 := h2.2.2 e
    rw [iif_t d, iif_t d, iif_t d, iif_t d, iif_t e, iif_t k3, iif_t k3]
    exact ⟨e2.2.symm, RR_push h (by omega) ((r4 _).trans (f0_4 W)) ((r6 _).trans (f0_6 W)) (r4 _) ((r6 _).trans (mRecF_k _ (by omega))) e2.1⟩
  · have e : ¬ (cRun g (sG 2) 62 0 (u1 sG 3 0) oG oN O G F E Z P R C T).1 := fun q => d (h1.1.mp q)
    rw [iif_f d, iif_f d, iif_f d, iif_f d, iif_f e, iif_f (show ¬ (0 : Int) ≤ -1000002 by omega), iif_f (show ¬ (0 : Int) ≤ -1000002 by omega)]
    exact ⟨rfl, RR_mono (RR_F h ((r4 _).trans (f0_4 W)) ((r6 _).trans (f0_6 W))) (by omega)⟩
end V3
