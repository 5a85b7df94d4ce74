/-! telling anew: its start and its end -/
theorem shut_at (S : Int → Int) {n : Int} (h0 : 0 ≤ n) : ∀ r, 0 ≤ r → (mShut S n (5 + 3 * r + 0) = S (5 + 3 * r + 0) ∧ mShut S n (5 + 3 * r + 1) = S (5 + 3 * r + 1)) ∧ mShut S n (5 + 3 * r + 2) = iif (r < n) 0 (S (5 + 3 * r + 2)) := by
  refine fI_ind (fun n (x : Int → Int) => ∀ r, 0 ≤ r → (x (5 + 3 * r + 0) = S (5 + 3 * r + 0) ∧ x (5 + 3 * r + 1) = S (5 + 3 * r + 1)) ∧ x (5 + 3 * r + 2) = iif (r < n) 0 (S (5 + 3 * r + 2))) (fun r r0 => ⟨⟨rfl, rfl⟩, (iif_f (by omega)).symm⟩) (fun i x hi hin hx r r0 => ?_) h0
  have g := hx r r0
  rw [u1_n (by omega), u1_n (by omega)]
  refine ⟨g.1, ?_⟩
  by_cases c : r = i
  · rw [c, u1_s, iif_t (by omega)]
  · rw [u1_n (by omega), g.2]
    by_cases c2 : r < i
    · rw [iif_t c2, iif_t (by omega)]
    · rw [iif_f c2, iif_f (by omega)]
theorem noin_at (S : Int → Int) {n : Int} (h0 : 0 ≤ n) : (∀ t, 0 ≤ t → ((mNoIn S n (29 + 4 * t + 0) = S (29 + 4 * t + 0) ∧ mNoIn S n (29 + 4 * t + 1) = S (29 + 4 * t + 1)) ∧ mNoIn S n (29 + 4 * t + 2) = S (29 + 4 * t + 2)) ∧ mNoIn S n (29 + 4 * t + 3) = iif (t < n) (-1) (S (29 + 4 * t + 3))) ∧ ∀ j, j < 29 → mNoIn S n j = S j := by
  refine fI_ind (fun n (x : Int → Int) => (∀ t, 0 ≤ t → ((x (29 + 4 * t + 0) = S (29 + 4 * t + 0) ∧ x (29 + 4 * t + 1) = S (29 + 4 * t + 1)) ∧ x (29 + 4 * t + 2) = S (29 + 4 * t + 2)) ∧ x (29 + 4 * t + 3) = iif (t < n) (-1) (S (29 + 4 * t + 3))) ∧ ∀ j, j < 29 → x j = S j) ⟨fun r r0 => ⟨⟨⟨rfl, rfl⟩, rfl⟩, (iif_f (by omega)).symm⟩, fun j hj => rfl⟩ (fun i x hi hin hx => ⟨fun r r0 => ?_, fun j hj => ?_⟩) h0
  · have g := hx.1 r r0
    rw [u1_n (by omega), u1_n (by omega), u1_n (by omega)]
    refine ⟨g.1, ?_⟩
    by_cases c : r = i
    · rw [c, u1_s, iif_t (by omega)]
    · rw [u1_n (by omega), g.2]
      by_cases c2 : r < i
      · rw [iif_t c2, iif_t (by omega)]
      · rw [iif_f c2, iif_f (by omega)]
  · rw [u1_n (by omega)]; exact hx.2 j hj
theorem an_start {S : Int → Int} {O : Nat → Bool} {G F E Z P R C : Int → Int} {T : Int → Nat → Bool} (h : rB S O G F E Z P R C T) : aI S F E Z P R C G 0 (fun _ => false) (u1 G 11 0) P (bZero T) (u1 (fun _ => 0) 10 0) (mNoIn (mShut S 8) 20) (mZero (fun _ => 0) 20) := by
  have z1 := h.2.2.1.1.2.1
  have sh := shut_at S (n := 8) (by omega)
  have so : ∀ j, j < 5 ∨ 29 ≤ j → mShut S 8 j = S j := fun j hj => mShut_out S (by omega) (by omega) hj
  have ni := noin_at (mShut S 8) (n := 20) (by omega)
  have e1 : mNoIn (mShut S 8) 20 1 = S 1 := by rw [ni.2 1 (by omega), so 1 (by omega)]
  have er : ∀ r, 0 ≤ r → r < 8 → (mNoIn (mShut S 8) 20 (5 + 3 * r + 0) = S (5 + 3 * r + 0) ∧ mNoIn (mShut S 8) 20 (5 + 3 * r + 1) = S (5 + 3 * r + 1)) ∧ mNoIn (mShut S 8) 20 (5 + 3 * r + 2) = 0 := by
    intro r r0 r8
    rw [ni.2 _ (by omega), ni.2 _ (by omega), ni.2 _ (by omega)]
    have g := sh r r0
    rw [iif_t r8] at g
    exact g
  have et : ∀ t, 0 ≤ t → t < 20 → ((mNoIn (mShut S 8) 20 (29 + 4 * t + 0) = S (29 + 4 * t + 0) ∧ mNoIn (mShut S 8) 20 (29 + 4 * t + 1) = S (29 + 4 * t + 1)) ∧ mNoIn (mShut S 8) 20 (29 + 4 * t + 2) = S (29 + 4 * t + 2)) ∧ mNoIn (mShut S 8) 20 (29 + 4 * t + 3) = -1 := by
    intro t t0 t1
    have g := ni.1 t t0
    rw [iif_t t1, so _ (by omega), so _ (by omega), so _ (by omega)] at g
    exact g
  refine ⟨⟨⟨fun r r0 r8 => ?_, ⟨by rw [e1]; exact z1, fun t t0 t1 => ?_⟩, fun r r0 r8 k hk => ?_⟩, IM_noin (IM_shut h.2.2.1.1 (by omega) (by omega)) (by omega) (by omega), B01_zero _, h.2.2.1.2.1⟩, ⟨⟨?_, e1, ?_⟩, fun t t0 t1 => ?_⟩, fun t t0 t1 => Or.inl ⟨mZero_in _ (by omega) ⟨t0, by omega⟩, (et t t0 (by omega)).2, (h.2.1.1.1 t t0 t1).2.2, ?_⟩, h.2.1.1.2, ⟨?_, ?_, fun j hj => u1_n (by omega)⟩, ⟨?_, ?_⟩, ⟨?_, fun r r0 r8 hq => ?_⟩, Or.inl ?_⟩
  · have g := h.1.1 r r0 r8
    have a := er r r0 r8
    rw [a.1.1, a.1.2, a.2]
    exact ⟨g.1, ⟨⟨fun q => Bool.noConfusion q, fun q => by omega⟩, Or.inl rfl⟩, g.2.2⟩
  · rw [e1] at t1
    have v := (h.1.2.1.2 t t0 t1).1
    have a := et t t0 (by omega)
    rw [a.1.1.1, a.1.1.2, a.1.2, a.2]
    exact ⟨⟨v.1, v.2.1, by omega⟩, fun q => absurd rfl q, fun u u0 u1 un q => absurd rfl q⟩
  · rw [bZero_in T ⟨r0, r8⟩ k]
    constructor
    · intro q; exact Bool.noConfusion q
    · rintro ⟨t, tt, a, -⟩
      rw [e1] at tt
      rw [(et t tt.1 (by omega)).2] at a; omega
  · rw [ni.2 0 (by omega), so 0 (by omega)]
  · rw [ni.2 4 (by omega), so 4 (by omega)]
  · exact (et t t0 (by omega)).1
  · have v := (h.1.2.1.2 t t0 t1).1
    right; omega
  · rw [u1_s, ni.2 3 (by omega), so 3 (by omega)]; omega
  · rw [u1_n (by omega), ni.2 2 (by omega), so 2 (by omega)]; exact h.2.1.2.2.1.1
  · rw [u1_s, else_sI, sI_0 (by omega) (fun r _ _ => iif_t rfl)]
  · rw [ni.2 2 (by omega), so 2 (by omega), cntN_z _ _ (fun _ => rfl)]; omega
  · rw [ni.2 3 (by omega), so 3 (by omega)]; omega
  · rw [(er r r0 r8).2] at hq; omega
  · rw [ni.2 3 (by omega), so 3 (by omega)]
theorem an_fin {S0 : Int → Int} {O0 : Nat → Bool} {G0 F E Z P0 R C : Int → Int} {T0 : Int → Nat → Bool} (h : rB S0 O0 G0 F E Z P0 R C T0) {O : Nat → Bool} {G P : Int → Int} {T : Int → Nat → Bool} {Fm S B : Int → Int} (hI : aI S0 F E Z P0 R C G0 960 O G P T Fm S B) : rB (u1 S 3 (S 3 - S0 3)) O G F E Z P R C T ∧ ∀ t, 0 ≤ t → t < S0 1 → (S (29 + 4 * t + 3) = -1 ↔ S0 (29 + 4 * t + 3) = -1) := by
  have z1 := h.2.2.1.1.2.1
  obtain ⟨⟨hC, hM, hB1, hIB⟩, ⟨⟨e0, e1, e4⟩, et⟩, ei, ep, ⟨g11, g10, gk⟩, ⟨f10, f2⟩, ⟨p0, p1⟩, p3⟩ := hI
  have en : ∀ j, ¬ j = 3 → u1 S 3 (S 3 - S0 3) j = S j := fun j hj => u1_n hj
  have key : ∀ t, 0 ≤ t → t < S0 1 → P t = S (29 + 4 * t + 3) ∧ (S (29 + 4 * t + 3) = -1 ↔ S0 (29 + 4 * t + 3) = -1) := by
    intro t t0 t1
    have v := (h.1.2.1.2 t t0 t1).1
    have := ei t t0 t1
    omega
  have hR : rR (u1 S 3 (S 3 - S0 3)) O R C := by
    intro q q0 q8
    rw [en _ (by omega), en _ (by omega), en _ (by omega)]; exact hC.1 q q0 q8
  refine ⟨⟨same_core hC hR (en 1 (by omega)) (fun u u0 u1 => ⟨⟨en _ (by omega), en _ (by omega)⟩, en _ (by omega), en _ (by omega)⟩) (fun u u0 u1 hn => ?_), ⟨⟨fun t t0 t1 => ?_, fun t t0 t1 => ?_⟩, ⟨⟨?_, ?_⟩, ⟨?_, ?_⟩, ?_⟩⟩, ⟨IM_lo hM (by omega), ⟨hIB, ?_, ?_⟩⟩, ?_, fun r r0 r8 hq => ?_⟩, fun t t0 t1 => (key t t0 t1).2⟩
  · rw [en _ (by omega)]; exact (hC.2.1.2 u u0 u1).2.1 hn
  · rw [en 1 (by omega), e1] at t1
    rw [en _ (by omega), en _ (by omega), en _ (by omega), en _ (by omega)]
    have a := et t t0 t1
    have g := h.2.1.1.1 t t0 t1
    rw [a.1.1, a.1.2, a.2]
    exact ⟨g.1, g.2.1, (key t t0 t1).1⟩
  · rw [en 1 (by omega), e1] at t0
    exact ep t t0 t1
  · rw [en 0 (by omega), e0, gk 12 (by omega)]; exact h.2.1.2.1.1
  · rw [en 1 (by omega), e1, gk 8 (by omega)]; exact h.2.1.2.1.2
  · rw [en 2 (by omega)]; exact g10
  · rw [u1_s]; exact g11
  · rw [en 4 (by omega), e4, gk 9 (by omega)]; exact h.2.1.2.2.2
  · rw [gk 12 (by omega)]; exact h.2.2.1.2.2.1
  · rw [gk 8 (by omega)]; exact h.2.2.1.2.2.2
  · rw [u1_s]; exact p0
  · rw [en _ (by omega)] at hq
    rw [u1_s]; exact p1 r r0 r8 hq
theorem talks_c {S S' : Int → Int} (h1 : S' 1 = S 1) (h0 : 0 ≤ S 1) (h : ∀ t, 0 ≤ t → t < S 1 → (S' (29 + 4 * t + 3) = -1 ↔ S (29 + 4 * t + 3) = -1)) : mTalks S' (S' 1) = mTalks S (S 1) := by
  rw [talks_sI, talks_sI, h1]
  refine sI_c h0 (fun t t0 t1 => ?_)
  show iif (S' (29 + 4 * t + 3) = -1) 0 1 = iif (S (29 + 4 * t + 3) = -1) 0 1
  rw [propext (h t t0 t1)]
theorem an_eq {S : Int → Int} {O : Nat → Bool} {G F E Z P R C : Int → Int} {T : Int → Nat → Bool} (h : rB S O G F E Z P R C T) {rule : Int} (hu : 0 ≤ rule ∧ rule ≤ 3) : ((bAnew F E Z R C G P T rule).1 ↔ (mC S rule).1) ∧ bAnV F E Z R C G P T rule = mPr S rule ∧ ((mC S rule).1 → ((((cntN (bAnew F E Z R C G P T rule).2.1 8 : Nat) : Int) = (mC S rule).2.2.1 2 - S 2 ∧ bElse (bAnew F E Z R C G P T rule).2.2.2.1 P 20 = (mC S rule).2.1 10) ∧ rB (u1 (mC S rule).2.2.1 3 (mPr S rule)) (bAnew F E Z R C G P T rule).2.1 (bAnew F E Z R C G P T rule).2.2.1 F E Z (bAnew F E Z R C G P T rule).2.2.2.1 R C (bAnew F E Z R C G P T rule).2.2.2.2) ∧ (rN S → rN (u1 (mC S rule).2.2.1 3 (mPr S rule))) ∧ (mPr S rule = 0 ↔ mTalks S (S 1) = 0) ∧ 0 ≤ mPr S rule) := by
  have z1 := h.2.2.1.1.2.1
  have hs := an_sim h (A := mCopy S S) (fun j h0 h1 => mCopy_in S S h0 h1) hu 960 0 (fun _ => false) (u1 G 11 0) P (bZero T) 21 (u1 (fun _ => 0) 10 0) (mNoIn (mShut S 8) 20) (mZero (fun _ => 0) 20) (by omega) (by omega) (by have := cz_le (mZero (fun _ => 0) 20) 20; omega) (an_start h)
  have hs : ((bAnew F E Z R C G P T rule).1 ↔ (mC S rule).1) ∧ ((bAnew F E Z R C G P T rule).1 → aI S F E Z P R C G 960 (bAnew F E Z R C G P T rule).2.1 (bAnew F E Z R C G P T rule).2.2.1 (bAnew F E Z R C G P T rule).2.2.2.1 (bAnew F E Z R C G P T rule).2.2.2.2 (mC S rule).2.1 (mC S rule).2.2.1 (mC S rule).2.2.2) := hs
  have hv : (mC S rule).1 → mPr S rule = (mC S rule).2.2.1 3 - S 3 := fun c => iif_t c
  refine ⟨hs.1, ?_, fun c => ?_⟩
  · unfold bAnV mPr
    by_cases c : (mC S rule).1
    · rw [iif_t c, iif_t (hs.1.mpr c)]
      exact (hs.2 (hs.1.mpr c)).2.2.2.2.1.1
    · rw [iif_f c, iif_f (fun q => c (hs.1.mp q))]
  · have hI := hs.2 (hs.1.mpr c)
    have hf := an_fin h hI
    have hvv := hv c
    rw [← hvv] at hf
    generalize bAnew F E Z R C G P T rule = b at *
    obtain ⟨⟨hC, hM, hB1, hIB⟩, ⟨⟨e0, e1, e4⟩, et⟩, ei, ep, ⟨g11, g10, gk⟩, ⟨f10, f2⟩, ⟨p0, p1⟩, p3⟩ := hI
    have ht : mTalks (u1 (mC S rule).2.2.1 3 (mPr S rule)) (u1 (mC S rule).2.2.1 3 (mPr S rule) 1) = mTalks S (S 1) := talks_c (by rw [u1_n (by omega)]; exact e1) z1.1 (fun t t0 t1 => by rw [u1_n (by omega)]; exact hf.2 t t0 t1)
    refine ⟨⟨⟨f2.symm, f10.symm⟩, hf.1⟩, fun hN => ?_, ⟨fun q => ?_, fun q => ?_⟩, by omega⟩
    · unfold rN
      rw [ht, u1_n (by omega), u1_n (by omega), e1, e4]; exact hN
    · rw [talks_sI]
      refine sI_0 z1.1 (fun t t0 t1 => ?_)
      show iif (S (29 + 4 * t + 3) = -1) 0 1 = 0
      by_cases c2 : S (29 + 4 * t + 3) = -1
      · exact iif_t c2
      · exfalso
        have a := ei t t0 t1
        have v := (h.1.2.1.2 t t0 t1).1
        have a2 : (mC S rule).2.2.1 (29 + 4 * t + 3) = b.2.2.2.1 t ∧ ¬ b.2.2.2.1 t = -1 := by omega
        have v2 := hC.2.1.2 t t0 (by omega)
        have v3 := v2.2.1 (by omega)
        have := p1 _ (by omega) (by omega) v3
        omega
    · rw [hvv]
      rcases p3 with p3 | ⟨t, tt, p3⟩
      · omega
      · exfalso
        have a := ei t tt.1 tt.2
        have a2 : ¬ S (29 + 4 * t + 3) = -1 := by omega
        have hm := mTalks_rg S (n := S 1) z1.1
        rw [talks_sI] at q
        have e := sI_one (g := fun u => iif (u = t) 0 (iif (S (29 + 4 * u + 3) = -1) 0 1)) (g' := fun u => iif (S (29 + 4 * u + 3) = -1) 0 1) (n := S 1) (q := t) (d := 1) tt (fun u u0 u1 un => (iif_f un).symm) (by show iif (S (29 + 4 * t + 3) = -1) 0 1 = iif (t = t) 0 _ + 1; rw [iif_f a2, iif_t rfl]; rfl)
        rw [q] at e
        have e2 : 0 ≤ sI (fun u => iif (u = t) 0 (iif (S (29 + 4 * u + 3) = -1) 0 1)) (S 1) := by
          refine fI_ind (fun n (x : Int) => 0 ≤ x) (Int.le_refl 0) (fun i x hi hin hx => ?_) z1.1
          show 0 ≤ x + iif (i = t) 0 (iif (S (29 + 4 * i + 3) = -1) 0 1)
          unfold iif; split <;> try split
          all_goals omega
        omega
