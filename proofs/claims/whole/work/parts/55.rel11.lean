/-! states that are kept, on both sides -/
abbrev Bd : Type := (Nat → Bool) × (Int → Int) × (Int → Int) × (Int → Int) × (Int → Int) × (Int → Int) × (Int → Int) × (Int → Int) × (Int → Nat → Bool)
def rBd (U : Int) (S : Int → Int) (b : Bd) : Prop := rB S b.1 b.2.1 b.2.2.1 b.2.2.2.1 b.2.2.2.2.1 b.2.2.2.2.2.1 b.2.2.2.2.2.2.1 b.2.2.2.2.2.2.2.1 b.2.2.2.2.2.2.2.2 ∧ rN S ∧ S 3 ≤ U
theorem rBd_mono {U U2 : Int} {S : Int → Int} {b : Bd} (h : rBd U S b) (hU : U ≤ U2) : rBd U2 S b := ⟨h.1, h.2.1, Int.le_trans h.2.2 hU⟩
theorem rB_ex {S S' : Int → Int} {O : Nat → Bool} {G F E Z P R C : Int → Int} {T : Int → Nat → Bool} (h : rB S O G F E Z P R C T) (he : ∀ j, 0 ≤ j → j < 109 → S' j = S j) : rB S' O G F E Z P R C T := by
  have z1 := h.2.2.1.1.2.1
  have e1 : S' 1 = S 1 := he 1 (by omega) (by omega)
  have hR : rR S' O R C := by
    intro r r0 r8
    rw [he _ (by omega) (by omega), he _ (by omega) (by omega), he _ (by omega) (by omega)]
    exact h.1.1 r r0 r8
  refine ⟨same_core h.1 hR e1 (fun u u0 u1 => ⟨⟨he _ (by omega) (by omega), he _ (by omega) (by omega)⟩, he _ (by omega) (by omega), he _ (by omega) (by omega)⟩) (fun u u0 u1 hn => ?_), ⟨⟨fun t t0 t1 => ?_, fun t t0 t1 => ?_⟩, ⟨⟨?_, ?_⟩, ⟨?_, ?_⟩, ?_⟩⟩, ⟨IM_ex h.2.2.1.1 he, h.2.2.1.2⟩, ?_, fun r r0 r8 hq => ?_⟩
  · have v := h.1.2.1.2 u u0 u1
    rw [he _ (by omega) (by omega)]; exact v.2.1 hn
  · rw [e1] at t1
    rw [he _ (by omega) (by omega), he _ (by omega) (by omega), he _ (by omega) (by omega), he _ (by omega) (by omega)]
    exact h.2.1.1.1 t t0 t1
  · rw [e1] at t0; exact h.2.1.1.2 t t0 t1
  · rw [he 0 (by omega) (by omega)]; exact h.2.1.2.1.1
  · rw [e1]; exact h.2.1.2.1.2
  · rw [he 2 (by omega) (by omega)]; exact h.2.1.2.2.1.1
  · rw [he 3 (by omega) (by omega)]; exact h.2.1.2.2.1.2
  · rw [he 4 (by omega) (by omega)]; exact h.2.1.2.2.2
  · rw [he 3 (by omega) (by omega)]; exact h.2.2.2.1
  · rw [he _ (by omega) (by omega)] at hq
    rw [he 3 (by omega) (by omega)]; exact h.2.2.2.2 r r0 r8 hq
theorem rBd_ex {U : Int} {S S' : Int → Int} {b : Bd} (h : rBd U S b) (he : ∀ j, 0 ≤ j → j < 109 → S' j = S j) : rBd U S' b := by
  have z1 := h.1.2.2.1.1.2.1
  refine ⟨rB_ex h.1 he, rN_same h.2.1 z1.1 (he 1 (by omega) (by omega)) (he 4 (by omega) (by omega)) (fun t t0 t1 => ?_), ?_⟩
  · rw [he _ (by omega) (by omega)]
  · rw [he 3 (by omega) (by omega)]; exact h.2.2
def rQ (U : Int) (Q : List Bd) (n : Int) (V : Int → Int) : Prop := n = (Q.length : Int) ∧ Q.length ≤ 4 ∧ ∀ (j : Nat) (b : Bd), Q[j]? = some b → rBd U (fun k => V (109 * (j : Int) + k)) b
def qPush (Q : List Bd) (b : Bd) : List Bd := (if Q.length = 4 then Q.tail else Q) ++ [b]
theorem put_at (S : Int → Int) (m : Int) (V : Int → Int) {n : Int} (h0 : 0 ≤ n) : ∀ j, fI (fun k v => u1 v (109 * m + k) (S k)) V n j = iif (109 * m ≤ j ∧ j < 109 * m + n) (S (j - 109 * m)) (V j) := by
  refine fI_ind (fun n (x : Int → Int) => ∀ j, x j = iif (109 * m ≤ j ∧ j < 109 * m + n) (S (j - 109 * m)) (V j)) (fun j => (iif_f (by omega)).symm) (fun i x hi hin hx j => ?_) h0
  by_cases c : j = 109 * m + i
  · rw [c, u1_s, iif_t (by omega)]
    congr 1; omega
  · rw [u1_n c, hx j]
    by_cases c2 : 109 * m ≤ j ∧ j < 109 * m + i
    · rw [iif_t c2, iif_t (by omega)]
    · rw [iif_f c2, iif_f (by omega)]
theorem shift_at (V : Int → Int) {n : Int} (h0 : 0 ≤ n) : ∀ j, fI (fun k v => u1 v k (v (k + 109))) V n j = iif (0 ≤ j ∧ j < n) (V (j + 109)) (V j) := by
  refine fI_ind (fun n (x : Int → Int) => ∀ j, x j = iif (0 ≤ j ∧ j < n) (V (j + 109)) (V j)) (fun j => (iif_f (by omega)).symm) (fun i x hi hin hx j => ?_) h0
  by_cases c : j = i
  · rw [c, u1_s, iif_t (by omega), hx, iif_f (by omega)]
  · rw [u1_n c, hx j]
    by_cases c2 : 0 ≤ j ∧ j < i
    · rw [iif_t c2, iif_t (by omega)]
    · rw [iif_f c2, iif_f (by omega)]
theorem take_at (S V : Int → Int) (m : Int) {n : Int} (h0 : 0 ≤ n) : ∀ j, fI (fun k s => u1 s k (V (109 * m + k))) S n j = iif (0 ≤ j ∧ j < n) (V (109 * m + j)) (S j) := by
  refine fI_ind (fun n (x : Int → Int) => ∀ j, x j = iif (0 ≤ j ∧ j < n) (V (109 * m + j)) (S j)) (fun j => (iif_f (by omega)).symm) (fun i x hi hin hx j => ?_) h0
  by_cases c : j = i
  · rw [c, u1_s, iif_t (by omega)]
  · rw [u1_n c, hx j]
    by_cases c2 : 0 ≤ j ∧ j < i
    · rw [iif_t c2, iif_t (by omega)]
    · rw [iif_f c2, iif_f (by omega)]
theorem rQ_mono {U U2 : Int} {Q : List Bd} {n : Int} {V : Int → Int} (h : rQ U Q n V) (hU : U ≤ U2) : rQ U2 Q n V := ⟨h.1, h.2.1, fun j b hj => rBd_mono (h.2.2 j b hj) hU⟩
theorem push_len (Q : List Bd) (b : Bd) (h : Q.length ≤ 4) : (qPush Q b).length = (if Q.length = 4 then 4 else Q.length + 1) := by
  unfold qPush
  split
  · rw [List.length_append, List.length_tail, List.length_singleton]; omega
  · rw [List.length_append, List.length_singleton]
theorem rQ_push {U : Int} {Q : List Bd} {F V S : Int → Int} {b : Bd} (h : rQ U Q (F 4) V) (hb : rBd U S b) : rQ U (qPush Q b) (mRecF F 4) (mRecV F S V) := by
  have h4 := h.2.1
  have hl := push_len Q b h4
  rw [mRecF_4]
  unfold mRecV
  by_cases c : Q.length = 4
  · have c4 : F 4 = 4 := by rw [h.1, c]; rfl
    rw [if_pos c] at hl
    rw [iif_t c4, iif_t c4]
    refine ⟨by rw [hl]; rfl, by omega, fun j d hj => ?_⟩
    have hjl : j < 4 := by rw [← hl]; exact (List.getElem?_eq_some_iff.mp hj).1
    unfold qPush at hj
    rw [if_pos c] at hj
    have e : ∀ k, 0 ≤ k → k < 109 → mPut S (F 4 - 1) (mShift V) (109 * (j : Int) + k) = iif (j = 3) (S k) (V (109 * ((j + 1 : Nat) : Int) + k)) := by
      intro k k0 k1
      unfold mPut
      rw [put_at S (F 4 - 1) (mShift V) (n := 109) (by omega), c4]
      by_cases c3 : j = 3
      · rw [iif_t c3, iif_t (by omega), c3]
        congr 1; omega
      · rw [iif_f c3, iif_f (by omega)]
        unfold mShift
        rw [shift_at V (n := 327) (by omega), iif_t (by omega)]
        congr 1; omega
    by_cases c3 : j = 3
    · subst c3
      have ht : Q.tail.length = 3 := by rw [List.length_tail]; omega
      rw [List.getElem?_append_right (by omega), ht] at hj
      have hd : b = d := Option.some.inj hj
      subst hd
      refine rBd_ex hb (fun k k0 k1 => ?_)
      show mPut S (F 4 - 1) (mShift V) (109 * ((3 : Nat) : Int) + k) = S k
      rw [e k k0 k1, iif_t rfl]
    · have ht : Q.tail.length = 3 := by rw [List.length_tail]; omega
      rw [List.getElem?_append_left (by omega), List.getElem?_tail] at hj
      refine rBd_ex (h.2.2 (j + 1) d hj) (fun k k0 k1 => ?_)
      show mPut S (F 4 - 1) (mShift V) (109 * (j : Int) + k) = V (109 * ((j + 1 : Nat) : Int) + k)
      rw [e k k0 k1, iif_f c3]
  · have c4 : ¬ F 4 = 4 := by rw [h.1]; omega
    rw [if_neg c] at hl
    rw [iif_f c4, iif_f c4]
    refine ⟨by rw [hl, h.1]; omega, by omega, fun j d hj => ?_⟩
    have hjl : j < Q.length + 1 := by rw [← hl]; exact (List.getElem?_eq_some_iff.mp hj).1
    unfold qPush at hj
    rw [if_neg c] at hj
    have e : ∀ k, 0 ≤ k → k < 109 → mPut S (F 4) V (109 * (j : Int) + k) = iif (j = Q.length) (S k) (V (109 * (j : Int) + k)) := by
      intro k k0 k1
      unfold mPut
      rw [put_at S (F 4) V (n := 109) (by omega), h.1]
      by_cases c3 : j = Q.length
      · rw [iif_t c3, iif_t (by omega), c3]
        congr 1; omega
      · rw [iif_f c3, iif_f (by omega)]
    by_cases c3 : j = Q.length
    · subst c3
      rw [List.getElem?_append_right (by omega), Nat.sub_self] at hj
      have hd : b = d := Option.some.inj hj
      subst hd
      refine rBd_ex hb (fun k k0 k1 => ?_)
      show mPut S (F 4) V (109 * (Q.length : Int) + k) = S k
      rw [e k k0 k1, iif_t rfl]
    · rw [List.getElem?_append_left (by omega)] at hj
      refine rBd_ex (h.2.2 j d hj) (fun k k0 k1 => ?_)
      show mPut S (F 4) V (109 * (j : Int) + k) = V (109 * (j : Int) + k)
      rw [e k k0 k1, iif_f c3]
theorem rQ_pop {U : Int} {Q : List Bd} {n : Int} {V S : Int → Int} {b : Bd} (h : rQ U (Q ++ [b]) n V) : rQ U Q (n - 1) V ∧ rBd U (mTake S V (n - 1)) b := by
  have h1 := h.1
  have h2 := h.2.1
  rw [List.length_append, List.length_singleton] at h1 h2
  refine ⟨⟨by omega, by omega, fun j d hj => h.2.2 j d ?_⟩, ?_⟩
  · rw [List.getElem?_append_left (List.getElem?_eq_some_iff.mp hj).1]; exact hj
  · have hb := h.2.2 Q.length b (by rw [List.getElem?_append_right (Nat.le_refl _), Nat.sub_self]; rfl)
    refine rBd_ex hb (fun k k0 k1 => ?_)
    unfold mTake
    rw [take_at S V (n - 1) (n := 109) (by omega), iif_t ⟨k0, k1⟩, show n - 1 = (Q.length : Int) by omega]
