/-! rooms that could be emptied, best rules: both sides -/
theorem fstI_c {p q : Int → Prop} {d : Int} : ∀ (k : Nat) (i : Int), (∀ j, i ≤ j → j < i + k → (p j ↔ q j)) → fstI p d k i = fstI q d k i
  | 0, i, _ => rfl
  | k + 1, i, h => by
    have ih := fstI_c (d := d) k (i + 1) (fun j h1 h2 => h j (by omega) (by omega))
    have e := h i (by omega) (by omega)
    by_cases c : p i
    · have e1 : fstI p d (k + 1) i = i := iif_t c
      have e2 : fstI q d (k + 1) i = i := iif_t (e.mp c)
      rw [e1, e2]
    · have e1 : fstI p d (k + 1) i = fstI p d k (i + 1) := iif_f c
      have e2 : fstI q d (k + 1) i = fstI q d k (i + 1) := iif_f (fun x => c (e.mpr x))
      rw [e1, e2, ih]
theorem low_eq {S : Int → Int} {O : Nat → Bool} {G F E Z P R C : Int → Int} {T : Int → Nat → Bool} (h : rB S O G F E Z P R C T) {t : Int} (ht : mTalkP S t) : bLow O F E Z P R T t = mLow S t :=
  fstI_c _ _ (fun r r0 r1 => go_iff h ht ⟨r0, by omega⟩)
theorem emp_sim {F E Z R C : Int → Int} {room : Int} (hr : 0 ≤ room ∧ room < 8) : ∀ (kk : Nat) (t : Int) (O : Nat → Bool) (G P : Int → Int) (T : Int → Nat → Bool) (S : Int → Int), t + kk = 20 → 0 ≤ t → rB S O G F E Z P R C T → ((bEmp F E Z R C room kk t O G P T).1 ↔ (mEmp room (S 1 - t).toNat t S).1)
  | 0, t, O, G, P, T, S, hn, h0, h => by
    have z1 := h.2.2.1.1.2.1
    rw [mEmp_e (by omega)]
    exact Iff.rfl
  | kk + 1, t, O, G, P, T, S, hn, h0, h => by
    have z1 := h.2.2.1.1.2.1
    by_cases tS : t < S 1
    · have g := h.2.1.1.1 t h0 tS
      by_cases c : P t = room
      · have hp : mTalkP S t := ⟨by omega, by omega⟩
        have hl := low_eq h hp
        have hlr := mLow_rg S t
        by_cases c2 : mLow S t = -1
        · rw [bEmp_f c (by rw [hl]; exact c2), mEmp_a tS (by rw [← g.2.2]; exact c) c2]
        · have hm := bLow_ok (by rw [hl]; exact c2 : ¬ bLow O F E Z P R T t = -1)
          rw [hl] at hm
          have hm2 := (go_iff h hp (by omega)).mp hm
          have sr := (shift_rel h hp (r := mLow S t) (by omega) hm2).1
          rw [bEmp_s (r := mLow S t) c hl c2, mEmp_b tS (by rw [← g.2.2]; exact c) c2]
          have e : S (29 + 4 * t + 3) = room := by rw [← g.2.2]; exact c
          rw [e] at sr
          have ih := emp_sim hr kk (t + 1) _ _ _ _ _ (by omega) (by omega) sr
          rw [u1_n (by omega)] at ih
          exact ih
      · rw [bEmp_n c, mEmp_c tS (by rw [← g.2.2]; exact c)]
        exact emp_sim hr kk (t + 1) O G P T S (by omega) (by omega) h
    · have g := h.2.1.1.2 t (by omega) (by omega)
      rw [bEmp_n (by omega)]
      have ih := emp_sim hr kk (t + 1) O G P T S (by omega) (by omega) h
      rw [mEmp_e (by omega)] at ih ⊢
      exact ih
theorem emX_sim {S : Int → Int} {O : Nat → Bool} {G F E Z P R C : Int → Int} {T : Int → Nat → Bool} (h : rB S O G F E Z P R C T) {n : Int} (h0 : 0 ≤ n) (h8 : n ≤ 8) : ((bEmX O G F E Z P R C T n).1 = -1 ∧ mEm S n = -1000004 ∧ (bEmX O G F E Z P R C T n).2 = 0) ∨ ((bEmX O G F E Z P R C T n).1 = mEm S n ∧ (0 ≤ mEm S n ∧ mEm S n < 8) ∧ (bEmX O G F E Z P R C T n).2 = S (5 + 3 * (mEm S n) + 1)) := by
  obtain ⟨m, rfl⟩ := Int.eq_ofNat_of_zero_le h0
  induction m with
  | zero => exact Or.inl ⟨rfl, rfl, rfl⟩
  | succ m ih =>
    have ih := ih (by omega) (by omega)
    have e1 : bEmX O G F E Z P R C T (((m + 1 : Nat) : Int)) = bEmS O G F E Z P R C T m (bEmX O G F E Z P R C T m) := bEmX_s O G F E Z P R C T (i := (m : Int)) (by omega)
    have e2 : mEm S (((m + 1 : Nat) : Int)) = mEmB S m (mEm S m) := fI_s (i := (m : Int)) (by omega)
    rw [e1, e2]
    generalize bEmX O G F E Z P R C T m = x at *
    generalize mEm S m = b at *
    have hm : 0 ≤ (m : Int) ∧ (m : Int) < 8 := by omega
    have g := h.1.1 m hm.1 hm.2
    have hs := emp_sim hm 20 0 O G P T S (by omega) (by omega) h
    have hc : bCbE O G F E Z P R C T m ↔ (¬ mskI (fun t => S (29 + 4 * t + 3) = (m : Int)) (S 1) = 0 ∧ (mEmp (m : Int) (S 1 - 0).toNat 0 S).1) := by
      unfold bCbE bEmC
      rw [free_iff h.1.2.1 h.1.2.2 hm, hs]
      exact ⟨fun q => ⟨q.1.2, q.2⟩, fun q => ⟨⟨by omega, q.1⟩, q.2⟩⟩
    unfold bEmS mEmB
    rw [← propext hc, g.1.2]
    by_cases c : bCbE O G F E Z P R C T m
    · rcases ih with ⟨a1, a2, a3⟩ | ⟨a1, a2, a3⟩
      · rw [iif_t ⟨by rw [a3]; omega, c⟩, iif_t ⟨c, Or.inl a2⟩]
        exact Or.inr ⟨rfl, hm, rfl⟩
      · by_cases c2 : S (5 + 3 * b + 1) < S (5 + 3 * (m : Int) + 1)
        · rw [iif_t ⟨by rw [a3]; exact c2, c⟩, iif_t ⟨c, Or.inr c2⟩]
          exact Or.inr ⟨rfl, hm, rfl⟩
        · rw [iif_f (fun q => c2 (by rw [a3] at q; exact q.1)), iif_f (fun q => q.2.elim (fun q => by omega) c2)]
          exact Or.inr ⟨a1, a2, a3⟩
    · rw [iif_f (fun q => c q.2), iif_f (fun q => c q.1)]
      exact ih
theorem emp_eq {S : Int → Int} {O : Nat → Bool} {G F E Z P R C : Int → Int} {T : Int → Nat → Bool} (h : rB S O G F E Z P R C T) (w : Int) : iif ((bEmX O G F E Z P R C T 8).1 = -1) (-1000004) (iif (w = 0) (bEmX O G F E Z P R C T 8).1 ((cntN (bd (fun t => P t = (bEmX O G F E Z P R C T 8).1)) 20 : Nat) : Int)) = iif (mEm S 8 = -1000004 ∨ w = 0) (mEm S 8) (popI (mskI (fun t => S (29 + 4 * t + 3) = mEm S 8) (S 1)) 20) := by
  rcases emX_sim h (n := 8) (by omega) (by omega) with ⟨a1, a2, a3⟩ | ⟨a1, a2, a3⟩
  · rw [iif_t a1, iif_t (Or.inl a2), a2]
  · rw [iif_f (by omega), a1]
    by_cases c : w = 0
    · rw [iif_t c, iif_t (Or.inr c)]
    · rw [iif_f c, iif_f (by omega)]
      exact cnt_eq h a2.1
theorem best_sim {S : Int → Int} {O : Nat → Bool} {G F E Z P R C : Int → Int} {T : Int → Nat → Bool} (h : rB S O G F E Z P R C T) {n : Int} (h0 : 0 ≤ n) (h4 : n ≤ 4) : (((bBest F E Z R C G P T n).1 = -1 ∧ (mBest S n).1 = -1000004) ∨ ((bBest F E Z R C G P T n).1 = (mBest S n).1 ∧ 0 ≤ (mBest S n).1)) ∧ (bBest F E Z R C G P T n).2 = (mBest S n).2 := by
  obtain ⟨m, rfl⟩ := Int.eq_ofNat_of_zero_le h0
  induction m with
  | zero => exact ⟨Or.inl ⟨rfl, rfl⟩, rfl⟩
  | succ m ih =>
    have ih := ih (by omega) (by omega)
    have e1 : bBest F E Z R C G P T (((m + 1 : Nat) : Int)) = bBestS F E Z R C G P T m (bBest F E Z R C G P T m) := bBest_s F E Z R C G P T (i := (m : Int)) (by omega)
    have e2 : mBest S (((m + 1 : Nat) : Int)) = mBestS S m (mBest S m) := fI_s (i := (m : Int)) (by omega)
    rw [e1, e2]
    generalize bBest F E Z R C G P T m = x at *
    generalize mBest S m = y at *
    have a := an_eq h (rule := (m : Int)) (by omega)
    have r := mPr_rg h.2.2.1.1 (m : Int)
    unfold bBestS mBestS
    rw [a.2.1]
    have k : 0 ≤ mPr S m ↔ ¬ mPr S m = -1000002 := by
      by_cases c : (mC S m).1
      · have := (a.2.2 c).2.2.2
        omega
      · have := r.2.2.mpr c
        omega
    by_cases c : ¬ mPr S m = -1000002 ∧ (y.1 = -1000004 ∨ mPr S m < y.2)
    · rw [iif_t c, iif_t (by omega)]
      exact ⟨Or.inr ⟨rfl, by dsimp only; omega⟩, rfl⟩
    · rw [iif_f c, iif_f (by omega)]
      exact ih
theorem best_eq {S : Int → Int} {O : Nat → Bool} {G F E Z P R C : Int → Int} {T : Int → Nat → Bool} (h : rB S O G F E Z P R C T) (w : Int) : iif ((bBest F E Z R C G P T 4).1 = -1) (-1000004) (iif (w = 0) (bBest F E Z R C G P T 4).1 (bBest F E Z R C G P T 4).2) = iif ((mBest S 4).1 = -1000004 ∨ w = 0) (mBest S 4).1 (mBest S 4).2 := by
  have s := best_sim h (n := 4) (by omega) (by omega)
  rw [s.2]
  rcases s.1 with ⟨a1, a2⟩ | ⟨a1, a2⟩
  · rw [iif_t a1, iif_t (Or.inl a2), a2]
  · rw [iif_f (by omega), a1]
    by_cases c : w = 0
    · rw [iif_t c, iif_t (Or.inr c)]
    · rw [iif_f c, iif_f (by omega)]
