/-! both sides' states: the relation, and what the hours say -/
theorem fstI_sp (p : Int → Prop) (d : Int) : ∀ (k : Nat) (i : Int), (fstI p d k i = d ∧ ∀ j, i ≤ j → j < i + k → ¬ p j) ∨ ((i ≤ fstI p d k i ∧ fstI p d k i < i + k) ∧ p (fstI p d k i) ∧ ∀ j, i ≤ j → j < fstI p d k i → ¬ p j)
  | 0, i => Or.inl ⟨rfl, fun j h1 h2 => by omega⟩
  | k + 1, i => by
    by_cases h : p i
    · right
      have e : fstI p d (k + 1) i = i := iif_t h
      rw [e]
      exact ⟨by omega, h, fun j h1 h2 => by omega⟩
    · have e : fstI p d (k + 1) i = fstI p d k (i + 1) := iif_f h
      rw [e]
      rcases fstI_sp p d k (i + 1) with ⟨h1, h2⟩ | ⟨h1, h2, h3⟩
      · left
        refine ⟨h1, fun j g1 g2 => ?_⟩
        by_cases c : j = i
        · rw [c]; exact h
        · exact h2 j (by omega) (by omega)
      · right
        refine ⟨by omega, h2, fun j g1 g2 => ?_⟩
        by_cases c : j = i
        · rw [c]; exact h
        · exact h3 j (by omega) (by omega)
def rR (S : Int → Int) (O : Nat → Bool) (R C : Int → Int) : Prop := ∀ r, 0 ≤ r → r < 8 → (R r = S (5 + 3 * r + 0) ∧ C r = S (5 + 3 * r + 1)) ∧ ((O r.toNat = true ↔ S (5 + 3 * r + 2) = 1) ∧ (S (5 + 3 * r + 2) = 0 ∨ S (5 + 3 * r + 2) = 1)) ∧ (1 ≤ S (5 + 3 * r + 0) ∧ S (5 + 3 * r + 0) ≤ 9) ∧ 1 ≤ S (5 + 3 * r + 1) ∧ S (5 + 3 * r + 1) ≤ 99
def rV (S : Int → Int) : Prop := (0 ≤ S 1 ∧ S 1 ≤ 20) ∧ ∀ t, 0 ≤ t → t < S 1 → ((0 ≤ S (29 + 4 * t + 0) ∧ S (29 + 4 * t + 0) < S (29 + 4 * t + 1) ∧ S (29 + 4 * t + 1) ≤ 48) ∧ (1 ≤ S (29 + 4 * t + 2) ∧ S (29 + 4 * t + 2) ≤ 9) ∧ -1 ≤ S (29 + 4 * t + 3) ∧ S (29 + 4 * t + 3) ≤ 7) ∧ (¬ S (29 + 4 * t + 3) = -1 → S (5 + 3 * S (29 + 4 * t + 3) + 2) = 1) ∧ ∀ u, 0 ≤ u → u < S 1 → ¬ u = t → ¬ S (29 + 4 * t + 3) = -1 → S (29 + 4 * u + 3) = S (29 + 4 * t + 3) → S (29 + 4 * t + 1) ≤ S (29 + 4 * u + 0) ∨ S (29 + 4 * u + 1) ≤ S (29 + 4 * t + 0)
def rT (S : Int → Int) (T : Int → Nat → Bool) : Prop := ∀ r, 0 ≤ r → r < 8 → ∀ k : Nat, k < 48 → (T r k = true ↔ ∃ t, (0 ≤ t ∧ t < S 1) ∧ S (29 + 4 * t + 3) = r ∧ S (29 + 4 * t + 0) ≤ k ∧ (k : Int) < S (29 + 4 * t + 1))
theorem rT_in {S : Int → Int} {T : Int → Nat → Bool} (h : rT S T) {r t k : Int} (hr : 0 ≤ r ∧ r < 8) (ht : 0 ≤ t ∧ t < S 1) (hi : S (29 + 4 * t + 3) = r) (hk : 0 ≤ k ∧ k < 48) (h1 : S (29 + 4 * t + 0) ≤ k ∧ k < S (29 + 4 * t + 1)) : T r k.toNat = true :=
  (h r hr.1 hr.2 k.toNat (by omega)).mpr ⟨t, ht, hi, by omega, by omega⟩
theorem rT_out {S : Int → Int} {T : Int → Nat → Bool} (h : rT S T) {r k : Int} (hr : 0 ≤ r ∧ r < 8) (hk : 0 ≤ k ∧ k < 48) (h1 : T r k.toNat = true) : ∃ t, (0 ≤ t ∧ t < S 1) ∧ S (29 + 4 * t + 3) = r ∧ S (29 + 4 * t + 0) ≤ k ∧ k < S (29 + 4 * t + 1) := by
  obtain ⟨t, a, b, c, d⟩ := (h r hr.1 hr.2 k.toNat (by omega)).mp h1
  exact ⟨t, a, b, by omega, by omega⟩
/-- a room can hold some hours -/
theorem hold_can {S : Int → Int} {O : Nat → Bool} {R C : Int → Int} {T : Int → Nat → Bool} (hR : rR S O R C) (hV : rV S) (hT : rT S T) {r f e z : Int} (b : Int) (hr : 0 ≤ r ∧ r < 8) (hf : 0 ≤ f ∧ f < e ∧ e ≤ 48) (hb : ∀ t, 0 ≤ t → t < S 1 → t = b → ¬ S (29 + 4 * t + 3) = r) : bHold R T r z (iv f e) ↔ mCan S r f e z b := by
  have h0 := hR r hr.1 hr.2
  unfold bHold mCan
  rw [h0.1.1]
  refine and_congr Iff.rfl ⟨fun h t h1 h2 => ?_, fun h k hk => ?_⟩
  · have hv := (hV.2 t h1 h2).1.1
    by_cases c : S (29 + 4 * t + 3) = r
    · right; right
      by_cases c2 : e ≤ S (29 + 4 * t + 0)
      · exact Or.inl c2
      · right
        by_cases c3 : S (29 + 4 * t + 1) ≤ f
        · exact c3
        · exfalso
          by_cases c4 : f ≤ S (29 + 4 * t + 0)
          · have q := rT_in hT hr ⟨h1, h2⟩ c (k := S (29 + 4 * t + 0)) (by omega) (by omega)
            have q2 := h (S (29 + 4 * t + 0)).toNat (by omega)
            rw [q, Bool.true_and] at q2
            have q3 : iv f e (S (29 + 4 * t + 0)).toNat = true := decide_eq_true (by omega)
            rw [q3] at q2; exact Bool.noConfusion q2
          · have q := rT_in hT hr ⟨h1, h2⟩ c (k := f) (by omega) (by omega)
            have q2 := h f.toNat (by omega)
            rw [q, Bool.true_and] at q2
            have q3 : iv f e f.toNat = true := decide_eq_true (by omega)
            rw [q3] at q2; exact Bool.noConfusion q2
    · exact Or.inr (Or.inl c)
  · by_cases c : T r k = true
    · obtain ⟨t, ht, hi, h1, h2⟩ := (hT r hr.1 hr.2 k hk).mp c
      have q := h t ht.1 ht.2
      have q3 : iv f e k = false := by
        refine decide_eq_false (fun hh => ?_)
        rcases q with q | q | q | q
        · exact hb t ht.1 ht.2 q hi
        · exact q hi
        · omega
        · omega
      rw [q3, Bool.and_false]
    · rw [Bool.not_eq_true] at c
      rw [c, Bool.false_and]
theorem mGap_sp (S : Int → Int) (r f : Int) {n : Int} (h0 : 0 ≤ n) : (0 ≤ mGap S r f n ∧ ∀ t, 0 ≤ t → t < n → S (29 + 4 * t + 3) = r → S (29 + 4 * t + 1) ≤ f → S (29 + 4 * t + 1) ≤ mGap S r f n) ∧ (mGap S r f n = 0 ∨ ∃ t, (0 ≤ t ∧ t < n) ∧ S (29 + 4 * t + 3) = r ∧ S (29 + 4 * t + 1) ≤ f ∧ mGap S r f n = S (29 + 4 * t + 1)) := by
  refine fI_ind (fun n (x : Int) => (0 ≤ x ∧ ∀ t, 0 ≤ t → t < n → S (29 + 4 * t + 3) = r → S (29 + 4 * t + 1) ≤ f → S (29 + 4 * t + 1) ≤ x) ∧ (x = 0 ∨ ∃ t, (0 ≤ t ∧ t < n) ∧ S (29 + 4 * t + 3) = r ∧ S (29 + 4 * t + 1) ≤ f ∧ x = S (29 + 4 * t + 1))) ⟨⟨Int.le_refl 0, fun t h1 h2 => by omega⟩, Or.inl rfl⟩ (fun i x hi hin hx => ?_) h0
  obtain ⟨⟨x0, h1⟩, h2⟩ := hx
  unfold mGapS
  by_cases c : S (29 + 4 * i + 3) = r ∧ S (29 + 4 * i + 1) ≤ f ∧ x < S (29 + 4 * i + 1)
  · rw [iif_t c]
    refine ⟨⟨by omega, fun t g1 g2 g3 g4 => ?_⟩, Or.inr ⟨i, by omega, c.1, c.2.1, rfl⟩⟩
    by_cases q : t = i
    · rw [q]; exact Int.le_refl _
    · have := h1 t g1 (by omega) g3 g4; omega
  · rw [iif_f c]
    refine ⟨⟨x0, fun t g1 g2 g3 g4 => ?_⟩, ?_⟩
    · by_cases q : t = i
      · subst q
        exact Int.not_lt.mp (fun g => c ⟨g3, g4, g⟩)
      · exact h1 t g1 (by omega) g3 g4
    · rcases h2 with h2 | ⟨t, a, b⟩
      · exact Or.inl h2
      · exact Or.inr ⟨t, by omega, b⟩
theorem gap_eq {S : Int → Int} {T : Int → Nat → Bool} (hV : rV S) (hT : rT S T) {r f e z : Int} (hr : 0 ≤ r ∧ r < 8) (hf : 0 ≤ f ∧ f < e ∧ e ≤ 48) (hc : mCan S r f e z (-1)) : bGap T r f = f - mGap S r f (S 1) := by
  obtain ⟨⟨m0, m1⟩, m2⟩ := mGap_sp S r f hV.1.1
  have hE : (f - 0).toNat = f.toNat := by omega
  rcases fstI_sp (fun g => T r (f - 1 - g).toNat = true) f (f - 0).toNat 0 with ⟨e1, h2⟩ | ⟨h1, h2, h3⟩
  · have e2 : bGap T r f = f := e1
    rw [e2]
    rcases m2 with m2 | ⟨t, ht, hi, he, m2⟩
    · omega
    · exfalso
      have hv := (hV.2 t ht.1 ht.2).1.1
      have q := rT_in hT hr ht hi (k := S (29 + 4 * t + 1) - 1) (by omega) (by omega)
      refine h2 (f - S (29 + 4 * t + 1)) (by omega) (by omega) ?_
      show T r (f - 1 - (f - S (29 + 4 * t + 1))).toNat = true
      rw [show f - 1 - (f - S (29 + 4 * t + 1)) = S (29 + 4 * t + 1) - 1 by omega]
      exact q
  · have e2 : fstI (fun g => T r (f - 1 - g).toNat = true) f (f - 0).toNat 0 = bGap T r f := rfl
    rw [e2] at h1 h2 h3
    generalize bGap T r f = g at *
    obtain ⟨t, ht, hi, q1, q2⟩ := rT_out hT hr (k := f - 1 - g) (by omega) h2
    have hv := (hV.2 t ht.1 ht.2).1.1
    have q := hc.2 t ht.1 ht.2
    have q3 : S (29 + 4 * t + 1) ≤ f := by
      rcases q with q | q | q | q
      · omega
      · exact absurd hi q
      · omega
      · exact q
    have q4 := m1 t ht.1 ht.2 hi q3
    rcases m2 with m2 | ⟨u, hu, hui, hue, m2⟩
    · omega
    · by_cases c : mGap S r f (S 1) = f - g
      · omega
      · exfalso
        have hvu := (hV.2 u hu.1 hu.2).1.1
        have w := rT_in hT hr hu hui (k := S (29 + 4 * u + 1) - 1) (by omega) (by omega)
        refine h3 (f - S (29 + 4 * u + 1)) (by omega) (by omega) ?_
        show T r (f - 1 - (f - S (29 + 4 * u + 1))).toNat = true
        rw [show f - 1 - (f - S (29 + 4 * u + 1)) = S (29 + 4 * u + 1) - 1 by omega]
        exact w
theorem cntN_or (f g : Nat → Bool) : ∀ n, (∀ k, k < n → (f k && g k) = false) → cntN (fun k => f k || g k) n = cntN f n + cntN g n
  | 0, _ => rfl
  | n + 1, h => by
    have ih := cntN_or f g n (fun k hk => h k (by omega))
    have hn := h n (by omega)
    unfold cntN
    rw [ih]
    cases hf : f n <;> cases hg : g n <;> simp [hf, hg] at hn ⊢ <;> omega
theorem cntN_iv (b e : Int) (h0 : 0 ≤ b) (h1 : b ≤ e) : ∀ n : Nat, (cntN (iv b e) n : Int) = iif (n ≤ b) 0 (iif (n ≤ e) (n - b) (e - b))
  | 0 => by rw [iif_t (by omega)]; rfl
  | n + 1 => by
    have ih := cntN_iv b e h0 h1 n
    unfold cntN
    by_cases c : b ≤ (n : Int) ∧ (n : Int) < e
    · have q : iv b e n = true := decide_eq_true c
      rw [if_pos q]
      unfold iif at *
      grind
    · have q : iv b e n = false := decide_eq_false c
      rw [if_neg (by rw [q]; exact Bool.noConfusion)]
      unfold iif at *
      grind
/-- the hours that are taken in a room, counted -/
theorem taken_eq {S : Int → Int} {T : Int → Nat → Bool} (hV : rV S) (hT : rT S T) {r : Int} (hr : 0 ≤ r ∧ r < 8) : ((cntN (T r) 48 : Nat) : Int) = mTaken S r (S 1) := by
  have main : ∀ n : Int, 0 ≤ n → n ≤ S 1 → ((cntN (bd (fun k => ∃ t, (0 ≤ t ∧ t < n) ∧ S (29 + 4 * t + 3) = r ∧ S (29 + 4 * t + 0) ≤ k ∧ k < S (29 + 4 * t + 1))) 48 : Nat) : Int) = mTaken S r n := by
    intro n h0 h1
    refine fI_ind (fun n (x : Int) => n ≤ S 1 → ((cntN (bd (fun k => ∃ t, (0 ≤ t ∧ t < n) ∧ S (29 + 4 * t + 3) = r ∧ S (29 + 4 * t + 0) ≤ k ∧ k < S (29 + 4 * t + 1))) 48 : Nat) : Int) = x) (fun _ => ?_) (fun i x hi hin hx hle => ?_) h0 h1
    · rw [cntN_z _ _ (fun k => bd_f (fun h => by obtain ⟨t, h, -⟩ := h; omega))]; rfl
    · have hx := hx (by omega)
      have hv := hV.2 i hi (by omega)
      unfold mTakenS
      by_cases c : S (29 + 4 * i + 3) = r
      · rw [iif_t c]
        have e1 : cntN (bd (fun k => ∃ t, (0 ≤ t ∧ t < i + 1) ∧ S (29 + 4 * t + 3) = r ∧ S (29 + 4 * t + 0) ≤ k ∧ k < S (29 + 4 * t + 1))) 48 = cntN (fun k => bd (fun k => ∃ t, (0 ≤ t ∧ t < i) ∧ S (29 + 4 * t + 3) = r ∧ S (29 + 4 * t + 0) ≤ k ∧ k < S (29 + 4 * t + 1)) k || iv (S (29 + 4 * i + 0)) (S (29 + 4 * i + 1)) k) 48 := by
          refine cntN_c _ (fun k hk => ?_)
          rw [Bool.eq_iff_iff, Bool.or_eq_true, bd_iff, bd_iff]
          unfold iv
          rw [decide_eq_true_iff]
          constructor
          · rintro ⟨t, ht, a, b, d⟩
            by_cases q : t = i
            · subst q; exact Or.inr ⟨b, d⟩
            · exact Or.inl ⟨t, by omega, a, b, d⟩
          · rintro (⟨t, ht, a, b, d⟩ | ⟨b, d⟩)
            · exact ⟨t, by omega, a, b, d⟩
            · exact ⟨i, by omega, c, b, d⟩
        rw [e1, cntN_or _ _ _ (fun k hk => ?_), Int.natCast_add, hx, cntN_iv _ _ hv.1.1.1 (by omega)]
        · unfold iif; grind
        · rw [Bool.and_eq_false_iff]
          by_cases q : iv (S (29 + 4 * i + 0)) (S (29 + 4 * i + 1)) k = true
          · left
            refine bd_f (fun h => ?_)
            obtain ⟨t, ht, a, b, d⟩ := h
            have q1 := of_decide_eq_true q
            have := hv.2.2 t ht.1 (by omega) (by omega) (by omega) (by omega)
            omega
          · right; rw [Bool.not_eq_true] at q; exact q
      · rw [iif_f c, Int.add_zero, ← hx]
        congr 1
        refine cntN_c _ (fun k hk => ?_)
        rw [Bool.eq_iff_iff, bd_iff, bd_iff]
        constructor
        · rintro ⟨t, ht, a, b, d⟩
          have q : ¬ t = i := fun q => c (q ▸ a)
          exact ⟨t, by omega, a, b, d⟩
        · rintro ⟨t, ht, a, b, d⟩
          exact ⟨t, by omega, a, b, d⟩
  rw [← main (S 1) hV.1.1 (Int.le_refl _)]
  congr 1
  refine cntN_c _ (fun k hk => ?_)
  rw [Bool.eq_iff_iff, bd_iff]
  exact hT r hr.1 hr.2 k hk
