/-! what a talk that goes into a room, or out of it, does to both sides -/
def rC (S : Int → Int) (O : Nat → Bool) (R C : Int → Int) (T : Int → Nat → Bool) : Prop := rR S O R C ∧ rV S ∧ rT S T
theorem putO_at (O : Nat → Bool) {r q : Int} (hr : 0 ≤ r) (hq : 0 ≤ q) : bPutO O r q.toNat = true ↔ (q = r ∨ O q.toNat = true) := by
  unfold bPutO
  by_cases c : O r.toNat = true
  · rw [iif_t c]
    exact ⟨fun h => Or.inr h, fun h => h.elim (fun h => h ▸ c) id⟩
  · rw [iif_f c]
    unfold oSet
    by_cases c2 : q.toNat = r.toNat
    · rw [if_pos c2]; exact ⟨fun _ => Or.inl (by omega), fun _ => rfl⟩
    · rw [if_neg c2]; exact ⟨fun h => Or.inr h, fun h => h.elim (fun h => absurd (by rw [h]) c2) id⟩
theorem put_core {S S' : Int → Int} {O : Nat → Bool} {R C F E : Int → Int} {T : Int → Nat → Bool} {t r f e z zz : Int} (h : rC S O R C T) (hr : 0 ≤ r ∧ r < 8) (ht : 0 ≤ t ∧ t < S' 1) (h1 : S 1 ≤ S' 1 ∧ S' 1 ≤ 20) (h2 : ∀ u, 0 ≤ u → u < S' 1 → ¬ u = t → u < S 1) (h3 : t < S 1 → S (29 + 4 * t + 3) = -1) (hv : (0 ≤ f ∧ f < e ∧ e ≤ 48) ∧ 1 ≤ zz ∧ zz ≤ 9) (hs : (S' (29 + 4 * t + 0) = f ∧ S' (29 + 4 * t + 1) = e) ∧ S' (29 + 4 * t + 2) = zz ∧ S' (29 + 4 * t + 3) = r) (hu : ∀ u, 0 ≤ u → u < S 1 → ¬ u = t → (S' (29 + 4 * u + 0) = S (29 + 4 * u + 0) ∧ S' (29 + 4 * u + 1) = S (29 + 4 * u + 1)) ∧ S' (29 + 4 * u + 2) = S (29 + 4 * u + 2) ∧ S' (29 + 4 * u + 3) = S (29 + 4 * u + 3)) (hq : ∀ q, 0 ≤ q → q < 8 → (S' (5 + 3 * q + 0) = S (5 + 3 * q + 0) ∧ S' (5 + 3 * q + 1) = S (5 + 3 * q + 1)) ∧ S' (5 + 3 * q + 2) = iif (q = r) 1 (S (5 + 3 * q + 2))) (hc : mCan S r f e z (-1)) (hF : F t = f ∧ E t = e) : rC S' (bPutO O r) R C (bPutT T F E t r) := by
  obtain ⟨hR, hV, hT⟩ := h
  have hor : S' (5 + 3 * r + 2) = 1 := by rw [(hq r hr.1 hr.2).2, iif_t rfl]
  refine ⟨fun q q0 q8 => ?_, ⟨⟨by have := hV.1; omega, h1.2⟩, fun u u0 u1' => ?_⟩, fun q q0 q8 k hk => ?_⟩
  · have a := hR q q0 q8
    have b := hq q q0 q8
    rw [putO_at O hr.1 q0, b.1.1, b.1.2, b.2]
    refine ⟨a.1, ?_, a.2.2⟩
    by_cases c : q = r
    · rw [iif_t c]; exact ⟨⟨fun _ => rfl, fun _ => Or.inl c⟩, Or.inr rfl⟩
    · rw [iif_f c]; exact ⟨⟨fun h => a.2.1.1.mp (h.resolve_left c), fun h => Or.inr (a.2.1.1.mpr h)⟩, a.2.1.2⟩
  · by_cases c : u = t
    · subst c
      rw [hs.1.1, hs.1.2, hs.2.1, hs.2.2]
      refine ⟨⟨hv.1, hv.2, by omega⟩, fun _ => hor, fun w w0 w1 wn _ we => ?_⟩
      have w2 := h2 w w0 w1 wn
      have g := hu w w0 w2 wn
      rw [g.2.2] at we
      rw [g.1.1, g.1.2]
      have := hc.2 w w0 w2
      omega
    · have u2 := h2 u u0 u1' c
      have g := hu u u0 u2 c
      have a := hV.2 u u0 u2
      rw [g.1.1, g.1.2, g.2.1, g.2.2]
      refine ⟨a.1, fun hn => ?_, fun w w0 w1 wn hn we => ?_⟩
      · rw [(hq _ (by omega) (by omega)).2]
        by_cases c2 : S (29 + 4 * u + 3) = r
        · rw [iif_t c2]
        · rw [iif_f c2]; exact a.2.1 hn
      · by_cases c2 : w = t
        · subst c2
          rw [hs.2.2] at we
          rw [hs.1.1, hs.1.2]
          have := hc.2 u u0 u2
          omega
        · have w2 := h2 w w0 w1 c2
          have g2 := hu w w0 w2 c2
          rw [g2.2.2] at we
          rw [g2.1.1, g2.1.2]
          exact a.2.2 w w0 w2 wn hn we
  · unfold bPutT u1
    by_cases c : q = r
    · rw [if_pos c, Bool.or_eq_true, ← c, hT q q0 q8 k hk]
      unfold iv
      rw [decide_eq_true_iff, hF.1, hF.2]
      constructor
      · rintro (⟨u, uu, a, b⟩ | b)
        · have un : ¬ u = t := fun un => by rw [un] at a uu; have := h3 uu.2; omega
          have g := hu u uu.1 uu.2 un
          exact ⟨u, by omega, by rw [g.2.2]; exact a, by rw [g.1.1, g.1.2]; exact b⟩
        · exact ⟨t, ht, by rw [hs.2.2, c], by rw [hs.1.1, hs.1.2]; exact b⟩
      · rintro ⟨u, uu, a, b⟩
        by_cases un : u = t
        · right; rw [un, hs.1.1, hs.1.2] at b; exact b
        · have u2 := h2 u uu.1 uu.2 un
          have g := hu u uu.1 u2 un
          rw [g.2.2] at a
          rw [g.1.1, g.1.2] at b
          exact Or.inl ⟨u, ⟨uu.1, u2⟩, a, b⟩
    · rw [if_neg c, hT q q0 q8 k hk]
      constructor
      · rintro ⟨u, uu, a, b⟩
        have un : ¬ u = t := fun un => by rw [un] at a uu; have := h3 uu.2; omega
        have g := hu u uu.1 uu.2 un
        exact ⟨u, by omega, by rw [g.2.2]; exact a, by rw [g.1.1, g.1.2]; exact b⟩
      · rintro ⟨u, uu, a, b⟩
        by_cases un : u = t
        · rw [un, hs.2.2] at a; exact absurd a.symm c
        · have u2 := h2 u uu.1 uu.2 un
          have g := hu u uu.1 u2 un
          rw [g.2.2] at a
          rw [g.1.1, g.1.2] at b
          exact ⟨u, ⟨uu.1, u2⟩, a, b⟩
theorem out_core {S S' : Int → Int} {O : Nat → Bool} {R C F E : Int → Int} {T : Int → Nat → Bool} {t r : Int} (h : rC S O R C T) (hr : 0 ≤ r ∧ r < 8) (ht : 0 ≤ t ∧ t < S 1) (hi : S (29 + 4 * t + 3) = r) (h1 : S' 1 = S 1) (hs : (S' (29 + 4 * t + 0) = S (29 + 4 * t + 0) ∧ S' (29 + 4 * t + 1) = S (29 + 4 * t + 1)) ∧ S' (29 + 4 * t + 2) = S (29 + 4 * t + 2) ∧ S' (29 + 4 * t + 3) = -1) (hu : ∀ u, 0 ≤ u → u < S 1 → ¬ u = t → (S' (29 + 4 * u + 0) = S (29 + 4 * u + 0) ∧ S' (29 + 4 * u + 1) = S (29 + 4 * u + 1)) ∧ S' (29 + 4 * u + 2) = S (29 + 4 * u + 2) ∧ S' (29 + 4 * u + 3) = S (29 + 4 * u + 3)) (hq : ∀ q, 0 ≤ q → q < 8 → (S' (5 + 3 * q + 0) = S (5 + 3 * q + 0) ∧ S' (5 + 3 * q + 1) = S (5 + 3 * q + 1)) ∧ S' (5 + 3 * q + 2) = S (5 + 3 * q + 2)) (hF : F t = S (29 + 4 * t + 0) ∧ E t = S (29 + 4 * t + 1)) : rC S' O R C (bOutT T F E t r) := by
  obtain ⟨hR, hV, hT⟩ := h
  refine ⟨fun q q0 q8 => ?_, ⟨by rw [h1]; exact hV.1, fun u u0 u1' => ?_⟩, fun q q0 q8 k hk => ?_⟩
  · have a := hR q q0 q8
    have b := hq q q0 q8
    rw [b.1.1, b.1.2, b.2]
    exact a
  · rw [h1] at u1'
    have a := hV.2 u u0 u1'
    by_cases c : u = t
    · subst c
      rw [hs.1.1, hs.1.2, hs.2.1, hs.2.2]
      exact ⟨⟨a.1.1, a.1.2.1, by omega⟩, fun h => absurd rfl h, fun w w0 w1 wn h => absurd rfl h⟩
    · have g := hu u u0 u1' c
      rw [g.1.1, g.1.2, g.2.1, g.2.2]
      refine ⟨a.1, fun hn => ?_, fun w w0 w1 wn hn we => ?_⟩
      · rw [(hq _ (by omega) (by omega)).2]; exact a.2.1 hn
      · rw [h1] at w1
        by_cases c2 : w = t
        · subst c2
          rw [hs.2.2] at we
          exact absurd we.symm hn
        · have g2 := hu w w0 w1 c2
          rw [g2.2.2] at we
          rw [g2.1.1, g2.1.2]
          exact a.2.2 w w0 w1 wn hn we
  · rw [h1]
    unfold bOutT u1
    by_cases c : q = r
    · rw [if_pos c, Bool.and_eq_true, ← c, hT q q0 q8 k hk]
      unfold iv
      rw [Bool.not_eq_true', decide_eq_false_iff_not, hF.1, hF.2]
      constructor
      · rintro ⟨⟨u, uu, a, b⟩, d⟩
        have un : ¬ u = t := fun un => by rw [un] at b; exact d b
        have g := hu u uu.1 uu.2 un
        exact ⟨u, uu, by rw [g.2.2]; exact a, by rw [g.1.1, g.1.2]; exact b⟩
      · rintro ⟨u, uu, a, b⟩
        have un : ¬ u = t := fun un => by rw [un, hs.2.2] at a; omega
        have g := hu u uu.1 uu.2 un
        rw [g.2.2] at a
        rw [g.1.1, g.1.2] at b
        refine ⟨⟨u, uu, a, b⟩, fun d => ?_⟩
        have := (hV.2 t ht.1 ht.2).2.2 u uu.1 uu.2 un (by omega) (by omega)
        omega
    · rw [if_neg c, hT q q0 q8 k hk]
      constructor
      · rintro ⟨u, uu, a, b⟩
        have un : ¬ u = t := fun un => by rw [un] at a; omega
        have g := hu u uu.1 uu.2 un
        exact ⟨u, uu, by rw [g.2.2]; exact a, by rw [g.1.1, g.1.2]; exact b⟩
      · rintro ⟨u, uu, a, b⟩
        have un : ¬ u = t := fun un => by rw [un, hs.2.2] at a; omega
        have g := hu u uu.1 uu.2 un
        rw [g.2.2] at a
        rw [g.1.1, g.1.2] at b
        exact ⟨u, uu, a, b⟩
/-- rooms alone change -/
theorem same_core {S S' : Int → Int} {O O' : Nat → Bool} {R C R' C' : Int → Int} {T : Int → Nat → Bool} (h : rC S O R C T) (hR : rR S' O' R' C') (h1 : S' 1 = S 1) (hu : ∀ u, 0 ≤ u → u < S 1 → (S' (29 + 4 * u + 0) = S (29 + 4 * u + 0) ∧ S' (29 + 4 * u + 1) = S (29 + 4 * u + 1)) ∧ S' (29 + 4 * u + 2) = S (29 + 4 * u + 2) ∧ S' (29 + 4 * u + 3) = S (29 + 4 * u + 3)) (ho : ∀ u, 0 ≤ u → u < S 1 → ¬ S (29 + 4 * u + 3) = -1 → S' (5 + 3 * S (29 + 4 * u + 3) + 2) = 1) : rC S' O' R' C' T := by
  obtain ⟨-, hV, hT⟩ := h
  refine ⟨hR, ⟨by rw [h1]; exact hV.1, fun u u0 u1' => ?_⟩, fun q q0 q8 k hk => ?_⟩
  · rw [h1] at u1'
    have a := hV.2 u u0 u1'
    have g := hu u u0 u1'
    rw [g.1.1, g.1.2, g.2.1, g.2.2]
    refine ⟨a.1, ho u u0 u1', fun w w0 w1 wn hn we => ?_⟩
    rw [h1] at w1
    have g2 := hu w w0 w1
    rw [g2.2.2] at we
    rw [g2.1.1, g2.1.2]
    exact a.2.2 w w0 w1 wn hn we
  · rw [h1, hT q q0 q8 k hk]
    constructor
    · rintro ⟨u, uu, a, b⟩
      have g := hu u uu.1 uu.2
      exact ⟨u, uu, by rw [g.2.2]; exact a, by rw [g.1.1, g.1.2]; exact b⟩
    · rintro ⟨u, uu, a, b⟩
      have g := hu u uu.1 uu.2
      rw [g.2.2] at a
      rw [g.1.1, g.1.2] at b
      exact ⟨u, uu, a, b⟩
