/-! telling anew, on both sides -/
theorem next_sp (S A B : Int → Int) {n : Int} (h0 : 0 ≤ n) : (mNext S A B n = -1 ∧ ∀ u, 0 ≤ u → u < n → ¬ (¬ A (29 + 4 * u + 3) = -1 ∧ B u = 0)) ∨ ((0 ≤ mNext S A B n ∧ mNext S A B n < n) ∧ (¬ A (29 + 4 * (mNext S A B n) + 3) = -1 ∧ B (mNext S A B n) = 0) ∧ ∀ u, 0 ≤ u → u < n → ¬ A (29 + 4 * u + 3) = -1 ∧ B u = 0 → S (29 + 4 * (mNext S A B n) + 0) < S (29 + 4 * u + 0) ∨ (S (29 + 4 * (mNext S A B n) + 0) = S (29 + 4 * u + 0) ∧ mNext S A B n ≤ u)) := by
  refine fI_ind (fun n (x : Int) => (x = -1 ∧ ∀ u, 0 ≤ u → u < n → ¬ (¬ A (29 + 4 * u + 3) = -1 ∧ B u = 0)) ∨ ((0 ≤ x ∧ x < n) ∧ (¬ A (29 + 4 * x + 3) = -1 ∧ B x = 0) ∧ ∀ u, 0 ≤ u → u < n → ¬ A (29 + 4 * u + 3) = -1 ∧ B u = 0 → S (29 + 4 * x + 0) < S (29 + 4 * u + 0) ∨ (S (29 + 4 * x + 0) = S (29 + 4 * u + 0) ∧ x ≤ u))) (Or.inl ⟨rfl, fun u h1 h2 => by omega⟩) (fun i x hi hin hx => ?_) h0
  unfold mNextS
  by_cases c : (¬ A (29 + 4 * i + 3) = -1 ∧ B i = 0) ∧ (x = -1 ∨ S (29 + 4 * i + 0) < S (29 + 4 * x + 0))
  · rw [iif_t c]
    right
    refine ⟨by omega, c.1, fun u u0 u1 hu => ?_⟩
    by_cases q : u = i
    · rw [q]; right; omega
    · rcases hx with ⟨h1, h2⟩ | ⟨h1, h2, h3⟩
      · exact absurd hu (h2 u u0 (by omega))
      · have := h3 u u0 (by omega) hu
        have := c.2
        omega
  · rw [iif_f c]
    rcases hx with ⟨h1, h2⟩ | ⟨h1, h2, h3⟩
    · left
      refine ⟨h1, fun u u0 u1 hu => ?_⟩
      by_cases q : u = i
      · rw [q] at hu; exact c ⟨hu, Or.inl h1⟩
      · exact h2 u u0 (by omega) hu
    · right
      refine ⟨by omega, h2, fun u u0 u1 hu => ?_⟩
      by_cases q : u = i
      · rw [q] at hu ⊢
        have : ¬ S (29 + 4 * i + 0) < S (29 + 4 * x + 0) := fun q => c ⟨hu, Or.inr q⟩
        omega
      · exact h3 u u0 (by omega) hu
theorem else_sI (P Q : Int → Int) (n : Int) : bElse P Q n = sI (fun t => iif (P t = Q t) 0 1) n := by
  unfold bElse sI
  congr 1
  funext t x
  show _ = x + iif (P t = Q t) 0 1
  by_cases c : P t = Q t
  · rw [iif_t c, iif_t c, Int.add_zero]
  · rw [iif_f c, iif_f c]
theorem cnt_put (O : Nat → Bool) (r : Int) (hr : 0 ≤ r) : ∀ n : Nat, (cntN (bPutO O r) n : Int) = cntN O n + iif (r < n ∧ ¬ O r.toNat = true) 1 0
  | 0 => by rw [iif_f (fun q => by omega)]; rfl
  | n + 1 => by
    have ih := cnt_put O r hr n
    have hp := putO_at O hr (q := (n : Int)) (by omega)
    have hp2 : bPutO O r n = true ↔ ((n : Int) = r ∨ O n = true) := hp
    show ((cntN (bPutO O r) n + (if bPutO O r n then 1 else 0) : Nat) : Int) = ((cntN O n + (if O n then 1 else 0) : Nat) : Int) + _
    rw [Int.natCast_add, Int.natCast_add, ih]
    by_cases c : (n : Int) = r
    · have e : O r.toNat = O n := by rw [← c]; rfl
      rw [if_pos (hp2.mpr (Or.inl c)), e, iif_f (fun q => by omega)]
      by_cases c2 : O n = true
      · rw [if_pos c2, iif_f (fun q => q.2 c2)]; omega
      · rw [if_neg c2, iif_t ⟨by omega, c2⟩]; omega
    · have e : (if bPutO O r n then 1 else 0 : Nat) = (if O n then 1 else 0) := by
        by_cases c2 : O n = true
        · rw [if_pos c2, if_pos (hp2.mpr (Or.inr c2))]
        · rw [if_neg c2, if_neg (fun q => (hp2.mp q).elim c c2)]
      rw [e]
      by_cases c3 : r < n ∧ ¬ O r.toNat = true
      · rw [iif_t c3, iif_t ⟨by omega, c3.2⟩]; omega
      · rw [iif_f c3, iif_f (fun q => c3 ⟨by omega, q.2⟩)]; omega
def aI (S0 F E Z P0 R C G0 : Int → Int) (n : Int) (O : Nat → Bool) (G P : Int → Int) (T : Int → Nat → Bool) (Fm S B : Int → Int) : Prop :=
  (rC S O R C T ∧ IM S ∧ B01 B ∧ IB F E Z P R C) ∧
  ((S 0 = S0 0 ∧ S 1 = S0 1 ∧ S 4 = S0 4) ∧ ∀ t, 0 ≤ t → t < S0 1 → (S (29 + 4 * t + 0) = S0 (29 + 4 * t + 0) ∧ S (29 + 4 * t + 1) = S0 (29 + 4 * t + 1)) ∧ S (29 + 4 * t + 2) = S0 (29 + 4 * t + 2)) ∧
  (∀ t, 0 ≤ t → t < S0 1 → (B t = 0 ∧ S (29 + 4 * t + 3) = -1 ∧ P t = S0 (29 + 4 * t + 3) ∧ (S0 (29 + 4 * t + 3) = -1 ∨ n ≤ 20 * S0 (29 + 4 * t + 0) + t)) ∨ (B t = 1 ∧ S (29 + 4 * t + 3) = P t ∧ ¬ P t = -1 ∧ ¬ S0 (29 + 4 * t + 3) = -1 ∧ 20 * S0 (29 + 4 * t + 0) + t < n)) ∧
  (∀ t, S0 1 ≤ t → t < 20 → P t = -1) ∧
  (G 11 = S 3 - S0 3 ∧ G 10 = S 2 ∧ ∀ j, ¬ (j = 10 ∨ j = 11) → G j = G0 j) ∧
  (Fm 10 = bElse P P0 20 ∧ S 2 - S0 2 = cntN O 8) ∧
  (0 ≤ S 3 - S0 3 ∧ ∀ r, 0 ≤ r → r < 8 → S (5 + 3 * r + 2) = 1 → 1 ≤ S 3 - S0 3) ∧ (S 3 = S0 3 ∨ ∃ t, (0 ≤ t ∧ t < S0 1) ∧ B t = 1)
theorem an_sim {S0 : Int → Int} {O0 : Nat → Bool} {G0 F E Z P0 R C : Int → Int} {T0 : Int → Nat → Bool} (h : rB S0 O0 G0 F E Z P0 R C T0) {A : Int → Int} (hA : ∀ j, 0 ≤ j → j < 109 → A j = S0 j) {rule : Int} (hu : 0 ≤ rule ∧ rule ≤ 3) : ∀ (kk : Nat) (n : Int) (O : Nat → Bool) (G P : Int → Int) (T : Int → Nat → Bool) (k : Nat) (Fm S B : Int → Int), n + kk = 960 → 0 ≤ n → cz B 20 < k → aI S0 F E Z P0 R C G0 n O G P T Fm S B →
    ((bScan F E Z R C rule kk n O G P T).1 ↔ (mAnew A rule k Fm S B).1) ∧ ((bScan F E Z R C rule kk n O G P T).1 → aI S0 F E Z P0 R C G0 960 (bScan F E Z R C rule kk n O G P T).2.1 (bScan F E Z R C rule kk n O G P T).2.2.1 (bScan F E Z R C rule kk n O G P T).2.2.2.1 (bScan F E Z R C rule kk n O G P T).2.2.2.2 (mAnew A rule k Fm S B).2.1 (mAnew A rule k Fm S B).2.2.1 (mAnew A rule k Fm S B).2.2.2)
  | 0, n, O, G, P, T, k, Fm, S, B, hn, h0, hk, hI => by
    have z1 := h.2.2.1.1.2.1
    have hnn : n = 960 := by omega
    subst hnn
    have e1 : S 1 = S0 1 := hI.2.1.1.2.1
    have hx : mNext S A B (S 1) = -1 := by
      rcases next_sp S A B (n := S 1) (by omega) with ⟨q, -⟩ | ⟨q1, q2, -⟩
      · exact q
      · exfalso
        generalize mNext S A B (S 1) = u at *
        have v := (h.1.2.1.2 u q1.1 (by omega)).1
        rw [hA _ (by omega) (by omega)] at q2
        have := hI.2.2.1 u q1.1 (by omega)
        omega
    obtain ⟨k2, rfl⟩ : ∃ k2, k = k2 + 1 := ⟨k - 1, by omega⟩
    rw [mAnew_e hx]
    exact ⟨Iff.rfl, fun _ => hI⟩
  | kk + 1, n, O, G, P, T, k, Fm, S, B, hn, h0, hk, hI => by
    have z1 := h.2.2.1.1.2.1
    obtain ⟨⟨hC, hM, hB1, hIB⟩, ⟨⟨e0, e1, e4⟩, et⟩, ei, ep, ⟨g11, g10, gk⟩, ⟨f10, f2⟩, ⟨p0, p1⟩, p3⟩ := id hI
    have ht : 0 ≤ n % 20 ∧ n % 20 < 20 := by omega
    have hn2 : n = 20 * (n / 20) + n % 20 := by omega
    generalize n % 20 = t at *
    generalize n / 20 = hr at *
    by_cases c : ¬ P t = -1 ∧ F t = hr
    · have tS : t < S0 1 := by
        by_cases q : t < S0 1
        · exact q
        · exact absurd (ep t (by omega) ht.2) c.1
      have g0 := h.2.1.1.1 t ht.1 tS
      have v0 := h.1.2.1.2 t ht.1 tS
      have w := et t ht.1 tS
      have st := ei t ht.1 tS
      have bt : B t = 0 ∧ S (29 + 4 * t + 3) = -1 ∧ P t = S0 (29 + 4 * t + 3) ∧ ¬ S0 (29 + 4 * t + 3) = -1 := by omega
      have hx : mNext S A B (S 1) = t := by
        have hcond : ¬ A (29 + 4 * t + 3) = -1 ∧ B t = 0 := ⟨by rw [hA _ (by omega) (by omega)]; exact bt.2.2.2, bt.1⟩
        rcases next_sp S A B (n := S 1) (by omega) with ⟨q, q2⟩ | ⟨q1, q2, q3⟩
        · exact absurd hcond (q2 t ht.1 (by omega))
        · have q4 := q3 t ht.1 (by omega) hcond
          generalize mNext S A B (S 1) = u at *
          have su := ei u q1.1 (by omega)
          have wu := et u q1.1 (by omega)
          rw [hA _ (by omega) (by omega)] at q2
          rw [w.1.1, wu.1.1] at q4
          have vu := (h.1.2.1.2 u q1.1 (by omega)).1
          omega
      have hg : mGets S (S (29 + 4 * t + 0)) (S (29 + 4 * t + 1)) (S (29 + 4 * t + 2)) rule = bFor O R C T hr (E t) (Z t) rule := by
        rw [w.1.1, w.1.2, w.2, g0.2.1, g0.1.2, ← c.2, g0.1.1]
        exact (for_eq hC.1 hC.2.1 hC.2.2 _ (by omega) hu).symm
      obtain ⟨k2, rfl⟩ : ∃ k2, k = k2 + 1 := ⟨k - 1, by omega⟩
      by_cases c2 : bFor O R C T hr (E t) (Z t) rule = -1
      · rw [bScan_f hn2 ht c.1 c.2 c2, mAnew_f (by rw [hx]; omega) (by rw [hx, hg]; exact c2)]
        exact ⟨Iff.rfl, fun q => q.elim⟩
      · rw [bScan_s hn2 ht c.1 c.2 rfl c2, mAnew_s (t := t) (by omega) c2 hx hg rfl]
        have hok := (gets_ok hC.2.1 (S (29 + 4 * t + 0)) (S (29 + 4 * t + 1)) (S (29 + 4 * t + 2)) rule).resolve_left (by rw [hg]; exact c2)
        rw [hg] at hok
        generalize bFor O R C T hr (E t) (Z t) rule = r at *
        have a := in_at S r ht.1
        have o1 := opens_at (u1 S (29 + 4 * t + 3) r) hok.1
        have pg := putG_at O G C r
        have so : u1 S (29 + 4 * t + 3) r (5 + 3 * r + 2) = S (5 + 3 * r + 2) := a.1 _ (by omega)
        have sc : u1 S (29 + 4 * t + 3) r (5 + 3 * r + 1) = S (5 + 3 * r + 1) := a.1 _ (by omega)
        have z2 : mOpens (u1 S (29 + 4 * t + 3) r) r 1 = S 1 := by rw [o1.2.1 1 (by omega), a.1 1 (by omega)]
        have zj : ∀ j, j = 0 ∨ j = 1 ∨ j = 4 → mOpens (u1 S (29 + 4 * t + 3) r) r j = S j := fun j hj => by rw [o1.2.1 j (by omega), a.1 j (by omega)]
        have zt : ∀ j, 29 ≤ j → mOpens (u1 S (29 + 4 * t + 3) r) r j = u1 S (29 + 4 * t + 3) r j := fun j hj => o1.2.1 j (by omega)
        have zs : (mOpens (u1 S (29 + 4 * t + 3) r) r (29 + 4 * t + 0) = S (29 + 4 * t + 0) ∧ mOpens (u1 S (29 + 4 * t + 3) r) r (29 + 4 * t + 1) = S (29 + 4 * t + 1)) ∧ mOpens (u1 S (29 + 4 * t + 3) r) r (29 + 4 * t + 2) = S (29 + 4 * t + 2) ∧ mOpens (u1 S (29 + 4 * t + 3) r) r (29 + 4 * t + 3) = r := by
          rw [zt _ (by omega), zt _ (by omega), zt _ (by omega), zt _ (by omega)]; exact a.2.1
        have zu : ∀ u, 0 ≤ u → ¬ u = t → (mOpens (u1 S (29 + 4 * t + 3) r) r (29 + 4 * u + 0) = S (29 + 4 * u + 0) ∧ mOpens (u1 S (29 + 4 * t + 3) r) r (29 + 4 * u + 1) = S (29 + 4 * u + 1)) ∧ mOpens (u1 S (29 + 4 * t + 3) r) r (29 + 4 * u + 2) = S (29 + 4 * u + 2) ∧ mOpens (u1 S (29 + 4 * t + 3) r) r (29 + 4 * u + 3) = S (29 + 4 * u + 3) := by
          intro u u0 hu
          rw [zt _ (by omega), zt _ (by omega), zt _ (by omega), zt _ (by omega)]; exact a.2.2 u hu
        have zq : ∀ q, 0 ≤ q → q < 8 → (mOpens (u1 S (29 + 4 * t + 3) r) r (5 + 3 * q + 0) = S (5 + 3 * q + 0) ∧ mOpens (u1 S (29 + 4 * t + 3) r) r (5 + 3 * q + 1) = S (5 + 3 * q + 1)) ∧ mOpens (u1 S (29 + 4 * t + 3) r) r (5 + 3 * q + 2) = iif (q = r) 1 (S (5 + 3 * q + 2)) := by
          intro q q0 q8
          have x := o1.1 q q0 q8
          rw [a.1 _ (by omega)] at x
          rw [a.1 _ (by omega)] at x
          rw [a.1 _ (by omega)] at x
          exact x
        have hrr := hC.1 r hok.1.1 hok.1.2
        have cC : rC (mOpens (u1 S (29 + 4 * t + 3) r) r) (bPutO O r) R C (bPutT T F E t r) := put_core hC hok.1 (t := t) (by rw [z2]; omega) (by rw [z2]; omega) (fun u u0 u1 _ => by rw [z2] at u1; exact u1) (fun _ => bt.2.1) (f := S (29 + 4 * t + 0)) (e := S (29 + 4 * t + 1)) (z := S (29 + 4 * t + 2)) (zz := S (29 + 4 * t + 2)) (by rw [w.1.1, w.1.2, w.2]; omega) zs (fun u u0 _ hu => zu u u0 hu) zq hok.2 (by rw [w.1.1, w.1.2, g0.1.1, g0.1.2]; exact ⟨rfl, rfl⟩)
        have z3 : mOpens (u1 S (29 + 4 * t + 3) r) r 3 = iif (S (5 + 3 * r + 2) = 1) (S 3) (S 3 + S (5 + 3 * r + 1)) := by rw [o1.2.2.2, so, sc, a.1 3 (by omega)]
        have z4 : mOpens (u1 S (29 + 4 * t + 3) r) r 2 = iif (S (5 + 3 * r + 2) = 1) (S 2) (S 2 + 1) := by rw [o1.2.2.1, so, a.1 2 (by omega)]
        have q3 : S 3 ≤ mOpens (u1 S (29 + 4 * t + 3) r) r 3 ∧ 1 ≤ mOpens (u1 S (29 + 4 * t + 3) r) r 3 - S0 3 := by
          rw [z3]
          by_cases c5 : S (5 + 3 * r + 2) = 1
          · rw [iif_t c5]; exact ⟨Int.le_refl _, p1 r hok.1.1 hok.1.2 c5⟩
          · rw [iif_f c5]; omega
        refine an_sim h hA hu kk (n + 1) _ _ _ _ k2 _ _ _ (by omega) (by omega) ?_ ⟨⟨cC, IM_opens (IM_hi hM (by omega) (by omega)) hok.1, B01_u hB1 (by omega), IB_P hIB (by omega) (by rw [g0.1.1, g0.1.2]; omega)⟩, ⟨⟨by rw [zj 0 (by omega), e0], by rw [zj 1 (by omega), e1], by rw [zj 4 (by omega), e4]⟩, fun u u0 u1 => ?_⟩, fun u u0 u1' => ?_, fun u u0 u1' => ?_, ⟨?_, ?_, fun j hj => ?_⟩, ⟨?_, ?_⟩, ⟨by omega, fun q q0 q8 _ => q3.2⟩, Or.inr ⟨t, ⟨ht.1, tS⟩, u1_s⟩⟩
        · have := cz_u1 B ht.1 bt.1 20 (by omega)
          omega
        · by_cases q : u = t
          · rw [q, zs.1.1, zs.1.2, zs.2.1]; exact w
          · have := zu u u0 q
            rw [this.1.1, this.1.2, this.2.1]; exact et u u0 u1
        · by_cases q : u = t
          · rw [q, zs.2.2, u1_s, u1_s]
            exact Or.inr ⟨rfl, rfl, c2, bt.2.2.2, by omega⟩
          · have := zu u u0 q
            rw [this.2.2, u1_n q, u1_n q]
            have := ei u u0 u1'
            omega
        · rw [u1_n (by omega)]; exact ep u u0 u1'
        · rw [pg.2, z3, open_iif hC.1 hok.1]
          by_cases c5 : S (5 + 3 * r + 2) = 1
          · rw [iif_t c5, iif_t c5]; exact g11
          · rw [iif_f c5, iif_f c5, g11, hrr.1.2]; omega
        · rw [pg.1, z4, open_iif hC.1 hok.1, g10]
        · rw [bPutG_k (by omega)]; exact gk j hj
        · rw [u1_s, f10, else_sI, else_sI]
          refine (sI_one (q := t) ht (fun u u0 u1' hu => ?_) ?_).symm
          · show iif (u1 P t r u = P0 u) 0 1 = iif (P u = P0 u) 0 1
            rw [u1_n hu]
          · show iif (u1 P t r t = P0 t) 0 1 = iif (P t = P0 t) 0 1 + iif (A (29 + 4 * t + 3) = r) 0 1
            rw [u1_s, g0.2.2, bt.2.2.1, hA _ (by omega) (by omega), iif_t (P := S0 (29 + 4 * t + 3) = S0 (29 + 4 * t + 3)) rfl]
            by_cases c5 : S0 (29 + 4 * t + 3) = r
            · rw [iif_t c5, iif_t c5.symm]; rfl
            · rw [iif_f c5, iif_f (fun q => c5 q.symm)]; rfl
        · rw [cnt_put O r hok.1.1 8, ← f2, z4]
          by_cases c5 : S (5 + 3 * r + 2) = 1
          · rw [iif_t c5, iif_f (fun q => q.2 (hrr.2.1.1.mpr c5))]; omega
          · rw [iif_f c5, iif_t ⟨by omega, fun q => c5 (hrr.2.1.1.mp q)⟩]; omega
    · rw [bScan_n hn2 ht c]
      refine an_sim h hA hu kk (n + 1) O G P T k Fm S B (by omega) (by omega) hk ⟨⟨hC, hM, hB1, hIB⟩, ⟨⟨e0, e1, e4⟩, et⟩, fun u u0 u1 => ?_, ep, ⟨g11, g10, gk⟩, ⟨f10, f2⟩, ⟨p0, p1⟩, p3⟩
      have st := ei u u0 u1
      have g0 := h.2.1.1.1 u u0 u1
      rcases st with ⟨a1, a2, a3, a4⟩ | ⟨a1, a2, a3, a4, a5⟩
      · refine Or.inl ⟨a1, a2, a3, ?_⟩
        by_cases q : S0 (29 + 4 * u + 3) = -1
        · exact Or.inl q
        · right
          have a6 := a4.resolve_left q
          by_cases q2 : 20 * S0 (29 + 4 * u + 0) + u = n
          · exfalso
            have v := (h.1.2.1.2 u u0 u1).1
            have ut : u = t := by omega
            subst ut
            refine c ⟨by rw [a3]; exact q, by rw [g0.1.1]; omega⟩
          · omega
      · exact Or.inr ⟨a1, a2, a3, a4, by omega⟩
