/-! withdrawn, moved, furnished, shut, ruled: both sides -/
theorem talkP_iff {S : Int → Int} {O : Nat → Bool} {G F E Z P R C : Int → Int} {T : Int → Nat → Bool} (h : rB S O G F E Z P R C T) (t : Int) : (¬ bPl P t = -1 ↔ mTalkP S t) ∧ (mTalkP S t → bPl P t = S (29 + 4 * t + 3) ∧ (0 ≤ t ∧ t < S 1) ∧ (0 ≤ S (29 + 4 * t + 3) ∧ S (29 + 4 * t + 3) < 8) ∧ ((F t = S (29 + 4 * t + 0) ∧ E t = S (29 + 4 * t + 1)) ∧ Z t = S (29 + 4 * t + 2) ∧ P t = S (29 + 4 * t + 3))) := by
  have h1 := h.2.2.1.1.2.1
  have key : mTalkP S t → bPl P t = S (29 + 4 * t + 3) ∧ (0 ≤ t ∧ t < S 1) ∧ (0 ≤ S (29 + 4 * t + 3) ∧ S (29 + 4 * t + 3) < 8) ∧ ((F t = S (29 + 4 * t + 0) ∧ E t = S (29 + 4 * t + 1)) ∧ Z t = S (29 + 4 * t + 2) ∧ P t = S (29 + 4 * t + 3)) := by
    intro ht
    unfold mTalkP at ht
    have g := h.2.1.1.1 t (by omega) (by omega)
    have v := (h.1.2.1.2 t (by omega) (by omega)).1
    rw [bPl_in (by omega)]
    exact ⟨g.2.2, by omega, by omega, g⟩
  refine ⟨⟨fun hp => ?_, fun ht => ?_⟩, key⟩
  · have q := bPl_ok hp
    by_cases c : t < S 1
    · have g := h.2.1.1.1 t q.1.1 c
      exact ⟨by omega, by rw [← g.2.2, ← q.2]; exact hp⟩
    · exfalso
      have g := h.2.1.1.2 t (by omega) (by omega)
      rw [q.2] at hp; exact hp g
  · have k := key ht
    omega
theorem with_at (S : Int → Int) {t : Int} (ht : 0 ≤ t) : (∀ j, j = 0 ∨ j = 1 ∨ j = 2 ∨ j = 3 ∨ (5 ≤ j ∧ j < 29) → mWith S t j = S j) ∧ mWith S t 4 = S 4 + 1 ∧ ((mWith S t (29 + 4 * t + 0) = S (29 + 4 * t + 0) ∧ mWith S t (29 + 4 * t + 1) = S (29 + 4 * t + 1)) ∧ mWith S t (29 + 4 * t + 2) = S (29 + 4 * t + 2) ∧ mWith S t (29 + 4 * t + 3) = -1) ∧ ∀ u, 0 ≤ u → ¬ u = t → (mWith S t (29 + 4 * u + 0) = S (29 + 4 * u + 0) ∧ mWith S t (29 + 4 * u + 1) = S (29 + 4 * u + 1)) ∧ mWith S t (29 + 4 * u + 2) = S (29 + 4 * u + 2) ∧ mWith S t (29 + 4 * u + 3) = S (29 + 4 * u + 3) := by
  unfold mWith mWith1 u1
  refine ⟨fun j hj => ?_, ?_, ⟨⟨?_, ?_⟩, ?_, ?_⟩, fun u u0 hu => ⟨⟨?_, ?_⟩, ?_, ?_⟩⟩
  · rw [if_neg (by omega), if_neg (by omega)]
  · rw [if_pos rfl, if_neg (by omega)]
  · rw [if_neg (by omega), if_neg (by omega)]
  · rw [if_neg (by omega), if_neg (by omega)]
  · rw [if_neg (by omega), if_neg (by omega)]
  · rw [if_neg (by omega), if_pos rfl]
  · rw [if_neg (by omega), if_neg (by omega)]
  · rw [if_neg (by omega), if_neg (by omega)]
  · rw [if_neg (by omega), if_neg (by omega)]
  · rw [if_neg (by omega), if_neg (by omega)]
theorem drop_rel {S : Int → Int} {O : Nat → Bool} {G F E Z P R C : Int → Int} {T : Int → Nat → Bool} (h : rB S O G F E Z P R C T) {t : Int} (ht : mTalkP S t) : rB (mWith S t) O (u1 G 9 (G 9 + 1)) F E Z (u1 P t (-1)) R C (bOutT T F E t (bPl P t)) := by
  obtain ⟨hp, h1, h2, h3⟩ := (talkP_iff h t).2 ht
  have w := with_at S h1.1
  have w1 : mWith S t 1 = S 1 := w.1 1 (by omega)
  have z1 := h.2.2.1.1.2.1
  rw [hp]
  refine ⟨out_core h.1 h2 h1 rfl w1 w.2.2.1 (fun u u0 _ hu => w.2.2.2 u u0 hu) (fun q q0 q8 => ⟨⟨w.1 _ (by omega), w.1 _ (by omega)⟩, w.1 _ (by omega)⟩) h3.1, ⟨⟨fun u u0 u1' => ?_, fun u u0 u1' => ?_⟩, ⟨⟨?_, ?_⟩, ⟨?_, ?_⟩, ?_⟩⟩, ⟨IM_with h.2.2.1.1 (by omega), ⟨IB_out h.2.2.1.2.1 t, ?_, ?_⟩⟩, ?_, fun q q0 q8 => ?_⟩
  · rw [w1] at u1'
    by_cases c : u = t
    · rw [c, w.2.2.1.1.1, w.2.2.1.1.2, w.2.2.1.2.1, w.2.2.1.2.2, u1_s]; exact ⟨h3.1, h3.2.1, rfl⟩
    · have g := w.2.2.2 u u0 c
      rw [g.1.1, g.1.2, g.2.1, g.2.2, u1_n c]; exact h.2.1.1.1 u u0 u1'
  · rw [w1] at u0
    rw [u1_n (by omega)]; exact h.2.1.1.2 u u0 u1'
  · rw [u1_n (by omega), w.1 0 (by omega)]; exact h.2.1.2.1.1
  · rw [u1_n (by omega), w1]; exact h.2.1.2.1.2
  · rw [u1_n (by omega), w.1 2 (by omega)]; exact h.2.1.2.2.1.1
  · rw [u1_n (by omega), w.1 3 (by omega)]; exact h.2.1.2.2.1.2
  · rw [u1_s, w.2.1, h.2.1.2.2.2]
  · rw [u1_n (by omega)]; exact h.2.2.1.2.2.1
  · rw [u1_n (by omega)]; exact h.2.2.1.2.2.2
  · rw [w.1 3 (by omega)]; exact h.2.2.2.1
  · rw [w.1 3 (by omega), w.1 _ (by omega)]; exact h.2.2.2.2 q q0 q8
theorem go_iff {S : Int → Int} {O : Nat → Bool} {G F E Z P R C : Int → Int} {T : Int → Nat → Bool} (h : rB S O G F E Z P R C T) {t r : Int} (ht : mTalkP S t) (hr : 0 ≤ r ∧ r < 8) : bGo O F E Z P R T t r ↔ mMove S t r := by
  obtain ⟨hp, h1, h2, h3⟩ := (talkP_iff h t).2 ht
  have v := (h.1.2.1.2 t h1.1 h1.2).1
  unfold bGo mMove
  rw [h3.2.2, h3.2.1, h3.1.1, h3.1.2, (h.1.1 r hr.1 hr.2).2.1.1]
  constructor
  · rintro ⟨a, b, c⟩
    exact ⟨fun q => a q.symm, b, (hold_can h.1.1 h.1.2.1 h.1.2.2 t hr v.1 (fun u u0 u1 hu => by rw [hu]; exact fun q => a q.symm)).mp c⟩
  · rintro ⟨a, b, c⟩
    exact ⟨fun q => a q.symm, b, (hold_can h.1.1 h.1.2.1 h.1.2.2 t hr v.1 (fun u u0 u1 hu => by rw [hu]; exact a)).mpr c⟩
theorem in_at (S : Int → Int) {t : Int} (r : Int) (ht : 0 ≤ t) : (∀ j, j < 29 → u1 S (29 + 4 * t + 3) r j = S j) ∧ ((u1 S (29 + 4 * t + 3) r (29 + 4 * t + 0) = S (29 + 4 * t + 0) ∧ u1 S (29 + 4 * t + 3) r (29 + 4 * t + 1) = S (29 + 4 * t + 1)) ∧ u1 S (29 + 4 * t + 3) r (29 + 4 * t + 2) = S (29 + 4 * t + 2) ∧ u1 S (29 + 4 * t + 3) r (29 + 4 * t + 3) = r) ∧ ∀ u, ¬ u = t → (u1 S (29 + 4 * t + 3) r (29 + 4 * u + 0) = S (29 + 4 * u + 0) ∧ u1 S (29 + 4 * t + 3) r (29 + 4 * u + 1) = S (29 + 4 * u + 1)) ∧ u1 S (29 + 4 * t + 3) r (29 + 4 * u + 2) = S (29 + 4 * u + 2) ∧ u1 S (29 + 4 * t + 3) r (29 + 4 * u + 3) = S (29 + 4 * u + 3) := by
  unfold u1
  refine ⟨fun j hj => ?_, ⟨⟨?_, ?_⟩, ?_, ?_⟩, fun u hu => ⟨⟨?_, ?_⟩, ?_, ?_⟩⟩
  · rw [if_neg (by omega)]
  · rw [if_neg (by omega)]
  · rw [if_neg (by omega)]
  · rw [if_neg (by omega)]
  · rw [if_pos rfl]
  · rw [if_neg (by omega)]
  · rw [if_neg (by omega)]
  · rw [if_neg (by omega)]
  · rw [if_neg (by omega)]
theorem shift_rel {S : Int → Int} {O : Nat → Bool} {G F E Z P R C : Int → Int} {T : Int → Nat → Bool} (h : rB S O G F E Z P R C T) {t r : Int} (ht : mTalkP S t) (hr : 0 ≤ r ∧ r < 8) (hm : mMove S t r) : rB (u1 S (29 + 4 * t + 3) r) (bPutO O r) (bPutG O G C r) F E Z (u1 (u1 P t (-1)) t r) R C (bPutT (bOutT T F E t (S (29 + 4 * t + 3))) F E t r) ∧ bPutO O r = O ∧ bPutG O G C r = G := by
  obtain ⟨hp, h1, h2, h3⟩ := (talkP_iff h t).2 ht
  have v := (h.1.2.1.2 t h1.1 h1.2).1
  have z1 := h.2.2.1.1.2.1
  have hO : O r.toNat = true := (h.1.1 r hr.1 hr.2).2.1.1.mpr hm.2.1
  have eO : bPutO O r = O := iif_t hO
  have eG : bPutG O G C r = G := iif_t hO
  refine ⟨?_, eO, eG⟩
  have a := in_at S (-1) h1.1
  have b := in_at S r h1.1
  have c1 : rC (u1 S (29 + 4 * t + 3) (-1)) O R C (bOutT T F E t (S (29 + 4 * t + 3))) := out_core h.1 h2 h1 rfl (a.1 1 (by omega)) a.2.1 (fun u u0 _ hu => a.2.2 u hu) (fun q q0 q8 => ⟨⟨a.1 _ (by omega), a.1 _ (by omega)⟩, a.1 _ (by omega)⟩) h3.1
  have cn : mCan (u1 S (29 + 4 * t + 3) (-1)) r (S (29 + 4 * t + 0)) (S (29 + 4 * t + 1)) (S (29 + 4 * t + 2)) (-1) := by
    refine ⟨by rw [a.1 _ (by omega)]; exact hm.2.2.1, fun u u0 u1' => ?_⟩
    rw [a.1 1 (by omega)] at u1'
    by_cases c : u = t
    · rw [c, a.2.1.2.2]; right; left; omega
    · have g := a.2.2 u c
      rw [g.1.1, g.1.2, g.2.2]
      have := hm.2.2.2 u u0 u1'
      omega
  have e1 : u1 S (29 + 4 * t + 3) (-1) 1 = S 1 := a.1 1 (by omega)
  have e2 : u1 S (29 + 4 * t + 3) r 1 = S 1 := b.1 1 (by omega)
  have c2 : rC (u1 S (29 + 4 * t + 3) r) (bPutO O r) R C (bPutT (bOutT T F E t (S (29 + 4 * t + 3))) F E t r) := by
    refine put_core (F := F) (E := E) c1 hr (t := t) (by rw [e2]; exact h1) (by rw [e1, e2]; omega) (fun u u0 u1' _ => by rw [e2] at u1'; rw [e1]; exact u1') (fun _ => a.2.1.2.2) (f := S (29 + 4 * t + 0)) (e := S (29 + 4 * t + 1)) (z := S (29 + 4 * t + 2)) (zz := S (29 + 4 * t + 2)) ⟨v.1, v.2.1⟩ b.2.1 (fun u u0 u1' hu => ?_) (fun q q0 q8 => ?_) cn h3.1
    · have g1 := a.2.2 u hu
      have g2 := b.2.2 u hu
      rw [g1.1.1, g1.1.2, g1.2.1, g1.2.2]; exact g2
    · rw [a.1 _ (by omega), a.1 _ (by omega), a.1 _ (by omega), b.1 _ (by omega), b.1 _ (by omega), b.1 _ (by omega)]
      refine ⟨⟨rfl, rfl⟩, ?_⟩
      by_cases c : q = r
      · rw [iif_t c, c]; exact hm.2.1
      · rw [iif_f c]
  have hF : 0 ≤ F t ∧ F t < E t ∧ E t ≤ 48 := by rw [h3.1.1, h3.1.2]; exact v.1
  refine ⟨c2, ⟨⟨fun u u0 u1' => ?_, fun u u0 u1' => ?_⟩, ?_⟩, ⟨IM_hi h.2.2.1.1 (by omega) (by omega), ⟨IB_P (IB_P h.2.2.1.2.1 (by omega) hF) (by omega) hF, ?_⟩⟩, ?_, fun q q0 q8 => ?_⟩
  · rw [e2] at u1'
    by_cases c : u = t
    · rw [c, b.2.1.1.1, b.2.1.1.2, b.2.1.2.1, b.2.1.2.2, u1_s]; exact ⟨h3.1, h3.2.1, rfl⟩
    · have g := b.2.2 u c
      rw [g.1.1, g.1.2, g.2.1, g.2.2, u1_n c, u1_n c]; exact h.2.1.1.1 u u0 u1'
  · rw [e2] at u0
    rw [u1_n (by omega), u1_n (by omega)]; exact h.2.1.1.2 u u0 u1'
  · rw [eG]
    unfold rG
    rw [b.1 0 (by omega), b.1 1 (by omega), b.1 2 (by omega), b.1 3 (by omega), b.1 4 (by omega)]; exact h.2.1.2
  · rw [eG]; exact h.2.2.1.2.2
  · rw [b.1 3 (by omega)]; exact h.2.2.2.1
  · rw [b.1 3 (by omega), b.1 _ (by omega)]; exact h.2.2.2.2 q q0 q8
theorem refR_0 {S : Int → Int} {O : Nat → Bool} {R C : Int → Int} (hR : rR S O R C) {r z c : Int} : mRefR S r z c = 0 ↔ bFuC O r z c := by
  unfold mRefR bFuC
  unfold iif
  split
  · rename_i h1
    rw [(hR r h1.1.1 (by omega)).2.1.1]
    split
    · rename_i h2; exact ⟨fun q => by omega, fun q => absurd h2 q.2⟩
    · rename_i h2; exact ⟨fun _ => ⟨h1, h2⟩, fun _ => rfl⟩
  · rename_i h1
    exact ⟨fun q => by omega, fun q => absurd q.1 h1⟩
theorem furV_eq {S : Int → Int} {O : Nat → Bool} {R C : Int → Int} (hR : rR S O R C) (r z c : Int) : bFuV O R C r z c = iif (mRefR S r z c = 0) (100 * S (5 + 3 * r + 0) + S (5 + 3 * r + 1)) (mRefR S r z c) := by
  have q := refR_0 hR (r := r) (z := z) (c := c)
  by_cases c1 : bFuC O r z c
  · rw [iif_t (q.mpr c1)]
    unfold bFuV
    have g := (hR r c1.1.1.1 (by have := c1.1.1.2; omega)).1
    rw [iif_t c1.1, iif_f c1.2, g.1, g.2]
  · rw [iif_f (fun x => c1 (q.mp x))]
    unfold bFuV mRefR
    by_cases c2 : (0 ≤ r ∧ r ≤ 7) ∧ (1 ≤ z ∧ z ≤ 9) ∧ (1 ≤ c ∧ c ≤ 99)
    · have c3 : O r.toNat = true := Classical.not_not.mp (fun x => c1 ⟨c2, x⟩)
      rw [iif_t c2, iif_t c2, iif_t c3, iif_t ((hR r c2.1.1 (by omega)).2.1.1.mp c3)]
    · rw [iif_f c2, iif_f c2]
theorem fur_rel {S : Int → Int} {O : Nat → Bool} {G F E Z P R C : Int → Int} {T : Int → Nat → Bool} (h : rB S O G F E Z P R C T) {r z c : Int} (hc : bFuC O r z c) : rB (mLay S r z c) O G F E Z P (u1 R r z) (u1 C r c) T := by
  obtain ⟨⟨a1, a2, a3⟩, a4⟩ := hc
  have so : ¬ S (5 + 3 * r + 2) = 1 := fun q => a4 ((h.1.1 r a1.1 (by omega)).2.1.1.mpr q)
  have e : ∀ j, ¬ j = (5 + 3 * r + 0) ∧ ¬ j = (5 + 3 * r + 1) → mLay S r z c j = S j := by
    intro j hj
    unfold mLay
    rw [u1_n hj.2, u1_n hj.1]
  have hR : rR (mLay S r z c) O (u1 R r z) (u1 C r c) := by
    intro q q0 q8
    have g := h.1.1 q q0 q8
    rw [e (5 + 3 * q + 2) (by omega)]
    by_cases k : q = r
    · subst k
      rw [u1_s, u1_s]
      have e1 : mLay S q z c (5 + 3 * q + 0) = z := by unfold mLay; rw [u1_n (by omega), u1_s]
      have e2 : mLay S q z c (5 + 3 * q + 1) = c := by unfold mLay; rw [u1_s]
      rw [e1, e2]
      exact ⟨⟨rfl, rfl⟩, g.2.1, a2, a3⟩
    · rw [u1_n k, u1_n k, e (5 + 3 * q + 0) (by omega), e (5 + 3 * q + 1) (by omega)]
      exact g
  refine ⟨same_core h.1 hR (e 1 (by omega)) (fun u u0 u1 => ⟨⟨e _ (by omega), e _ (by omega)⟩, e _ (by omega), e _ (by omega)⟩) (fun u u0 u1 hn => ?_), ⟨⟨fun u u0 u1' => ?_, fun u u0 u1' => ?_⟩, ?_⟩, ⟨IM_lay h.2.2.1.1 (by omega) (by omega) (by omega), ⟨IB_fur h.2.2.1.2.1 a2 a3, h.2.2.1.2.2⟩⟩, ?_, fun q q0 q8 => ?_⟩
  · have v := h.1.2.1.2 u u0 u1
    rw [e _ (by omega)]; exact v.2.1 hn
  · rw [e 1 (by omega)] at u1'
    rw [e _ (by omega), e _ (by omega), e _ (by omega), e _ (by omega)]; exact h.2.1.1.1 u u0 u1'
  · rw [e 1 (by omega)] at u0
    exact h.2.1.1.2 u u0 u1'
  · unfold rG
    rw [e 0 (by omega), e 1 (by omega), e 2 (by omega), e 3 (by omega), e 4 (by omega)]; exact h.2.1.2
  · rw [e 3 (by omega)]; exact h.2.2.2.1
  · rw [e 3 (by omega), e _ (by omega)]; exact h.2.2.2.2 q q0 q8
theorem nI_z {x : Nat} (h : x < 2 ^ 31) : nI x = 0 ↔ x = 0 := by
  constructor
  · intro q
    have e : (nI x).toInt = (0 : Int32).toInt := by rw [q]
    rw [← iI_nat, iI_toInt (by omega)] at e
    have : (0 : Int32).toInt = 0 := by decide
    omega
  · intro q; rw [q]; rfl
theorem msk_0 {p : Int → Prop} {n : Int} (h0 : 0 ≤ n) (hn : n ≤ 20) : mskI p n = 0 ↔ ∀ k, 0 ≤ k → k < n → ¬ p k := by
  unfold mskI
  have hlt := mkN_lt (bd p) n.toNat
  have h2 : 2 ^ n.toNat ≤ 2 ^ 20 := Nat.pow_le_pow_right (by omega) (by omega)
  rw [nI_z (by omega), mkN_0]
  constructor
  · intro h k k0 kn hp
    have := h k.toNat (by omega)
    rw [bd_t (by rw [Int.toNat_of_nonneg k0]; exact hp)] at this
    exact Bool.noConfusion this
  · intro h k hk
    exact bd_f (h k (by omega) (by omega))
theorem free_iff {S : Int → Int} {T : Int → Nat → Bool} (hV : rV S) (hT : rT S T) {r : Int} (hr : 0 ≤ r ∧ r < 8) : (∀ k : Nat, k < 48 → T r k = false) ↔ mskI (fun t => S (29 + 4 * t + 3) = r) (S 1) = 0 := by
  rw [msk_0 hV.1.1 hV.1.2]
  constructor
  · intro h t t0 t1 hi
    have v := (hV.2 t t0 t1).1.1
    have q := rT_in hT hr ⟨t0, t1⟩ hi (k := S (29 + 4 * t + 0)) (by omega) (by omega)
    rw [h _ (by omega)] at q
    exact Bool.noConfusion q
  · intro h k hk
    rw [← Bool.not_eq_true]
    intro q
    obtain ⟨t, tt, hi, -⟩ := (hT r hr.1 hr.2 k hk).mp q
    exact h t tt.1 tt.2 hi
theorem openN_eq {S : Int → Int} {O : Nat → Bool} {R C : Int → Int} (hR : rR S O R C) {n : Int} (h0 : 0 ≤ n) (h8 : n ≤ 8) : mOpenN S n = ((cntN O n.toNat : Nat) : Int) := by
  obtain ⟨m, rfl⟩ := Int.eq_ofNat_of_zero_le h0
  induction m with
  | zero => rfl
  | succ m ih =>
    have ih := ih (by omega) (by omega)
    have e : mOpenN S (((m + 1 : Nat) : Int)) = mOpenN S m + S (5 + 3 * (m : Int) + 2) := fI_s (g := fun r x => x + S (5 + 3 * r + 2)) (a := (0 : Int)) (i := (m : Int)) (by omega)
    rw [e, ih]
    have g := (hR m (by omega) (by omega)).2.1
    show ((cntN O m : Nat) : Int) + _ = ((cntN O m + (if O m then 1 else 0) : Nat) : Int)
    have g1 : O m = true ↔ S (5 + 3 * (m : Int) + 2) = 1 := g.1
    by_cases c : O m = true
    · rw [if_pos c, g1.mp c]; rfl
    · rw [if_neg c]
      have := g.2.resolve_right (fun q => c (g1.mpr q))
      rw [this]; rfl
theorem cl_iff {S : Int → Int} {O : Nat → Bool} {R C : Int → Int} {T : Int → Nat → Bool} (h : rC S O R C T) {r : Int} (hr : 0 ≤ r ∧ r < 8) : bCl O T r ↔ S (5 + 3 * r + 2) = 1 ∧ mskI (fun t => S (29 + 4 * t + 3) = r) (S 1) = 0 := by
  unfold bCl
  rw [(h.1 r hr.1 hr.2).2.1.1, free_iff h.2.1 h.2.2 hr]
theorem shut_rel {S : Int → Int} {O : Nat → Bool} {G F E Z P R C : Int → Int} {T : Int → Nat → Bool} (h : rB S O G F E Z P R C T) {r : Int} (hr : 0 ≤ r ∧ r < 8) (hc : S (5 + 3 * r + 2) = 1 ∧ mskI (fun t => S (29 + 4 * t + 3) = r) (S 1) = 0) : rB (u1 S (5 + 3 * r + 2) 0) (oClr O r) G F E Z P R C T := by
  have e : ∀ j, ¬ j = (5 + 3 * r + 2) → u1 S (5 + 3 * r + 2) 0 j = S j := fun j hj => u1_n hj
  have hn := (msk_0 h.1.2.1.1.1 h.1.2.1.1.2).mp hc.2
  have hR : rR (u1 S (5 + 3 * r + 2) 0) (oClr O r) R C := by
    intro q q0 q8
    have g := h.1.1 q q0 q8
    rw [e (5 + 3 * q + 0) (by omega), e (5 + 3 * q + 1) (by omega)]
    unfold oClr
    by_cases k : q = r
    · subst k
      rw [if_pos rfl, u1_s]
      exact ⟨g.1, ⟨⟨fun q => Bool.noConfusion q, fun q => by omega⟩, Or.inl rfl⟩, g.2.2⟩
    · rw [if_neg (by omega), e (5 + 3 * q + 2) (by omega)]
      exact g
  refine ⟨same_core h.1 hR (e 1 (by omega)) (fun u u0 u1 => ⟨⟨e _ (by omega), e _ (by omega)⟩, e _ (by omega), e _ (by omega)⟩) (fun u u0 u1 hn2 => ?_), ⟨⟨fun u u0 u1' => ?_, fun u u0 u1' => ?_⟩, ?_⟩, ⟨IM_hi h.2.2.1.1 (by omega) (by omega), h.2.2.1.2⟩, ?_, fun q q0 q8 hq => ?_⟩
  · have v := h.1.2.1.2 u u0 u1
    have := hn u u0 u1
    rw [e _ (by omega)]; exact v.2.1 hn2
  · rw [e 1 (by omega)] at u1'
    rw [e _ (by omega), e _ (by omega), e _ (by omega), e _ (by omega)]; exact h.2.1.1.1 u u0 u1'
  · rw [e 1 (by omega)] at u0
    exact h.2.1.1.2 u u0 u1'
  · unfold rG
    rw [e 0 (by omega), e 1 (by omega), e 2 (by omega), e 3 (by omega), e 4 (by omega)]; exact h.2.1.2
  · rw [e 3 (by omega)]; exact h.2.2.2.1
  · rw [e 3 (by omega)]
    by_cases k : q = r
    · exact h.2.2.2.2 r hr.1 hr.2 hc.1
    · rw [e _ (by omega)] at hq; exact h.2.2.2.2 q q0 q8 hq
theorem rule_rel {S : Int → Int} {O : Nat → Bool} {G F E Z P R C : Int → Int} {T : Int → Nat → Bool} (h : rB S O G F E Z P R C T) {v : Int} (hv : 0 ≤ v ∧ v ≤ 3) : rB (u1 S 0 v) O (u1 G 12 v) F E Z P R C T := by
  have e : ∀ j, ¬ j = 0 → u1 S 0 v j = S j := fun j hj => u1_n hj
  have hR : rR (u1 S 0 v) O R C := by
    intro q q0 q8
    rw [e _ (by omega), e _ (by omega), e _ (by omega)]; exact h.1.1 q q0 q8
  refine ⟨same_core h.1 hR (e 1 (by omega)) (fun u u0 u1 => ⟨⟨e _ (by omega), e _ (by omega)⟩, e _ (by omega), e _ (by omega)⟩) (fun u u0 u1 hn2 => ?_), ⟨⟨fun u u0 u1' => ?_, fun u u0 u1' => ?_⟩, ⟨⟨?_, ?_⟩, ⟨?_, ?_⟩, ?_⟩⟩, ⟨IM_0 h.2.2.1.1 hv, ⟨h.2.2.1.2.1, ?_, ?_⟩⟩, ?_, fun q q0 q8 hq => ?_⟩
  · have w := h.1.2.1.2 u u0 u1
    rw [e _ (by omega)]; exact w.2.1 hn2
  · rw [e 1 (by omega)] at u1'
    rw [e _ (by omega), e _ (by omega), e _ (by omega), e _ (by omega)]; exact h.2.1.1.1 u u0 u1'
  · rw [e 1 (by omega)] at u0
    exact h.2.1.1.2 u u0 u1'
  · rw [u1_s, u1_s]
  · rw [u1_n (by omega), e 1 (by omega)]; exact h.2.1.2.1.2
  · rw [u1_n (by omega), e 2 (by omega)]; exact h.2.1.2.2.1.1
  · rw [u1_n (by omega), e 3 (by omega)]; exact h.2.1.2.2.1.2
  · rw [u1_n (by omega), e 4 (by omega)]; exact h.2.1.2.2.2
  · rw [u1_s]; exact hv
  · rw [u1_n (by omega)]; exact h.2.2.1.2.2.2
  · rw [e 3 (by omega)]; exact h.2.2.2.1
  · rw [e _ (by omega)] at hq; rw [e 3 (by omega)]; exact h.2.2.2.2 q q0 q8 hq
