/-! the whole relation, and what each change keeps -/
def rP (S F E Z P : Int → Int) : Prop := (∀ t, 0 ≤ t → t < S 1 → (F t = S (29 + 4 * t + 0) ∧ E t = S (29 + 4 * t + 1)) ∧ Z t = S (29 + 4 * t + 2) ∧ P t = S (29 + 4 * t + 3)) ∧ ∀ t, S 1 ≤ t → t < 20 → P t = -1
def rG (S G : Int → Int) : Prop := (G 12 = S 0 ∧ G 8 = S 1) ∧ (G 10 = S 2 ∧ G 11 = S 3) ∧ G 9 = S 4
def rM (S : Int → Int) : Prop := 0 ≤ S 3 ∧ ∀ r, 0 ≤ r → r < 8 → S (5 + 3 * r + 2) = 1 → 1 ≤ S 3
def rB (S : Int → Int) (O : Nat → Bool) (G F E Z P R C : Int → Int) (T : Int → Nat → Bool) : Prop := rC S O R C T ∧ (rP S F E Z P ∧ rG S G) ∧ (IM S ∧ IBG G F E Z P R C) ∧ rM S
theorem opens_at (S : Int → Int) {r : Int} (hr : 0 ≤ r ∧ r < 8) : (∀ q, 0 ≤ q → q < 8 → (mOpens S r (5 + 3 * q + 0) = S (5 + 3 * q + 0) ∧ mOpens S r (5 + 3 * q + 1) = S (5 + 3 * q + 1)) ∧ mOpens S r (5 + 3 * q + 2) = iif (q = r) 1 (S (5 + 3 * q + 2))) ∧ (∀ j, j = 0 ∨ j = 1 ∨ j = 4 ∨ 29 ≤ j → mOpens S r j = S j) ∧ mOpens S r 2 = iif (S (5 + 3 * r + 2) = 1) (S 2) (S 2 + 1) ∧ mOpens S r 3 = iif (S (5 + 3 * r + 2) = 1) (S 3) (S 3 + S (5 + 3 * r + 1)) := by
  unfold mOpens
  by_cases c : S (5 + 3 * r + 2) = 1
  · rw [iif_t c, iif_t c, iif_t c]
    refine ⟨fun q q0 q8 => ⟨⟨rfl, rfl⟩, ?_⟩, fun j _ => rfl, rfl, rfl⟩
    unfold iif; split
    · rename_i h; rw [h]; exact c
    · rfl
  · rw [iif_f c, iif_f c, iif_f c]
    unfold mOp3 mOp2 mOp1 u1
    refine ⟨fun q q0 q8 => ⟨⟨?_, ?_⟩, ?_⟩, fun j hj => ?_, ?_, ?_⟩
    · rw [if_neg (by omega), if_neg (by omega), if_neg (by omega)]
    · rw [if_neg (by omega), if_neg (by omega), if_neg (by omega)]
    · rw [if_neg (by omega), if_neg (by omega)]
      unfold iif
      by_cases c2 : q = r
      · rw [if_pos c2, if_pos (by omega)]
      · rw [if_neg c2, if_neg (by omega)]
    · rw [if_neg (by omega), if_neg (by omega), if_neg (by omega)]
    · rw [if_neg (by omega), if_pos rfl, if_neg (by omega)]
    · rw [if_pos rfl, if_neg (by omega), if_neg (by omega), if_neg (by omega), if_neg (by omega)]
theorem refT_0 {S : Int → Int} {a b c : Int} (hI : IM S) (hV : rV S) : mRefT S a b c = 0 ↔ bVal a b c ∧ ¬ mGets S a b c (S 0) = -1 ∧ S 1 < 20 := by
  unfold mRefT bVal
  have h := hI.2.1
  unfold iif
  split
  · rename_i h1
    split
    · rename_i h2
      exact ⟨fun q => by omega, fun q => absurd h2 q.2.1⟩
    · rename_i h2
      split
      · exact ⟨fun q => by omega, fun q => by omega⟩
      · exact ⟨fun _ => ⟨h1, h2, by omega⟩, fun _ => rfl⟩
  · rename_i h1
    exact ⟨fun q => by omega, fun q => absurd q.1 h1⟩
theorem telR_eq {S : Int → Int} {O : Nat → Bool} {G F E Z P R C : Int → Int} {T : Int → Nat → Bool} (h : rB S O G F E Z P R C T) {a b c : Int} (hv : bVal a b c) : bTelR O G R C T a b c = mGets S a b c (S 0) := by
  unfold bTelR
  unfold bVal at hv
  have h0 := h.2.2.1.1.1
  rw [h.2.1.2.1.1]
  exact for_eq h.1.1 h.1.2.1 h.1.2.2 c (by omega) h0
theorem telC_iff {S : Int → Int} {O : Nat → Bool} {G F E Z P R C : Int → Int} {T : Int → Nat → Bool} (h : rB S O G F E Z P R C T) {a b c : Int} : bTelC O G R C T a b c ↔ mRefT S a b c = 0 := by
  rw [refT_0 h.2.2.1.1 h.1.2.1]
  unfold bTelC
  rw [h.2.1.2.1.2]
  exact ⟨fun q => ⟨q.1, by rw [← telR_eq h q.1]; exact q.2.1, q.2.2⟩, fun q => ⟨q.1, by rw [telR_eq h q.1]; exact q.2.1, q.2.2⟩⟩
theorem telV_eq {S : Int → Int} {O : Nat → Bool} {G F E Z P R C : Int → Int} {T : Int → Nat → Bool} (h : rB S O G F E Z P R C T) {a b c : Int} : bTelV O G R C T a b c = iif (mRefT S a b c = 0) (mGets S a b c (S 0)) (mRefT S a b c) := by
  have q0 := refT_0 (a := a) (b := b) (c := c) h.2.2.1.1 h.1.2.1
  have h1 := h.2.2.1.1.2.1
  unfold bTelV
  by_cases hv : bVal a b c
  · rw [iif_t hv, telR_eq h hv, h.2.1.2.1.2]
    by_cases c1 : mGets S a b c (S 0) = -1
    · rw [iif_t c1, iif_f (fun q => (q0.mp q).2.1 c1)]
      unfold mRefT
      unfold bVal at hv
      rw [iif_t hv, iif_t c1]
    · rw [iif_f c1]
      by_cases c2 : 20 ≤ S 1
      · rw [iif_t c2, iif_f (fun q => by have := (q0.mp q).2.2; omega)]
        unfold mRefT
        unfold bVal at hv
        rw [iif_t hv, iif_f c1, iif_t (by omega)]
      · rw [iif_f c2, iif_t (q0.mpr ⟨hv, c1, by omega⟩)]
  · rw [iif_f hv, iif_f (fun q => hv (q0.mp q).1)]
    unfold mRefT
    exact (iif_f hv).symm
theorem tel_at (S : Int → Int) (a b c r : Int) (h1 : 0 ≤ S 1 ∧ S 1 < 20) : mTel1 S a b c r 1 = S 1 + 1 ∧ (∀ j, j = 0 ∨ (2 ≤ j ∧ j < 29) → mTel1 S a b c r j = S j) ∧ ((mTel1 S a b c r (29 + 4 * (S 1) + 0) = a ∧ mTel1 S a b c r (29 + 4 * (S 1) + 1) = b) ∧ mTel1 S a b c r (29 + 4 * (S 1) + 2) = c ∧ mTel1 S a b c r (29 + 4 * (S 1) + 3) = r) ∧ ∀ u, 0 ≤ u → ¬ u = S 1 → (mTel1 S a b c r (29 + 4 * u + 0) = S (29 + 4 * u + 0) ∧ mTel1 S a b c r (29 + 4 * u + 1) = S (29 + 4 * u + 1)) ∧ mTel1 S a b c r (29 + 4 * u + 2) = S (29 + 4 * u + 2) ∧ mTel1 S a b c r (29 + 4 * u + 3) = S (29 + 4 * u + 3) := by
  unfold mTel1 mTel u1
  refine ⟨?_, fun j hj => ?_, ⟨⟨?_, ?_⟩, ?_, ?_⟩, fun u u0 hu => ⟨⟨?_, ?_⟩, ?_, ?_⟩⟩
  · rw [if_pos rfl, if_neg (by omega), if_neg (by omega), if_neg (by omega), if_neg (by omega)]
  · rw [if_neg (by omega), if_neg (by omega), if_neg (by omega), if_neg (by omega), if_neg (by omega)]
  · rw [if_neg (by omega), if_neg (by omega), if_neg (by omega), if_neg (by omega), if_pos rfl]
  · rw [if_neg (by omega), if_neg (by omega), if_neg (by omega), if_pos rfl]
  · rw [if_neg (by omega), if_neg (by omega), if_pos rfl]
  · rw [if_neg (by omega), if_pos rfl]
  · rw [if_neg (by omega), if_neg (by omega), if_neg (by omega), if_neg (by omega), if_neg (by omega)]
  · rw [if_neg (by omega), if_neg (by omega), if_neg (by omega), if_neg (by omega), if_neg (by omega)]
  · rw [if_neg (by omega), if_neg (by omega), if_neg (by omega), if_neg (by omega), if_neg (by omega)]
  · rw [if_neg (by omega), if_neg (by omega), if_neg (by omega), if_neg (by omega), if_neg (by omega)]
theorem putG_at (O : Nat → Bool) (G C : Int → Int) (r : Int) : bPutG O G C r 10 = iif (O r.toNat = true) (G 10) (G 10 + 1) ∧ bPutG O G C r 11 = iif (O r.toNat = true) (G 11) (G 11 + C r) := by
  unfold bPutG
  by_cases c : O r.toNat = true
  · rw [iif_t c, iif_t c, iif_t c]; exact ⟨rfl, rfl⟩
  · rw [iif_f c, iif_f c, iif_f c, u1_s, u1_n (by omega), u1_s]; exact ⟨rfl, rfl⟩
theorem open_iif {S : Int → Int} {O : Nat → Bool} {R C : Int → Int} (hR : rR S O R C) {r : Int} (hr : 0 ≤ r ∧ r < 8) {α : Type} (x y : α) : iif (O r.toNat = true) x y = iif (S (5 + 3 * r + 2) = 1) x y := by
  rw [propext (hR r hr.1 hr.2).2.1.1]
theorem rM_opens {S : Int → Int} {O : Nat → Bool} {R C : Int → Int} (hR : rR S O R C) (h : rM S) {r : Int} (hr : 0 ≤ r ∧ r < 8) : rM (mOpens S r) := by
  have h1 := opens_at S hr
  have hq := hR r hr.1 hr.2
  have e3 := h1.2.2.2
  have q3 : S 3 ≤ mOpens S r 3 ∧ 1 ≤ mOpens S r 3 := by
    rw [e3]
    by_cases c : S (5 + 3 * r + 2) = 1
    · rw [iif_t c]; exact ⟨Int.le_refl _, h.2 r hr.1 hr.2 c⟩
    · rw [iif_f c]; have := h.1; omega
  exact ⟨by have := h.1; omega, fun q q0 q8 hq => q3.2⟩
theorem tell_rel {S : Int → Int} {O : Nat → Bool} {G F E Z P R C : Int → Int} {T : Int → Nat → Bool} (h : rB S O G F E Z P R C T) {a b c : Int} (hc : bTelC O G R C T a b c) : rB (mTells S a b c) (bPutO O (bTelR O G R C T a b c)) (bTelG O G C (bTelR O G R C T a b c)) (u1 F (G 8) a) (u1 E (G 8) b) (u1 Z (G 8) c) (u1 P (G 8) (bTelR O G R C T a b c)) R C (bPutT T (u1 F (G 8) a) (u1 E (G 8) b) (G 8) (bTelR O G R C T a b c)) := by
  have hb := IBG_do (O := O) (T := T) h.2.2.1.2 116 a b c
  have hI := h.2.2.1.1
  have h1 := hI.2.1
  have hV := h.1.2.1
  have h8 := h.2.1.2.1.2
  have hr0 := (telC_iff h).mp hc
  have hrr := (refT_0 hI hV).mp hr0
  obtain ⟨hv, hg, h20⟩ := hrr
  have hbR : dR O G F E Z P R C T 116 a b c = R := by unfold dR; exact iif_f (by omega)
  have hbC : dC O G F E Z P R C T 116 a b c = C := by unfold dC; exact iif_f (by omega)
  rw [hbR, hbC] at hb
  unfold dG dF dE dZ dP at hb
  rw [iif_t rfl, iif_t hc, iif_t rfl, iif_t hc, iif_t rfl, iif_t hc, iif_t rfl, iif_t hc, iif_t rfl, iif_t hc] at hb
  have e1 := telR_eq h hv
  rw [e1] at hb ⊢
  rw [h8] at hb ⊢
  have hok := (gets_ok hV a b c (S 0)).resolve_left hg
  unfold mTells
  have hi4 : mGets S a b c (S 0) = mGets S a b c (S 0) := rfl
  have hIM := IM_tells hI (f := a) (e := b) (z := c) h20 (by unfold bVal at hv; omega) (by unfold bVal at hv; omega) (by unfold bVal at hv; omega) hg
  unfold mTells at hIM
  unfold bVal at hv
  generalize mGets S a b c (S 0) = r at *
  have t1 := tel_at S a b c r ⟨h1.1, h20⟩
  have o1 := opens_at (mTel1 S a b c r) hok.1
  have z1 : mOpens (mTel1 S a b c r) r 1 = S 1 + 1 := by rw [o1.2.1 1 (by omega)]; exact t1.1
  have zr : ∀ q, 0 ≤ q → q < 8 → (mOpens (mTel1 S a b c r) r (5 + 3 * q + 0) = S (5 + 3 * q + 0) ∧ mOpens (mTel1 S a b c r) r (5 + 3 * q + 1) = S (5 + 3 * q + 1)) ∧ mOpens (mTel1 S a b c r) r (5 + 3 * q + 2) = iif (q = r) 1 (S (5 + 3 * q + 2)) := by
    intro q q0 q8
    have x := o1.1 q q0 q8
    rw [t1.2.1 _ (by omega)] at x
    rw [t1.2.1 _ (by omega)] at x
    rw [t1.2.1 _ (by omega)] at x
    exact x
  have zt : ∀ j, 29 ≤ j → mOpens (mTel1 S a b c r) r j = mTel1 S a b c r j := fun j hj => o1.2.1 j (by omega)
  have zs : (mOpens (mTel1 S a b c r) r (29 + 4 * (S 1) + 0) = a ∧ mOpens (mTel1 S a b c r) r (29 + 4 * (S 1) + 1) = b) ∧ mOpens (mTel1 S a b c r) r (29 + 4 * (S 1) + 2) = c ∧ mOpens (mTel1 S a b c r) r (29 + 4 * (S 1) + 3) = r := by
    rw [zt _ (by omega), zt _ (by omega), zt _ (by omega), zt _ (by omega)]; exact t1.2.2.1
  have zu : ∀ u, 0 ≤ u → ¬ u = S 1 → (mOpens (mTel1 S a b c r) r (29 + 4 * u + 0) = S (29 + 4 * u + 0) ∧ mOpens (mTel1 S a b c r) r (29 + 4 * u + 1) = S (29 + 4 * u + 1)) ∧ mOpens (mTel1 S a b c r) r (29 + 4 * u + 2) = S (29 + 4 * u + 2) ∧ mOpens (mTel1 S a b c r) r (29 + 4 * u + 3) = S (29 + 4 * u + 3) := by
    intro u u0 hu
    rw [zt _ (by omega), zt _ (by omega), zt _ (by omega), zt _ (by omega)]; exact t1.2.2.2 u u0 hu
  have pg := putG_at O G C r
  have so : mTel1 S a b c r (5 + 3 * r + 2) = S (5 + 3 * r + 2) := t1.2.1 _ (by omega)
  have sc : mTel1 S a b c r (5 + 3 * r + 1) = S (5 + 3 * r + 1) := t1.2.1 _ (by omega)
  refine ⟨put_core h.1 hok.1 (t := S 1) (by omega) (by omega) (fun u u0 u1 hu => by omega) (fun q => by omega) (f := a) (e := b) (z := c) (zz := c) (by omega) zs (fun u u0 u1 hu => zu u u0 hu) zr hok.2 ⟨u1_s, u1_s⟩, ⟨⟨fun t t0 t1' => ?_, fun t t0 t1' => ?_⟩, ⟨⟨?_, ?_⟩, ⟨?_, ?_⟩, ?_⟩⟩, ⟨hIM, hb⟩, ?_⟩
  · rw [z1] at t1'
    by_cases q : t = S 1
    · rw [q, u1_s, u1_s, u1_s, u1_s, zs.1.1, zs.1.2, zs.2.1, zs.2.2]; exact ⟨⟨rfl, rfl⟩, rfl, rfl⟩
    · have g := zu t t0 q
      rw [u1_n q, u1_n q, u1_n q, u1_n q, g.1.1, g.1.2, g.2.1, g.2.2]
      exact h.2.1.1.1 t t0 (by omega)
  · rw [z1] at t0
    rw [u1_n (by omega)]
    exact h.2.1.1.2 t (by omega) t1'
  · unfold bTelG
    rw [u1_n (by omega), bPutG_k (by omega), o1.2.1 0 (by omega), t1.2.1 0 (by omega)]
    exact h.2.1.2.1.1
  · unfold bTelG
    rw [u1_s, bPutG_k (by omega), z1, h8]
  · unfold bTelG
    rw [u1_n (by omega), pg.1, o1.2.2.1, so, t1.2.1 2 (by omega), open_iif h.1.1 hok.1, h.2.1.2.2.1.1]
  · unfold bTelG
    rw [u1_n (by omega), pg.2, o1.2.2.2, so, sc, t1.2.1 3 (by omega), open_iif h.1.1 hok.1, h.2.1.2.2.1.2, (h.1.1 r hok.1.1 hok.1.2).1.2]
  · unfold bTelG
    rw [u1_n (by omega), bPutG_k (by omega), o1.2.1 4 (by omega), t1.2.1 4 (by omega)]
    exact h.2.1.2.2.2
  · refine rM_opens (O := O) (R := R) (C := C) (fun q q0 q8 => ?_) ⟨?_, fun q q0 q8 => ?_⟩ hok.1
    · rw [t1.2.1 _ (by omega), t1.2.1 _ (by omega), t1.2.1 _ (by omega)]
      exact h.1.1 q q0 q8
    · rw [t1.2.1 3 (by omega)]; exact h.2.2.2.1
    · rw [t1.2.1 3 (by omega), t1.2.1 _ (by omega)]; exact h.2.2.2.2 q q0 q8
