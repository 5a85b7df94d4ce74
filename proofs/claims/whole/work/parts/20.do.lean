/-! orders done; texts run -/
noncomputable def dV (O : Nat → Bool) (G : Int → Int) (F : Int → Int) (E : Int → Int) (Z : Int → Int) (P : Int → Int) (R : Int → Int) (C : Int → Int) (T : Int → Nat → Bool) (k a b c : Int) : Int := iif (k = 116) (bTelV O G R C T a b c) (iif (k = 119) (iif (¬ bPl P a = -1) (bPl P a) (-1000001)) (iif (k = 114) (bFuV O R C a b c) (iif (k = 117) (iif (0 ≤ a ∧ a ≤ 3) (G 12) (-1000001)) (-1000001))))
noncomputable def dO (O : Nat → Bool) (G : Int → Int) (F : Int → Int) (E : Int → Int) (Z : Int → Int) (P : Int → Int) (R : Int → Int) (C : Int → Int) (T : Int → Nat → Bool) (k a b c : Int) : Nat → Bool := iif (k = 116) (iif (bTelC O G R C T a b c) (bPutO O (bTelR O G R C T a b c)) O) O
noncomputable def dG (O : Nat → Bool) (G : Int → Int) (F : Int → Int) (E : Int → Int) (Z : Int → Int) (P : Int → Int) (R : Int → Int) (C : Int → Int) (T : Int → Nat → Bool) (k a b c : Int) : Int → Int := iif (k = 116) (iif (bTelC O G R C T a b c) (bTelG O G C (bTelR O G R C T a b c)) G) (iif (k = 119) (iif (¬ bPl P a = -1) (u1 G 9 (G 9 + 1)) G) (iif (k = 117) (iif (0 ≤ a ∧ a ≤ 3) (u1 G 12 a) G) G))
noncomputable def dF (O : Nat → Bool) (G : Int → Int) (F : Int → Int) (E : Int → Int) (Z : Int → Int) (P : Int → Int) (R : Int → Int) (C : Int → Int) (T : Int → Nat → Bool) (k a b c : Int) : Int → Int := iif (k = 116) (iif (bTelC O G R C T a b c) (u1 F (G 8) a) F) F
noncomputable def dE (O : Nat → Bool) (G : Int → Int) (F : Int → Int) (E : Int → Int) (Z : Int → Int) (P : Int → Int) (R : Int → Int) (C : Int → Int) (T : Int → Nat → Bool) (k a b c : Int) : Int → Int := iif (k = 116) (iif (bTelC O G R C T a b c) (u1 E (G 8) b) E) E
noncomputable def dZ (O : Nat → Bool) (G : Int → Int) (F : Int → Int) (E : Int → Int) (Z : Int → Int) (P : Int → Int) (R : Int → Int) (C : Int → Int) (T : Int → Nat → Bool) (k a b c : Int) : Int → Int := iif (k = 116) (iif (bTelC O G R C T a b c) (u1 Z (G 8) c) Z) Z
noncomputable def dP (O : Nat → Bool) (G : Int → Int) (F : Int → Int) (E : Int → Int) (Z : Int → Int) (P : Int → Int) (R : Int → Int) (C : Int → Int) (T : Int → Nat → Bool) (k a b c : Int) : Int → Int := iif (k = 116) (iif (bTelC O G R C T a b c) (u1 P (G 8) (bTelR O G R C T a b c)) P) (iif (k = 119) (iif (¬ bPl P a = -1) (u1 P a (-1)) P) P)
noncomputable def dR (O : Nat → Bool) (G : Int → Int) (F : Int → Int) (E : Int → Int) (Z : Int → Int) (P : Int → Int) (R : Int → Int) (C : Int → Int) (T : Int → Nat → Bool) (k a b c : Int) : Int → Int := iif (k = 114) (iif (bFuC O a b c) (u1 R a b) R) R
noncomputable def dC (O : Nat → Bool) (G : Int → Int) (F : Int → Int) (E : Int → Int) (Z : Int → Int) (P : Int → Int) (R : Int → Int) (C : Int → Int) (T : Int → Nat → Bool) (k a b c : Int) : Int → Int := iif (k = 114) (iif (bFuC O a b c) (u1 C a c) C) C
noncomputable def dT (O : Nat → Bool) (G : Int → Int) (F : Int → Int) (E : Int → Int) (Z : Int → Int) (P : Int → Int) (R : Int → Int) (C : Int → Int) (T : Int → Nat → Bool) (k a b c : Int) : Int → Nat → Bool := iif (k = 116) (iif (bTelC O G R C T a b c) (bPutT T (u1 F (G 8) a) (u1 E (G 8) b) (G 8) (bTelR O G R C T a b c)) T) (iif (k = 119) (iif (¬ bPl P a = -1) (bOutT T F E a (bPl P a)) T) T)
theorem IB_tel {F E Z P R C : Int → Int} (h : IB F E Z P R C) {n a b c r : Int} (hv : bVal a b c) (hr : 0 ≤ r ∧ r ≤ 7) : IB (u1 F n a) (u1 E n b) (u1 Z n c) (u1 P n r) R C := by
  refine ⟨fun j h0 h1 => ?_, h.2⟩
  have hj := h.1 j h0 h1
  unfold bVal at hv
  by_cases q : j = n
  · subst q
    rw [u1_s, u1_s, u1_s, u1_s]
    exact ⟨by omega, by omega, fun _ => by omega⟩
  · rw [u1_n q, u1_n q, u1_n q, u1_n q]
    exact hj
theorem IB_out {F E Z P R C : Int → Int} (h : IB F E Z P R C) (t : Int) : IB F E Z (u1 P t (-1)) R C := by
  refine ⟨fun j h0 h1 => ?_, h.2⟩
  have hj := h.1 j h0 h1
  by_cases q : j = t
  · subst q
    rw [u1_s]
    exact ⟨by omega, hj.2.1, fun h => absurd rfl h⟩
  · rw [u1_n q]; exact hj
theorem IB_fur {F E Z P R C : Int → Int} (h : IB F E Z P R C) {r z c : Int} (hz : 1 ≤ z ∧ z ≤ 9) (hc : 1 ≤ c ∧ c ≤ 99) : IB F E Z P (u1 R r z) (u1 C r c) := by
  refine ⟨h.1, fun j h0 h1 => ?_⟩
  have hj := h.2 j h0 h1
  by_cases q : j = r
  · subst q; rw [u1_s, u1_s]; exact ⟨hz, hc⟩
  · rw [u1_n q, u1_n q]; exact hj
theorem bPutG_k {O : Nat → Bool} {G C : Int → Int} {r j : Int} (h : ¬ j = 10 ∧ ¬ j = 11) : bPutG O G C r j = G j := by
  unfold bPutG
  by_cases c : O r.toNat = true
  · rw [iif_t c]
  · rw [iif_f c, u1_n h.2, u1_n h.1]
/-- what every board keeps -/
def IBG (G F E Z P R C : Int → Int) : Prop := IB F E Z P R C ∧ (0 ≤ G 12 ∧ G 12 ≤ 3) ∧ 0 ≤ G 8 ∧ G 8 ≤ 20
theorem bTelR_rg {G F E Z P R C : Int → Int} (h : IB F E Z P R C) (O : Nat → Bool) (T : Int → Nat → Bool) {a b c : Int} (hv : bVal a b c) : -1 ≤ bTelR O G R C T a b c ∧ bTelR O G R C T a b c ≤ 7 := by
  unfold bVal at hv
  exact bFor_rg h O T b c (G 12) (by omega)
theorem IBG_do {O : Nat → Bool} {G F E Z P R C : Int → Int} {T : Int → Nat → Bool} (h : IBG G F E Z P R C) (k a b c : Int) : IBG (dG O G F E Z P R C T k a b c) (dF O G F E Z P R C T k a b c) (dE O G F E Z P R C T k a b c) (dZ O G F E Z P R C T k a b c) (dP O G F E Z P R C T k a b c) (dR O G F E Z P R C T k a b c) (dC O G F E Z P R C T k a b c) := by
  have hh := h
  obtain ⟨hB, h12, h8⟩ := h
  unfold dG dF dE dZ dP dR dC
  by_cases k1 : k = 116
  · have n2 : ¬ k = 114 := by omega
    simp only [iif_t k1, iif_f n2]
    by_cases q : bTelC O G R C T a b c
    · simp only [iif_t q]
      have hr := bTelR_rg (G := G) hB O T q.1
      have h9 := q.2.1
      have h10 := q.2.2
      refine ⟨IB_tel hB q.1 (by omega), ?_, ?_⟩
      · unfold bTelG
        rw [u1_n (by omega), bPutG_k (by omega)]
        exact h12
      · unfold bTelG
        rw [u1_s, bPutG_k (by omega)]
        omega
    · simp only [iif_f q]
      exact hh
  · simp only [iif_f k1]
    by_cases k2 : k = 119
    · have n2 : ¬ k = 114 := by omega
      simp only [iif_t k2, iif_f n2]
      by_cases q : ¬ bPl P a = -1
      · simp only [iif_t q]
        refine ⟨IB_out hB a, ?_, ?_⟩
        · rw [u1_n (by omega)]; exact h12
        · rw [u1_n (by omega)]; exact h8
      · simp only [iif_f q]
        exact hh
    · simp only [iif_f k2]
      by_cases k3 : k = 114
      · have n2 : ¬ k = 117 := by omega
        simp only [iif_t k3, iif_f n2]
        by_cases q : bFuC O a b c
        · simp only [iif_t q]
          exact ⟨IB_fur hB q.1.2.1 q.1.2.2, h12, h8⟩
        · simp only [iif_f q]
          exact hh
      · simp only [iif_f k3]
        by_cases k4 : k = 117
        · simp only [iif_t k4]
          by_cases q : 0 ≤ a ∧ a ≤ 3
          · simp only [iif_t q]
            refine ⟨hB, ?_, ?_⟩
            · rw [u1_s]; exact q
            · rw [u1_n (by omega)]; exact h8
          · simp only [iif_f q]
            exact hh
        · simp only [iif_f k4]
          exact hh
theorem dV_rg {O : Nat → Bool} {G F E Z P R C : Int → Int} {T : Int → Nat → Bool} (h : IBG G F E Z P R C) (k a b c : Int) : -1000003 ≤ dV O G F E Z P R C T k a b c ∧ dV O G F E Z P R C T k a b c ≤ 1000 := by
  obtain ⟨hB, h12, h8⟩ := h
  unfold dV
  by_cases k1 : k = 116
  · rw [iif_t k1]
    unfold bTelV
    by_cases q : bVal a b c
    · have hr := bTelR_rg (G := G) hB O T q
      rw [iif_t q]
      unfold iif
      split
      · omega
      · split <;> omega
    · rw [iif_f q]; omega
  · rw [iif_f k1]
    have hp := bPl_rg hB a
    by_cases k2 : k = 119
    · rw [iif_t k2]
      unfold iif; split <;> omega
    · rw [iif_f k2]
      by_cases k3 : k = 114
      · rw [iif_t k3]
        unfold bFuV
        by_cases q : (0 ≤ a ∧ a ≤ 7) ∧ (1 ≤ b ∧ b ≤ 9) ∧ (1 ≤ c ∧ c ≤ 99)
        · rw [iif_t q]
          have := ibR hB a (by omega)
          unfold iif; split <;> omega
        · rw [iif_f q]; omega
      · rw [iif_f k3]
        unfold iif
        split
        · split <;> omega
        · omega
theorem cN_in {T N : Int → Int} {j a n : Int} (h : mN1 T 1 a n) : cN T N j a n = u1 N j (mNv T 1 a n) := iif_t h
/-- the numbers of an order that was read -/
theorem cRd_ok {T N : Int → Int} {a n : Int} (h : (cRd T N a n).1) : (0 ≤ (cRd T N a n).2.2 0 ∧ (cRd T N a n).2.2 0 ≤ 99) ∧ (mSg T a n = 116 ∨ mSg T a n = 119 ∨ mSg T a n = 114 ∨ mSg T a n = 117) ∧ ((mSg T a n = 116 ∨ mSg T a n = 114) → (0 ≤ (cRd T N a n).2.2 1 ∧ (cRd T N a n).2.2 1 ≤ 99) ∧ 0 ≤ (cRd T N a n).2.2 2 ∧ (cRd T N a n).2.2 2 ≤ 99) := by
  by_cases c3 : oP3 T a n
  · have e : cRd T N a n = cR3 T N (a + 1) n := iif_t c3
    rw [e] at h ⊢
    generalize a + 1 = a1 at h ⊢
    unfold cR3 at h ⊢
    by_cases p1 : mN1 T 1 a1 n
    · by_cases p2 : mWs T 1 (mNa T 1 a1 n) n 44
      · rw [cS_t p1 p2] at h ⊢
        generalize cA T 44 a1 n = a2 at h ⊢
        unfold cQ2 at h ⊢
        by_cases p3 : mN1 T 1 a2 n
        · by_cases p4 : mWs T 1 (mNa T 1 a2 n) n 44
          · rw [cS_t p3 p4] at h ⊢
            generalize cA T 44 a2 n = a3 at h ⊢
            unfold cQ3 at h ⊢
            by_cases p5 : mN1 T 1 a3 n
            · by_cases p6 : mWs T 1 (mNa T 1 a3 n) n 59
              · rw [cS_t p5 p6] at h ⊢
                have q1 := mNv_ok p1
                have q3 := mNv_ok p3
                have q5 := mNv_ok p5
                have e0 : cN T (cN T (cN T N 0 a1 n) 1 a2 n) 2 a3 n 0 = mNv T 1 a1 n := by rw [cN_in p5, u1_n (by omega), cN_in p3, u1_n (by omega), cN_in p1, u1_s]
                have e1 : cN T (cN T (cN T N 0 a1 n) 1 a2 n) 2 a3 n 1 = mNv T 1 a2 n := by rw [cN_in p5, u1_n (by omega), cN_in p3, u1_s]
                have e2 : cN T (cN T (cN T N 0 a1 n) 1 a2 n) 2 a3 n 2 = mNv T 1 a3 n := by rw [cN_in p5, u1_s]
                dsimp only
                rw [e0, e1, e2]
                unfold oP3 at c3
                exact ⟨q1, by omega, fun _ => ⟨q3, q5⟩⟩
              · rw [cS_f p5 p6] at h; exact h.elim
            · rw [cS_e p5] at h; exact h.elim
          · rw [cS_f p3 p4] at h; exact h.elim
        · rw [cS_e p3] at h; exact h.elim
      · rw [cS_f p1 p2] at h; exact h.elim
    · rw [cS_e p1] at h; exact h.elim
  · by_cases c1 : oK1 T a n
    · have e : cRd T N a n = cR1 T N (a + 1) n := by unfold cRd; rw [iif_f c3, iif_t c1]
      rw [e] at h ⊢
      generalize a + 1 = a1 at h ⊢
      unfold cR1 at h ⊢
      by_cases p1 : mN1 T 1 a1 n
      · by_cases p2 : mWs T 1 (mNa T 1 a1 n) n 59
        · rw [cS_t p1 p2] at h ⊢
          have q1 := mNv_ok p1
          have e0 : cN T N 0 a1 n 0 = mNv T 1 a1 n := by rw [cN_in p1, u1_s]
          dsimp only
          rw [e0]
          unfold oK1 at c1
          exact ⟨q1, by omega, fun h => by omega⟩
        · rw [cS_f p1 p2] at h; exact h.elim
      · rw [cS_e p1] at h; exact h.elim
    · have e : cRd T N a n = (False, a, N) := by unfold cRd; rw [iif_f c3, iif_f c1]
      rw [e] at h; exact h.elim
