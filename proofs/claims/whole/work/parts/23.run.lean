/-! texts run, by the class -/
noncomputable def cRun (t : Int → Int) (n : Int) : Nat → Int → (Int → Int) → (Int → Int) → (Int → Int) → (Nat → Bool) → (Int → Int) → (Int → Int) → (Int → Int) → (Int → Int) → (Int → Int) → (Int → Int) → (Int → Int) → (Int → Nat → Bool) → Prop × (Int → Int) × (Int → Int) × (Int → Int) × (Nat → Bool) × (Int → Int) × (Int → Int) × (Int → Int) × (Int → Int) × (Int → Int) × (Int → Int) × (Int → Int) × (Int → Nat → Bool)
  | 0, _, x, g, N, O, G, F, E, Z, P, R, C, T => (True, x, g, N, O, G, F, E, Z, P, R, C, T)
  | k + 1, a, x, g, N, O, G, F, E, Z, P, R, C, T => iif (a < n) (iif (cRd t N a n).1 (iif (dV O G F E Z P R C T (mSg t a n) ((cRd t N a n).2.2 0) ((cRd t N a n).2.2 1) ((cRd t N a n).2.2 2) < 0)
      (False, (u1 (u1 (u1 x 4 (a)) 5 (2)) 6 (dV O G F E Z P R C T (mSg t a n) ((cRd t N a n).2.2 0) ((cRd t N a n).2.2 1) ((cRd t N a n).2.2 2))), (u1 (u1 g 1 (mSg t a n)) 2 (cRd t N a n).2.1), (cRd t N a n).2.2, dO O G F E Z P R C T (mSg t a n) ((cRd t N a n).2.2 0) ((cRd t N a n).2.2 1) ((cRd t N a n).2.2 2), dG O G F E Z P R C T (mSg t a n) ((cRd t N a n).2.2 0) ((cRd t N a n).2.2 1) ((cRd t N a n).2.2 2), dF O G F E Z P R C T (mSg t a n) ((cRd t N a n).2.2 0) ((cRd t N a n).2.2 1) ((cRd t N a n).2.2 2), dE O G F E Z P R C T (mSg t a n) ((cRd t N a n).2.2 0) ((cRd t N a n).2.2 1) ((cRd t N a n).2.2 2), dZ O G F E Z P R C T (mSg t a n) ((cRd t N a n).2.2 0) ((cRd t N a n).2.2 1) ((cRd t N a n).2.2 2), dP O G F E Z P R C T (mSg t a n) ((cRd t N a n).2.2 0) ((cRd t N a n).2.2 1) ((cRd t N a n).2.2 2), dR O G F E Z P R C T (mSg t a n) ((cRd t N a n).2.2 0) ((cRd t N a n).2.2 1) ((cRd t N a n).2.2 2), dC O G F E Z P R C T (mSg t a n) ((cRd t N a n).2.2 0) ((cRd t N a n).2.2 1) ((cRd t N a n).2.2 2), dT O G F E Z P R C T (mSg t a n) ((cRd t N a n).2.2 0) ((cRd t N a n).2.2 1) ((cRd t N a n).2.2 2))
      (cRun t n k (cRd t N a n).2.1 (u1 x 3 (x 3 + 1)) (u1 (u1 g 1 (mSg t a n)) 2 (cRd t N a n).2.1) (cRd t N a n).2.2 (dO O G F E Z P R C T (mSg t a n) ((cRd t N a n).2.2 0) ((cRd t N a n).2.2 1) ((cRd t N a n).2.2 2)) (dG O G F E Z P R C T (mSg t a n) ((cRd t N a n).2.2 0) ((cRd t N a n).2.2 1) ((cRd t N a n).2.2 2)) (dF O G F E Z P R C T (mSg t a n) ((cRd t N a n).2.2 0) ((cRd t N a n).2.2 1) ((cRd t N a n).2.2 2)) (dE O G F E Z P R C T (mSg t a n) ((cRd t N a n).2.2 0) ((cRd t N a n).2.2 1) ((cRd t N a n).2.2 2)) (dZ O G F E Z P R C T (mSg t a n) ((cRd t N a n).2.2 0) ((cRd t N a n).2.2 1) ((cRd t N a n).2.2 2)) (dP O G F E Z P R C T (mSg t a n) ((cRd t N a n).2.2 0) ((cRd t N a n).2.2 1) ((cRd t N a n).2.2 2)) (dR O G F E Z P R C T (mSg t a n) ((cRd t N a n).2.2 0) ((cRd t N a n).2.2 1) ((cRd t N a n).2.2 2)) (dC O G F E Z P R C T (mSg t a n) ((cRd t N a n).2.2 0) ((cRd t N a n).2.2 1) ((cRd t N a n).2.2 2)) (dT O G F E Z P R C T (mSg t a n) ((cRd t N a n).2.2 0) ((cRd t N a n).2.2 1) ((cRd t N a n).2.2 2))))
      (False, (u1 (u1 (u1 x 4 (a)) 5 (1)) 6 ((cRd t N a n).2.1 - a)), (u1 (u1 g 1 (mSg t a n)) 2 (cRd t N a n).2.1), (cRd t N a n).2.2, O, G, F, E, Z, P, R, C, T)) (True, x, g, N, O, G, F, E, Z, P, R, C, T)
theorem cRun_e {t : Int → Int} {n : Int} {k : Nat} {a : Int} {x g N : Int → Int} {O : Nat → Bool} {G : Int → Int} {F : Int → Int} {E : Int → Int} {Z : Int → Int} {P : Int → Int} {R : Int → Int} {C : Int → Int} {T : Int → Nat → Bool} (h : ¬ a < n) : cRun t n k a x g N O G F E Z P R C T = (True, x, g, N, O, G, F, E, Z, P, R, C, T) := by
  cases k with
  | zero => rfl
  | succ k => rw [cRun, iif_f h]
theorem cRun_n {t : Int → Int} {n : Int} {k : Nat} {a : Int} {x g N : Int → Int} {O : Nat → Bool} {G : Int → Int} {F : Int → Int} {E : Int → Int} {Z : Int → Int} {P : Int → Int} {R : Int → Int} {C : Int → Int} {T : Int → Nat → Bool} (h : a < n) (h2 : ¬ (cRd t N a n).1) : cRun t n (k + 1) a x g N O G F E Z P R C T = (False, (u1 (u1 (u1 x 4 (a)) 5 (1)) 6 ((cRd t N a n).2.1 - a)), (u1 (u1 g 1 (mSg t a n)) 2 (cRd t N a n).2.1), (cRd t N a n).2.2, O, G, F, E, Z, P, R, C, T) := by
  rw [cRun, iif_t h, iif_f h2]
theorem cRun_f {t : Int → Int} {n : Int} {k : Nat} {a : Int} {x g N : Int → Int} {O : Nat → Bool} {G : Int → Int} {F : Int → Int} {E : Int → Int} {Z : Int → Int} {P : Int → Int} {R : Int → Int} {C : Int → Int} {T : Int → Nat → Bool} (h : a < n) (h2 : (cRd t N a n).1) (h3 : dV O G F E Z P R C T (mSg t a n) ((cRd t N a n).2.2 0) ((cRd t N a n).2.2 1) ((cRd t N a n).2.2 2) < 0) : cRun t n (k + 1) a x g N O G F E Z P R C T = (False, (u1 (u1 (u1 x 4 (a)) 5 (2)) 6 (dV O G F E Z P R C T (mSg t a n) ((cRd t N a n).2.2 0) ((cRd t N a n).2.2 1) ((cRd t N a n).2.2 2))), (u1 (u1 g 1 (mSg t a n)) 2 (cRd t N a n).2.1), (cRd t N a n).2.2, dO O G F E Z P R C T (mSg t a n) ((cRd t N a n).2.2 0) ((cRd t N a n).2.2 1) ((cRd t N a n).2.2 2), dG O G F E Z P R C T (mSg t a n) ((cRd t N a n).2.2 0) ((cRd t N a n).2.2 1) ((cRd t N a n).2.2 2), dF O G F E Z P R C T (mSg t a n) ((cRd t N a n).2.2 0) ((cRd t N a n).2.2 1) ((cRd t N a n).2.2 2), dE O G F E Z P R C T (mSg t a n) ((cRd t N a n).2.2 0) ((cRd t N a n).2.2 1) ((cRd t N a n).2.2 2), dZ O G F E Z P R C T (mSg t a n) ((cRd t N a n).2.2 0) ((cRd t N a n).2.2 1) ((cRd t N a n).2.2 2), dP O G F E Z P R C T (mSg t a n) ((cRd t N a n).2.2 0) ((cRd t N a n).2.2 1) ((cRd t N a n).2.2 2), dR O G F E Z P R C T (mSg t a n) ((cRd t N a n).2.2 0) ((cRd t N a n).2.2 1) ((cRd t N a n).2.2 2), dC O G F E Z P R C T (mSg t a n) ((cRd t N a n).2.2 0) ((cRd t N a n).2.2 1) ((cRd t N a n).2.2 2), dT O G F E Z P R C T (mSg t a n) ((cRd t N a n).2.2 0) ((cRd t N a n).2.2 1) ((cRd t N a n).2.2 2)) := by
  rw [cRun, iif_t h, iif_t h2, iif_t h3]
theorem cRun_s {t : Int → Int} {n : Int} {k : Nat} {a : Int} {x g N : Int → Int} {O : Nat → Bool} {G : Int → Int} {F : Int → Int} {E : Int → Int} {Z : Int → Int} {P : Int → Int} {R : Int → Int} {C : Int → Int} {T : Int → Nat → Bool} (h : a < n) (h2 : (cRd t N a n).1) (h3 : ¬ dV O G F E Z P R C T (mSg t a n) ((cRd t N a n).2.2 0) ((cRd t N a n).2.2 1) ((cRd t N a n).2.2 2) < 0) : cRun t n (k + 1) a x g N O G F E Z P R C T = cRun t n k (cRd t N a n).2.1 (u1 x 3 (x 3 + 1)) (u1 (u1 g 1 (mSg t a n)) 2 (cRd t N a n).2.1) (cRd t N a n).2.2 (dO O G F E Z P R C T (mSg t a n) ((cRd t N a n).2.2 0) ((cRd t N a n).2.2 1) ((cRd t N a n).2.2 2)) (dG O G F E Z P R C T (mSg t a n) ((cRd t N a n).2.2 0) ((cRd t N a n).2.2 1) ((cRd t N a n).2.2 2)) (dF O G F E Z P R C T (mSg t a n) ((cRd t N a n).2.2 0) ((cRd t N a n).2.2 1) ((cRd t N a n).2.2 2)) (dE O G F E Z P R C T (mSg t a n) ((cRd t N a n).2.2 0) ((cRd t N a n).2.2 1) ((cRd t N a n).2.2 2)) (dZ O G F E Z P R C T (mSg t a n) ((cRd t N a n).2.2 0) ((cRd t N a n).2.2 1) ((cRd t N a n).2.2 2)) (dP O G F E Z P R C T (mSg t a n) ((cRd t N a n).2.2 0) ((cRd t N a n).2.2 1) ((cRd t N a n).2.2 2)) (dR O G F E Z P R C T (mSg t a n) ((cRd t N a n).2.2 0) ((cRd t N a n).2.2 1) ((cRd t N a n).2.2 2)) (dC O G F E Z P R C T (mSg t a n) ((cRd t N a n).2.2 0) ((cRd t N a n).2.2 1) ((cRd t N a n).2.2 2)) (dT O G F E Z P R C T (mSg t a n) ((cRd t N a n).2.2 0) ((cRd t N a n).2.2 1) ((cRd t N a n).2.2 2)) := by
  rw [cRun, iif_t h, iif_t h2, iif_f h3]
/-- where reading stops -/
theorem cRd_rg {T N : Int → Int} {a n : Int} (ha : 0 ≤ a ∧ a < n) (hn : n ≤ 60) : (a ≤ (cRd T N a n).2.1 ∧ (cRd T N a n).2.1 ≤ 60) ∧ ((cRd T N a n).1 → a < (cRd T N a n).2.1) := by
  have st : ∀ (N : Int → Int) (j c a : Int) (f : (Int → Int) → Int → Prop × Int × (Int → Int)) (b : Int), 0 ≤ b → b ≤ a → a ≤ 60 → ¬ c = 0 → (∀ N a, b ≤ a → a ≤ 60 → b ≤ (f N a).2.1 ∧ (f N a).2.1 ≤ 60) → b ≤ (cS T N j c a n f).2.1 ∧ (cS T N j c a n f).2.1 ≤ 60 := by
    intro N j c a f b hb hba ha60 hc hf
    have h1 := mNa_rg (T := T) (w := 1) (a := a) (n := n) (by omega) hn
    have h2 := mWs_rg (T := T) (w := 1) (a := mNa T 1 a n) (n := n) (c := c) (by omega) hn hc
    by_cases p1 : mN1 T 1 a n
    · by_cases p2 : mWs T 1 (mNa T 1 a n) n c
      · rw [cS_t p1 p2]
        exact hf _ _ (by unfold cA; omega) (by unfold cA; omega)
      · rw [cS_f p1 p2]
        show b ≤ cA T c a n ∧ cA T c a n ≤ 60
        unfold cA; omega
    · rw [cS_e p1]
      show b ≤ mNa T 1 a n ∧ mNa T 1 a n ≤ 60
      omega
  by_cases c3 : oP3 T a n
  · have e : cRd T N a n = cR3 T N (a + 1) n := iif_t c3
    have h : a + 1 ≤ (cR3 T N (a + 1) n).2.1 ∧ (cR3 T N (a + 1) n).2.1 ≤ 60 := by
      refine st _ _ _ _ _ (a + 1) (by omega) (by omega) (by omega) (by omega) (fun N b h1 h2 => ?_)
      refine st _ _ _ _ _ (a + 1) (by omega) (by omega) (by omega) (by omega) (fun N b h1 h2 => ?_)
      exact st _ _ _ _ _ (a + 1) (by omega) (by omega) (by omega) (by omega) (fun N b h1 h2 => ⟨h1, h2⟩)
    rw [e]
    exact ⟨⟨by omega, by omega⟩, fun _ => by omega⟩
  · by_cases c1 : oK1 T a n
    · have e : cRd T N a n = cR1 T N (a + 1) n := by unfold cRd; rw [iif_f c3, iif_t c1]
      have h : a + 1 ≤ (cR1 T N (a + 1) n).2.1 ∧ (cR1 T N (a + 1) n).2.1 ≤ 60 := st _ _ _ _ _ (a + 1) (by omega) (by omega) (by omega) (by omega) (fun N b h1 h2 => ⟨h1, h2⟩)
      rw [e]
      exact ⟨⟨by omega, by omega⟩, fun _ => by omega⟩
    · have e : cRd T N a n = (False, a, N) := by unfold cRd; rw [iif_f c3, iif_f c1]
      rw [e]
      exact ⟨⟨by show a ≤ a; omega, by show a ≤ 60; omega⟩, fun h => h.elim⟩
