/-! the start -/
theorem cst_at (v : Int) {n : Int} (h0 : 0 ≤ n) : ∀ j, fI (fun t (p : Int → Int) => u1 p t v) (fun _ => 0) n j = iif (0 ≤ j ∧ j < n) v 0 := by
  refine fI_ind (fun n (p : Int → Int) => ∀ j, p j = iif (0 ≤ j ∧ j < n) v 0) (fun j => (iif_f (by omega)).symm) (fun i p hi hin hp => ?_) h0
  intro j
  by_cases c : j = i
  · subst c
    rw [u1_s, iif_t (by omega)]
  · rw [u1_n c, hp j]
    by_cases d : 0 ≤ j ∧ j < i
    · rw [iif_t d, iif_t (show 0 ≤ j ∧ j < i + 1 by omega)]
    · rw [iif_f d, iif_f (show ¬ (0 ≤ j ∧ j < i + 1) by omega)]
theorem md_at (j : Int) : md0 j = iif (5 ≤ j ∧ j < 29 ∧ (j - 5) % 3 = 0) 9 (iif (5 ≤ j ∧ j < 29 ∧ (j - 5) % 3 = 1) 10 0) := by
  have h : ∀ j, md0 j = iif (5 ≤ j ∧ j < 5 + 3 * 8 ∧ (j - 5) % 3 = 0) 9 (iif (5 ≤ j ∧ j < 5 + 3 * 8 ∧ (j - 5) % 3 = 1) 10 0) := by
    unfold md0
    refine fI_ind (fun n (s : Int → Int) => ∀ j, s j = iif (5 ≤ j ∧ j < 5 + 3 * n ∧ (j - 5) % 3 = 0) 9 (iif (5 ≤ j ∧ j < 5 + 3 * n ∧ (j - 5) % 3 = 1) 10 0)) (fun j => ?_) (fun i s hi hin hs => ?_) (by omega)
    · rw [iif_f (by omega), iif_f (by omega)]
    · intro j
      by_cases c1 : j = 5 + 3 * i + 1
      · rw [c1, u1_s, iif_f (by omega), iif_t (by omega)]
      · rw [u1_n c1]
        by_cases c0 : j = 5 + 3 * i + 0
        · rw [c0, u1_s, iif_t (by omega)]
        · rw [u1_n c0, hs j]
          by_cases d : 5 ≤ j ∧ j < 5 + 3 * i ∧ (j - 5) % 3 = 0
          · rw [iif_t d, iif_t (show 5 ≤ j ∧ j < 5 + 3 * (i + 1) ∧ (j - 5) % 3 = 0 by omega)]
          · rw [iif_f d, iif_f (show ¬ (5 ≤ j ∧ j < 5 + 3 * (i + 1) ∧ (j - 5) % 3 = 0) by omega)]
            by_cases d1 : 5 ≤ j ∧ j < 5 + 3 * i ∧ (j - 5) % 3 = 1
            · rw [iif_t d1, iif_t (show 5 ≤ j ∧ j < 5 + 3 * (i + 1) ∧ (j - 5) % 3 = 1 by omega)]
            · rw [iif_f d1, iif_f (show ¬ (5 ≤ j ∧ j < 5 + 3 * (i + 1) ∧ (j - 5) % 3 = 1) by omega)]
  rw [h j, show (5 : Int) + 3 * 8 = 29 from rfl]
theorem md_lo {j : Int} (h : j < 5) : md0 j = 0 := by rw [md_at, iif_f (by omega), iif_f (by omega)]
theorem md_r {r : Int} (h : 0 ≤ r ∧ r < 8) : md0 (5 + 3 * r + 0) = 9 ∧ md0 (5 + 3 * r + 1) = 10 ∧ md0 (5 + 3 * r + 2) = 0 := by
  refine ⟨?_, ?_, ?_⟩
  · rw [md_at, iif_t (by omega)]
  · rw [md_at, iif_f (by omega), iif_t (by omega)]
  · rw [md_at, iif_f (by omega), iif_f (by omega)]
theorem md_rg (j : Int) : 0 ≤ md0 j ∧ md0 j ≤ 10 := by
  rw [md_at]
  unfold iif
  split
  · omega
  · split <;> omega
theorem rB_0 : rB md0 bd0.1 bd0.2.1 bd0.2.2.1 bd0.2.2.2.1 bd0.2.2.2.2.1 bd0.2.2.2.2.2.1 bd0.2.2.2.2.2.2.1 bd0.2.2.2.2.2.2.2.1 bd0.2.2.2.2.2.2.2.2 := by
  have m1 : md0 1 = 0 := md_lo (by omega)
  have hR : ∀ r, 0 ≤ r → r < 8 → bd0.2.2.2.2.2.2.1 r = 9 := fun r r0 r8 => (cst_at 9 (n := 8) (by omega) r).trans (iif_t ⟨r0, r8⟩)
  have hC : ∀ r, 0 ≤ r → r < 8 → bd0.2.2.2.2.2.2.2.1 r = 10 := fun r r0 r8 => (cst_at 10 (n := 8) (by omega) r).trans (iif_t ⟨r0, r8⟩)
  have hP : ∀ t, 0 ≤ t → t < 20 → bd0.2.2.2.2.2.1 t = -1 := fun t t0 t1 => (cst_at (-1) (n := 20) (by omega) t).trans (iif_t ⟨t0, t1⟩)
  refine ⟨⟨?_, ?_, ?_⟩, ⟨⟨?_, ?_⟩, ?_⟩, ⟨?_, ?_⟩, ?_⟩
  · intro r r0 r8
    have m := md_r ⟨r0, r8⟩
    rw [m.1, m.2.1, m.2.2, hR r r0 r8, hC r r0 r8]
    exact ⟨⟨rfl, rfl⟩, ⟨⟨fun q => Bool.noConfusion q, fun q => by omega⟩, Or.inl rfl⟩, by omega, by omega⟩
  · exact ⟨by omega, fun t t0 t1 => by omega⟩
  · intro r r0 r8 k hk
    exact ⟨fun q => Bool.noConfusion q, fun ⟨t, ht, _⟩ => by omega⟩
  · intro t t0 t1; omega
  · intro t t0 t1; exact hP t (by omega) t1
  · exact ⟨⟨(md_lo (by omega)).symm, m1.symm⟩, ⟨(md_lo (by omega)).symm, (md_lo (by omega)).symm⟩, (md_lo (by omega)).symm⟩
  · have := md_lo (j := 0) (by omega)
    exact ⟨by omega, by omega, fun j _ _ => by have := md_rg j; omega⟩
  · refine ⟨⟨fun t t0 t1 => ?_, fun r r0 r8 => ?_⟩, ?_, ?_⟩
    · rw [hP t t0 t1]
      exact ⟨by omega, ⟨(by decide : (-100 : Int) ≤ 0), (by decide : (0 : Int) ≤ 100)⟩, fun q => absurd rfl q⟩
    · rw [hR r r0 r8, hC r r0 r8]; omega
    · exact ⟨(by decide : (0 : Int) ≤ 0), (by decide : (0 : Int) ≤ 3)⟩
    · exact ⟨(by decide : (0 : Int) ≤ 0), (by decide : (0 : Int) ≤ 20)⟩
  · refine ⟨by have := md_rg 3; omega, fun r r0 r8 q => ?_⟩
    have := (md_r ⟨r0, r8⟩).2.2
    omega
theorem RR_0 : RR 0 bd0 [] 0 (fun _ => 0) (u1 (fun _ => 0) 0 0) md0 (fun _ => 0) (fun _ => 0) := by
  have m1 : md0 1 = 0 := md_lo (by omega)
  have m3 : md0 3 = 0 := md_lo (by omega)
  have m4 : md0 4 = 0 := md_lo (by omega)
  refine ⟨⟨⟨rB_0, ?_, by omega⟩, ?_⟩, ?_, rfl, ?_⟩
  · show mTalks md0 (md0 1) = md0 1 - md0 4
    rw [talks_sI, m1, m4]
    exact sI_0 (by omega) (fun r r0 r1 => by omega)
  · refine ⟨?_, by decide, fun j b hj => by simp at hj⟩
    show u1 (fun _ => 0) 0 0 4 = ((([] : List Bd).length : Nat) : Int)
    rw [u1_n (by omega)]; rfl
  · rw [u1_n (by omega)]; omega
  · intro j _ _; exact ⟨(by decide : (0 : Int) ≤ 0), (by decide : (0 : Int) ≤ 127)⟩
