/-! folds, firsts, sets -/
def fd {α : Type} (g : Int → α → α) (a : α) : Nat → α
  | 0 => a
  | n + 1 => g (n : Int) (fd g a n)
def fI {α : Type} (g : Int → α → α) (a : α) (n : Int) : α := fd g a n.toNat
theorem fI_0 {α : Type} {g : Int → α → α} {a : α} : fI g a 0 = a := rfl
theorem fI_s {α : Type} {g : Int → α → α} {a : α} {i : Int} (h : 0 ≤ i) : fI g a (i + 1) = g i (fI g a i) := by
  obtain ⟨n, rfl⟩ := Int.eq_ofNat_of_zero_le h
  rfl
theorem fI_ind {α : Type} {g : Int → α → α} {a : α} (P : Int → α → Prop) (h0 : P 0 a) {n : Int} (hs : ∀ i x, 0 ≤ i → i < n → P i x → P (i + 1) (g i x)) (hn : 0 ≤ n) : P n (fI g a n) := by
  obtain ⟨k, rfl⟩ := Int.eq_ofNat_of_zero_le hn
  suffices h : ∀ j : Nat, j ≤ k → P j (fI g a j) from h k (Nat.le_refl k)
  intro j
  induction j with
  | zero => intro _; exact h0
  | succ j ih =>
    intro hj
    have h1 := hs j _ (by omega) (by omega) (ih (by omega))
    have e := fI_s (g := g) (a := a) (i := (j : Int)) (by omega)
    show P ((j : Int) + 1) (fI g a ((j : Int) + 1))
    rw [e]
    exact h1
noncomputable def fstI (p : Int → Prop) (d : Int) : Nat → Int → Int
  | 0, _ => d
  | k + 1, i => iif (p i) i (fstI p d k (i + 1))
theorem fstI_e {p : Int → Prop} {d n i : Int} (h : n ≤ i) : fstI p d (n - i).toNat i = d := by
  rw [show (n - i).toNat = 0 by omega]
  rfl
theorem fstI_t {p : Int → Prop} {d n i : Int} (h : i < n) (hp : p i) : fstI p d (n - i).toNat i = i := by
  rw [show (n - i).toNat = (n - (i + 1)).toNat + 1 by omega]
  exact iif_t hp
theorem fstI_f {p : Int → Prop} {d n i : Int} (h : i < n) (hp : ¬ p i) : fstI p d (n - i).toNat i = fstI p d (n - (i + 1)).toNat (i + 1) := by
  rw [show (n - i).toNat = (n - (i + 1)).toNat + 1 by omega]
  exact iif_f hp
noncomputable def bd (p : Int → Prop) : Nat → Bool := fun k => @decide (p (k : Int)) (Classical.propDecidable _)
theorem bd_t {p : Int → Prop} {k : Nat} (h : p k) : bd p k = true := by simp [bd, h]
theorem bd_f {p : Int → Prop} {k : Nat} (h : ¬ p k) : bd p k = false := by simp [bd, h]
theorem bd_iff {p : Int → Prop} {k : Nat} : bd p k = true ↔ p k := by simp [bd]
/-- the set of the numbers below n with p, as bits -/
noncomputable def mskI (p : Int → Prop) (n : Int) : Int32 := nI (mkN (bd p) n.toNat)
theorem mkN_lt (f : Nat → Bool) : ∀ n, mkN f n < 2 ^ n
  | 0 => by simp [mkN]
  | n + 1 => by
    have h := mkN_lt f n
    have h2 : 2 ^ (n + 1) = 2 ^ n + 2 ^ n := by rw [Nat.pow_succ]; omega
    unfold mkN
    split <;> omega
theorem mkN_bit (f : Nat → Bool) : ∀ n k, (mkN f n).testBit k = (decide (k < n) && f k)
  | 0, k => by simp [mkN]
  | n + 1, k => by
    have ih := mkN_bit f n k
    have hlt := mkN_lt f n
    unfold mkN
    by_cases hf : f n = true
    · have e := Nat.two_pow_add_eq_or_of_lt hlt 1
      rw [Nat.mul_one] at e
      rw [if_pos hf, Nat.add_comm, e, Nat.testBit_or, Nat.testBit_two_pow, ih]
      by_cases hk : n = k
      · subst hk; simp [hf]
      · have h2 : decide (k < n + 1) = decide (k < n) := decide_eq_decide.mpr (by omega)
        rw [h2]; simp [hk]
    · rw [if_neg hf, Nat.add_zero, ih]
      by_cases hk : n = k
      · subst hk; simp [hf]
      · have h2 : decide (k < n + 1) = decide (k < n) := decide_eq_decide.mpr (by omega)
        rw [h2]
theorem fa_and (a b : Nat) : nI a &&& nI b = nI (a &&& b) := by
  apply Int32.toBitVec_inj.1
  show BitVec.ofNat 32 a &&& BitVec.ofNat 32 b = BitVec.ofNat 32 (a &&& b)
  apply BitVec.eq_of_getLsbD_eq
  intro i hi
  simp [hi]
theorem fa_or (a b : Nat) : nI a ||| nI b = nI (a ||| b) := by
  apply Int32.toBitVec_inj.1
  show BitVec.ofNat 32 a ||| BitVec.ofNat 32 b = BitVec.ofNat 32 (a ||| b)
  apply BitVec.eq_of_getLsbD_eq
  intro i hi
  simp [hi]
theorem fb_andL (a b : Nat) : lN a &&& lN b = lN (a &&& b) := by
  apply Int64.toBitVec_inj.1
  show BitVec.ofNat 64 a &&& BitVec.ofNat 64 b = BitVec.ofNat 64 (a &&& b)
  apply BitVec.eq_of_getLsbD_eq
  intro i hi
  simp [hi]
theorem fb_orL (a b : Nat) : lN a ||| lN b = lN (a ||| b) := by
  apply Int64.toBitVec_inj.1
  show BitVec.ofNat 64 a ||| BitVec.ofNat 64 b = BitVec.ofNat 64 (a ||| b)
  apply BitVec.eq_of_getLsbD_eq
  intro i hi
  simp [hi]
/-! the reference's words -/
def IM (S : Int → Int) : Prop := (0 ≤ S 0 ∧ S 0 ≤ 3) ∧ (0 ≤ S 1 ∧ S 1 ≤ 20) ∧ ∀ j, 5 ≤ j → j < 109 → -1 ≤ S j ∧ S j ≤ 99
theorem imB {S : Int → Int} (h : IM S) (j : Int) (h1 : 5 ≤ j ∧ j < 109) : -1 ≤ S j ∧ S j ≤ 99 := h.2.2 j h1.1 h1.2
def mTalkP (S : Int → Int) (t : Int) : Prop := (0 ≤ t ∧ t ≤ S 1 - 1) ∧ ¬ S (29 + 4 * t + 3) = -1
def mCan (S : Int → Int) (r f e z b : Int) : Prop := z ≤ S (5 + 3 * r + 0) ∧ ∀ t, 0 ≤ t → t < S 1 → (t = b ∨ ¬ S (29 + 4 * t + 3) = r ∨ e ≤ S (29 + 4 * t + 0) ∨ S (29 + 4 * t + 1) ≤ f)
noncomputable def mTalkAt (S : Int → Int) (r h : Int) : Int := fstI (fun t => S (29 + 4 * t + 3) = r ∧ S (29 + 4 * t + 0) ≤ h ∧ h ≤ S (29 + 4 * t + 1) - 1) (-1000004) (S 1 - 0).toNat 0
noncomputable def mTakenS (S : Int → Int) (r : Int) (t x : Int) : Int := iif (S (29 + 4 * t + 3) = r) (x + (S (29 + 4 * t + 1) - S (29 + 4 * t + 0))) (x + 0)
noncomputable def mTaken (S : Int → Int) (r : Int) (n : Int) : Int := fI (mTakenS S r) 0 n
noncomputable def mGapS (S : Int → Int) (r f : Int) (t x : Int) : Int := iif (S (29 + 4 * t + 3) = r ∧ S (29 + 4 * t + 1) ≤ f ∧ x < S (29 + 4 * t + 1)) (S (29 + 4 * t + 1)) x
noncomputable def mGap (S : Int → Int) (r f : Int) (n : Int) : Int := fI (mGapS S r f) 0 n
