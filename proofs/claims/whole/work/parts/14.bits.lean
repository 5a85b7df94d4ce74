/-! sets of hours and of rooms as bits; how many they are -/
def cntN (f : Nat → Bool) : Nat → Nat
  | 0 => 0
  | n + 1 => cntN f n + (if f n then 1 else 0)
theorem opSh (r : Nat) (h : r < 32) : ((iI (r : Int) &&& 31).toBitVec.smod 32).toNat = r := by
  have : ∀ r : Nat, r < 32 → ((iI (r : Int) &&& 31).toBitVec.smod 32).toNat = r := by decide +kernel
  exact this r h
theorem opBit (f : Nat → Bool) (r : Int) (h : 0 ≤ r ∧ r < 8) : (nI (mkN f 8) >>> (iI r &&& 31)) &&& iI 1 = iI (b2p (f r.toNat = true)) := by
  obtain ⟨k, rfl⟩ := Int.eq_ofNat_of_zero_le h.1
  have hlt := mkN_lt f 8
  rw [pk_shrN (by omega) (iI (k : Int) &&& 31) k (opSh k (by omega))]
  show nI (mkN f 8 / 2 ^ k) &&& nI 1 = _
  rw [fa_and, Nat.and_one_is_mod]
  have hb := mkN_bit f 8 k
  rw [Nat.testBit_eq_decide_div_mod_eq] at hb
  have hk : decide (k < 8) = true := decide_eq_true (by omega)
  rw [hk, Bool.true_and] at hb
  show _ = iI (b2p (f k = true))
  by_cases c : f k = true
  · rw [c] at hb
    rw [b2p_t c, of_decide_eq_true hb]
    rfl
  · rw [Bool.not_eq_true] at c
    rw [c] at hb
    have h2 : mkN f 8 / 2 ^ k % 2 = 0 := by
      have := of_decide_eq_false hb
      omega
    rw [b2p_f (by rw [c]; exact Bool.noConfusion), h2]
    rfl
def oSet (O : Nat → Bool) (r : Int) : Nat → Bool := fun k => if k = r.toNat then true else O k
def oClr (O : Nat → Bool) (r : Int) : Nat → Bool := fun k => if k = r.toNat then false else O k
theorem mkN_ext {n : Nat} {m : Nat} {f : Nat → Bool} (h1 : m < 2 ^ n) (h : ∀ k, k < n → m.testBit k = f k) : m = mkN f n := by
  apply Nat.eq_of_testBit_eq
  intro k
  rw [mkN_bit]
  by_cases c : k < n
  · rw [h k c]; simp [c]
  · have h2 : m < 2 ^ k := Nat.lt_of_lt_of_le h1 (Nat.pow_le_pow_right (by omega) (by omega))
    rw [Nat.testBit_lt_two_pow h2]; simp [c]
theorem opOr (O : Nat → Bool) (r : Int) (h : 0 ≤ r ∧ r < 8) : nI (mkN O 8) ||| (iI 1 <<< (iI r &&& 31)) = nI (mkN (oSet O r) 8) := by
  obtain ⟨k, rfl⟩ := Int.eq_ofNat_of_zero_le h.1
  rw [shl_1 k (by omega), fa_or]
  congr 1
  have hk : k < 8 := by omega
  refine mkN_ext (Nat.or_lt_two_pow (mkN_lt O 8) (Nat.pow_lt_pow_right (by omega) hk)) (fun j hj => ?_)
  rw [Nat.testBit_or, mkN_bit, Nat.testBit_two_pow]
  unfold oSet
  by_cases c : j = k
  · subst c; simp
  · have : ¬ k = j := fun h => c h.symm
    simp [this, hj]
    intro h2; exact absurd h2 c
theorem opClr (O : Nat → Bool) (r : Int) (h : 0 ≤ r ∧ r < 8) : nI (mkN O 8) &&& ((iI 1 <<< (iI r &&& 31)) ^^^ iI (-1)) = nI (mkN (oClr O r) 8) := by
  obtain ⟨k, rfl⟩ := Int.eq_ofNat_of_zero_le h.1
  have hk : k < 8 := by omega
  have e : ∀ k : Nat, k < 8 → (iI 1 <<< (iI (k : Int) &&& 31)) ^^^ iI (-1) = nI (4294967295 - 2 ^ k) := by decide +kernel
  rw [e k hk, fa_and]
  congr 1
  refine mkN_ext (Nat.lt_of_le_of_lt Nat.and_le_left (mkN_lt O 8)) (fun j hj => ?_)
  rw [Nat.testBit_and, mkN_bit]
  have e2 : ∀ k : Nat, k < 8 → ∀ j : Nat, j < 8 → (4294967295 - 2 ^ k).testBit j = !decide (j = k) := by decide +kernel
  rw [e2 k hk j hj]
  unfold oClr
  by_cases c : j = k
  · subst c; simp
  · simp [c, hj]
/-- the hours from b up to e -/
def iv (b e : Int) : Nat → Bool := fun k => decide (b ≤ (k : Int) ∧ (k : Int) < e)
theorem wb_tb (n : Nat) : (lN n).toBitVec = BitVec.ofNat 64 n := rfl
theorem wb_inj {a b : Int64} (h : a.toBitVec = b.toBitVec) : a = b := Int64.toBitVec_inj.mp h
theorem wb_c : ∀ k, k < 64 → ((nI k).toInt64 &&& 63) = lN k := by decide +kernel
theorem wb_cu : ∀ k, k < 64 → ((nI k).toInt64.toUInt64 &&& Int64.toUInt64 63) = UInt64.ofNat k := by decide +kernel
theorem wb_sm : ∀ k, k < 64 → (BitVec.ofNat 64 k).smod 64 = BitVec.ofNat 64 k := by decide +kernel
theorem wb_shl (n : Nat) {k : Nat} (hk : k < 64) : lN n <<< ((nI k).toInt64 &&& 63) = lN (n * 2 ^ k) := by
  rw [wb_c k hk]
  apply wb_inj
  rw [Int64.toBitVec_shiftLeft, wb_tb, wb_tb, wb_tb, wb_sm k hk]
  apply BitVec.eq_of_toNat_eq
  rw [BitVec.shiftLeft_eq', BitVec.toNat_shiftLeft, BitVec.toNat_ofNat, BitVec.toNat_ofNat, BitVec.toNat_ofNat, Nat.mod_eq_of_lt (show k < 2 ^ 64 by omega), Nat.shiftLeft_eq, Nat.mul_mod, Nat.mod_mod, ← Nat.mul_mod]
theorem pf_lI {a : Nat} (h : a < 2 ^ 63) : (lN a).toInt = (a : Int) := lg_ofNat_toInt h
theorem pf_shr {a d : Nat} {D : Int64} (hD : (D.toBitVec.smod 64).toNat = d) (h : a < 2 ^ 62) : lN a >>> D = lN (a / 2 ^ d) := by
  have hd : a / 2 ^ d ≤ a := Nat.div_le_self _ _
  apply Int64.toInt_inj.mp
  have e : (lN a >>> D).toInt = (lN a).toInt >>> d := by
    rw [← hD]
    exact BitVec.toInt_sshiftRight ..
  rw [e, Int.shiftRight_eq_div_pow, pf_lI (by omega), pf_lI (by omega)]
  rfl
theorem pf_ushr {a d : Nat} {D : UInt64} (hD : D.toNat % 64 = d) (h : a < 2 ^ 62) : ((lN a).toUInt64 >>> D).toInt64 = lN (a / 2 ^ d) := by
  have hd : a / 2 ^ d ≤ a := Nat.div_le_self _ _
  have e : (lN a).toUInt64 >>> D = UInt64.ofNat (a / 2 ^ d) := UInt64.toNat_inj.mp (by
    rw [UInt64.toNat_shiftRight, hD, Nat.shiftRight_eq_div_pow, UInt64.toNat_ofNat']
    show (UInt64.ofNat a).toNat / 2 ^ d = _
    rw [UInt64.toNat_ofNat', Nat.mod_eq_of_lt (by omega), Nat.mod_eq_of_lt (by omega)])
  rw [e]
  rfl
theorem fb_xorL (a b : Nat) : lN a ^^^ lN b = lN (a ^^^ b) := by
  apply Int64.toBitVec_inj.1
  show BitVec.ofNat 64 a ^^^ BitVec.ofNat 64 b = BitVec.ofNat 64 (a ^^^ b)
  apply BitVec.eq_of_getLsbD_eq
  intro i hi
  simp [hi]
theorem fb_lN_inj {a b : Nat} (ha : a < 2 ^ 63) (hb : b < 2 ^ 63) : lN a = lN b ↔ a = b := by
  constructor
  · intro h
    have h1 : (BitVec.ofNat 64 a).toNat = (BitVec.ofNat 64 b).toNat := congrArg (fun x : Int64 => x.toBitVec.toNat) h
    rw [BitVec.toNat_ofNat, BitVec.toNat_ofNat, Nat.mod_eq_of_lt (by omega), Nat.mod_eq_of_lt (by omega)] at h1
    exact h1
  · rintro rfl; rfl
theorem lsm (k : Nat) (h : k < 64) : ((lN k).toBitVec.smod 64).toNat = k := by
  have : ∀ k : Nat, k < 64 → ((lN k).toBitVec.smod 64).toNat = k := by decide +kernel
  exact this k h
theorem lN_shl {n k : Nat} (h : k < 64) : lN n <<< ((iI (k : Int)).toInt64 &&& 63) = lN (n * 2 ^ k) := by
  rw [iI_nat]
  exact wb_shl n h
theorem hrsEq (b e : Int) (h : 0 ≤ b ∧ b < e ∧ e ≤ 48) : (((1 : Int64) <<< ((iI (e - b)).toInt64 &&& 63)) - 1) <<< ((iI b).toInt64 &&& 63) = lN (mkN (iv b e) 48) := by
  obtain ⟨k, rfl⟩ := Int.eq_ofNat_of_zero_le h.1
  obtain ⟨n, hn⟩ := Int.eq_ofNat_of_zero_le (a := e - k) (by omega)
  rw [hn, show (1 : Int64) = lN 1 from rfl, lN_shl (n := 1) (k := n) (by omega), lN_sub (by have := Nat.one_le_two_pow (n := n); omega), lN_shl (by omega)]
  congr 1
  rw [Nat.one_mul, ← Nat.shiftLeft_eq]
  refine mkN_ext ?_ (fun j hj => ?_)
  · rw [Nat.shiftLeft_eq]
    have h1 : 2 ^ n * 2 ^ k = 2 ^ (n + k) := (Nat.pow_add 2 n k).symm
    have h2 : 2 ^ (n + k) ≤ 2 ^ 48 := Nat.pow_le_pow_right (by omega) (by omega)
    have h3 : (2 ^ n - 1) * 2 ^ k < 2 ^ n * 2 ^ k := Nat.mul_lt_mul_of_pos_right (by have := Nat.one_le_two_pow (n := n); omega) (Nat.two_pow_pos k)
    omega
  · rw [Nat.testBit_shiftLeft, Nat.testBit_two_pow_sub_one]
    unfold iv
    rw [← Bool.decide_and]
    exact decide_eq_decide.mpr (by constructor <;> intro h9 <;> omega)
theorem andHrs (f g : Nat → Bool) : lN (mkN f 48) &&& lN (mkN g 48) = lN (mkN (fun k => f k && g k) 48) := by
  rw [fb_andL]
  congr 1
  refine mkN_ext (Nat.lt_of_le_of_lt Nat.and_le_left (mkN_lt f 48)) (fun j hj => ?_)
  rw [Nat.testBit_and, mkN_bit, mkN_bit]
  simp [hj]
theorem orHrs (f g : Nat → Bool) : lN (mkN f 48) ||| lN (mkN g 48) = lN (mkN (fun k => f k || g k) 48) := by
  rw [fb_orL]
  congr 1
  refine mkN_ext (Nat.or_lt_two_pow (mkN_lt f 48) (mkN_lt g 48)) (fun j hj => ?_)
  rw [Nat.testBit_or, mkN_bit, mkN_bit]
  simp [hj]
theorem clrHrs (f g : Nat → Bool) : lN (mkN f 48) &&& (lN (mkN g 48) ^^^ (-1 : Int64)) = lN (mkN (fun k => f k && !g k) 48) := by
  rw [show (-1 : Int64) = lN (2 ^ 64 - 1) from rfl, fb_xorL, fb_andL]
  congr 1
  refine mkN_ext (Nat.lt_of_le_of_lt Nat.and_le_left (mkN_lt f 48)) (fun j hj => ?_)
  rw [Nat.testBit_and, Nat.testBit_xor, mkN_bit, mkN_bit, Nat.testBit_two_pow_sub_one]
  have : decide (j < 64) = true := decide_eq_true (by omega)
  simp [hj, this]
theorem mkN_0 {f : Nat → Bool} {n : Nat} : mkN f n = 0 ↔ ∀ k, k < n → f k = false := by
  constructor
  · intro h k hk
    have := mkN_bit f n k
    rw [h, Nat.zero_testBit] at this
    simpa [hk] using this.symm
  · intro h
    have := mkN_ext (n := n) (m := 0) (f := f) (Nat.two_pow_pos n) (fun k hk => by rw [Nat.zero_testBit, h k hk])
    exact this.symm
theorem lz (f : Nat → Bool) : lg_cmp (lN (mkN f 48)) (0 : Int64) = 0 ↔ ∀ k, k < 48 → f k = false := by
  rw [lg_cmp_eq, show (0 : Int64) = lN 0 from rfl, fb_lN_inj (Nat.lt_of_lt_of_le (mkN_lt f 48) (by decide)) (by decide), mkN_0]
def bn (b : Bool) : Nat := if b then 1 else 0
theorem tkBit (f : Nat → Bool) (h : Int) (hh : 0 ≤ h ∧ h < 48) : (lN (mkN f 48) >>> ((iI h).toInt64 &&& 63)) &&& (1 : Int64) = lN (bn (f h.toNat)) := by
  obtain ⟨k, rfl⟩ := Int.eq_ofNat_of_zero_le hh.1
  have hlt := mkN_lt f 48
  rw [iI_nat, wb_c k (by omega), pf_shr (lsm k (by omega)) (by omega), show (1 : Int64) = lN 1 from rfl, fb_andL, Nat.and_one_is_mod]
  congr 1
  have hb := mkN_bit f 48 k
  rw [Nat.testBit_eq_decide_div_mod_eq] at hb
  have hk : decide (k < 48) = true := decide_eq_true (by omega)
  rw [hk, Bool.true_and] at hb
  show _ = bn (f k)
  unfold bn
  by_cases c : f k = true
  · rw [c] at hb
    rw [c, of_decide_eq_true hb]; rfl
  · rw [Bool.not_eq_true] at c
    rw [c] at hb
    have := of_decide_eq_false hb
    rw [c]
    show _ = 0
    omega
theorem lbn0 (b : Bool) : lg_cmp (lN (bn b)) (0 : Int64) = 0 ↔ b = false := by cases b <;> decide
theorem lbn1 (b : Bool) : lg_cmp (lN (bn b)) (1 : Int64) = 0 ↔ b = true := by cases b <;> decide
/-! counting bits, byte by byte -/
theorem and_split (a m k K : Nat) (ha : a < 256) (hk : k < 256) : (a + 256 * m) &&& (k + 256 * K) = (a &&& k) + 256 * (m &&& K) := by
  apply Nat.eq_of_testBit_eq
  intro i
  have e1 := Nat.testBit_two_pow_mul_add m (b := a) (i := 8) (by omega) i
  have e2 := Nat.testBit_two_pow_mul_add K (b := k) (i := 8) (by omega) i
  have hl : a &&& k < 2 ^ 8 := Nat.lt_of_le_of_lt Nat.and_le_left (by omega)
  have e3 := Nat.testBit_two_pow_mul_add (m &&& K) (b := a &&& k) (i := 8) hl i
  rw [show a + 256 * m = 2 ^ 8 * m + a by omega, show k + 256 * K = 2 ^ 8 * K + k by omega, show (a &&& k) + 256 * (m &&& K) = 2 ^ 8 * (m &&& K) + (a &&& k) by omega, Nat.testBit_and, e1, e2, e3]
  split
  · rw [Nat.testBit_and]
  · rw [Nat.testBit_and]
def g1 (K n : Nat) : Nat := n - (n / 2 &&& K)
def g2 (K n : Nat) : Nat := (n &&& K) + (n / 4 &&& K)
def g3 (K n : Nat) : Nat := (n + n / 16) &&& K
def pcB (a : Nat) : Nat := cntN (fun k => a.testBit k) 8
theorem g1_s (a m K : Nat) (ha : a < 256) : g1 (85 + 256 * K) (a + 256 * m) = g1 85 a + 256 * g1 K m := by
  unfold g1
  have e : (a + 256 * m) / 2 = (a / 2 + 128 * (m % 2)) + 256 * (m / 2) := by omega
  rw [e, and_split _ _ _ _ (by omega) (by omega)]
  have d : ∀ a : Nat, a < 256 → ∀ b : Nat, b < 2 → (a / 2 + 128 * b) &&& 85 = a / 2 &&& 85 := by decide +kernel
  rw [d a ha (m % 2) (by omega)]
  have l1 : a / 2 &&& 85 ≤ a / 2 := Nat.and_le_left
  have l2 : m / 2 &&& K ≤ m / 2 := Nat.and_le_left
  omega
theorem g2_s (a m K : Nat) (ha : a < 256) : g2 (51 + 256 * K) (a + 256 * m) = g2 51 a + 256 * g2 K m := by
  unfold g2
  have e : (a + 256 * m) / 4 = (a / 4 + 64 * (m % 4)) + 256 * (m / 4) := by omega
  rw [e, and_split _ _ _ _ (by omega) (by omega), and_split _ _ _ _ (by omega) (by omega)]
  have d : ∀ a : Nat, a < 256 → ∀ b : Nat, b < 4 → (a / 4 + 64 * b) &&& 51 = a / 4 &&& 51 := by decide +kernel
  rw [d a ha (m % 4) (by omega)]
  omega
theorem g3_s (a m K : Nat) (ha : a ≤ 68) (hm : m % 16 ≤ 4) : g3 (15 + 256 * K) (a + 256 * m) = g3 15 a + 256 * g3 K m := by
  unfold g3
  have e : (a + 256 * m) + (a + 256 * m) / 16 = (a + a / 16 + 16 * (m % 16)) + 256 * (m + m / 16) := by omega
  rw [e, and_split _ _ _ _ (by omega) (by omega)]
  have d : ∀ a : Nat, a < 69 → ∀ b : Nat, b < 5 → (a + a / 16 + 16 * b) &&& 15 = (a + a / 16) &&& 15 := by decide +kernel
  rw [d a (by omega) (m % 16) (by omega)]
theorem gB : ∀ a : Nat, a < 256 → (g1 85 a < 256 ∧ g2 51 (g1 85 a) ≤ 68 ∧ g2 51 (g1 85 a) % 16 ≤ 4) ∧ g3 15 (g2 51 (g1 85 a)) = pcB a ∧ pcB a ≤ 8 := by decide +kernel
