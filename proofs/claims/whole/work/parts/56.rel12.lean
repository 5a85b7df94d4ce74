/-! floats: halving, doubling, their bits -/
def nF (E T : Nat) : UInt32 := UInt32.ofNat (E * 8388608 + T)
theorem b32_ts : Jvm.FP.Core.b32.tails = 8388608 := by decide
theorem b32_es : Jvm.FP.Core.b32.exps = 256 := by decide
theorem b32_qn : Jvm.FP.Core.b32.qmin = -149 := by decide
theorem b32_qx : Jvm.FP.Core.b32.qmax = 104 := by decide
theorem nF_nat {E T : Nat} (hE : E ≤ 254) (hT : T < 8388608) : (nF E T).toNat = E * 8388608 + T := by
  unfold nF
  exact UInt32.toNat_ofNat_of_lt' (by show _ < 4294967296; omega)
theorem nF_val {E T : Nat} (h1 : 1 ≤ E) (hE : E ≤ 254) (hT : T < 8388608) : Jvm.FP.Core.val32 (nF E T) = .fin false (8388608 + T) ((E : Int) - 150) := by
  unfold Jvm.FP.Core.val32 Jvm.FP.Core.decode Jvm.FP.Core.fieldE Jvm.FP.Core.fieldT Jvm.FP.Core.fieldS
  rw [nF_nat hE hT, b32_ts, b32_es, b32_qn]
  have e1 : (E * 8388608 + T) / 8388608 = E := by omega
  have e2 : (E * 8388608 + T) % 8388608 = T := by omega
  rw [e1, e2]
  have e3 : E % 256 = E := by omega
  have e4 : E / 256 = 0 := by omega
  rw [e3, e4, if_neg (by omega), if_neg (by omega)]
  congr 1
  omega
theorem nF_of {x : UInt32} {c : Nat} {q : Int} (h : Jvm.FP.Core.val32 x = .fin false c q) (hc : 8388608 ≤ c) : ∃ E T : Nat, (1 ≤ E ∧ E ≤ 254 ∧ T < 8388608) ∧ x = nF E T ∧ c = 8388608 + T ∧ q = (E : Int) - 150 := by
  have hf := Jvm.FP.Core.val32_fits x
  rw [h] at hf
  obtain ⟨f1, f2, f3, -⟩ := hf
  rw [b32_qn] at f2
  rw [b32_qx] at f3
  have f1 : c < 2 ^ 24 := f1
  refine ⟨(q + 150).toNat, c - 8388608, by omega, ?_, by omega, by omega⟩
  refine Jvm.FP.Core.val32_inj (by rw [h]; exact fun z => Jvm.FP.Core.Datum.noConfusion z) ?_
  rw [h, nF_val (by omega) (by omega) (by omega)]
  have e1 : 8388608 + (c - 8388608) = c := by omega
  have e2 : (((q + 150).toNat : Nat) : Int) - 150 = q := by omega
  rw [e1, e2]
theorem n32_of {x : UInt32} (h : Jvm.FP.Core.val32 x ≠ .nan) : vf_n32 x := by
  unfold vf_n32
  rw [UInt32.le_iff_toNat_le, UInt32.toNat_and]
  have e1 : (0x7fffffff : UInt32).toNat = 2 ^ 31 - 1 := by decide
  have e2 : (0x7f800000 : UInt32).toNat = 255 * 8388608 := by decide
  rw [e1, e2, Nat.and_two_pow_sub_one_eq_mod]
  unfold Jvm.FP.Core.val32 Jvm.FP.Core.decode Jvm.FP.Core.fieldE Jvm.FP.Core.fieldT at h
  rw [b32_ts, b32_es] at h
  have hx : x.toNat < 4294967296 := x.toNat_lt
  generalize x.toNat = n at *
  by_cases c : n / 8388608 % 256 = 256 - 1
  · rw [if_pos c] at h
    by_cases c2 : n % 8388608 = 0
    · omega
    · rw [if_neg c2] at h; exact absurd rfl h
  · omega
theorem n32_fin {x : UInt32} {s : Bool} {c : Nat} {q : Int} (h : Jvm.FP.Core.val32 x = .fin s c q) : vf_n32 x := n32_of (by rw [h]; exact fun z => Jvm.FP.Core.Datum.noConfusion z)
theorem v_c1 : Jvm.FP.Core.val32 Jvm.FP.fconst1 = .fin false 8388608 (-23) := by decide +kernel
theorem v_c2 : Jvm.FP.Core.val32 Jvm.FP.fconst2 = .fin false 8388608 (-22) := by decide +kernel
theorem v_c3 : Jvm.FP.Core.val32 (0x4b000000 : UInt32) = .fin false 8388608 0 := by decide +kernel
theorem fits_n {c : Nat} {q : Int} (h1 : 8388608 ≤ c) (h2 : c < 16777216) (h3 : -149 ≤ q) (h4 : q ≤ 104) : Jvm.FP.Core.fits Jvm.FP.Core.b32 (.fin false c q) := by
  refine ⟨?_, by rw [b32_qn]; exact h3, by rw [b32_qx]; exact h4, Or.inr (by rw [b32_ts]; exact h1)⟩
  show c < 2 ^ 24
  omega
theorem nF_half {E T : Nat} (h1 : 2 ≤ E) (hE : E ≤ 254) (hT : T < 8388608) : Jvm.FP.fdiv (nF E T) Jvm.FP.fconst2 = nF (E - 1) T := by
  have hv := nF_val (E := E - 1) (T := T) (by omega) (by omega) hT
  refine (Jvm.FP.Core.val32_inj (by rw [hv]; exact fun z => Jvm.FP.Core.Datum.noConfusion z) ?_).symm
  rw [hv, Jvm.FP.Core.val32_fdiv, nF_val (by omega) hE hT, v_c2]
  show _ = if 8388608 = 0 then (if 8388608 + T = 0 then Jvm.FP.Core.Datum.nan else Jvm.FP.Core.Datum.inf (false != false)) else Jvm.FP.Core.roundRatio Jvm.FP.Core.b32 (false != false) (8388608 + T) 8388608 ((E : Int) - 150 - -22)
  rw [if_neg (by omega)]
  refine (Jvm.FP.Core.roundRatio_exact Jvm.FP.Core.good_b32 (by omega) (fits_n (by omega) (by omega) (by omega) (by omega)) ?_).symm
  have e1 : ((E : Int) - 150 - -22 - (((E - 1 : Nat) : Int) - 150)).toNat = 23 := by omega
  have e2 : (((E - 1 : Nat) : Int) - 150 - ((E : Int) - 150 - -22)).toNat = 0 := by omega
  rw [e1, e2, Nat.pow_zero, Nat.mul_one]
theorem nF_dbl {E T : Nat} (h1 : 1 ≤ E) (hE : E ≤ 253) (hT : T < 8388608) : Jvm.FP.fmul (nF E T) Jvm.FP.fconst2 = nF (E + 1) T := by
  have hv := nF_val (E := E + 1) (T := T) (by omega) (by omega) hT
  refine (Jvm.FP.Core.val32_inj (by rw [hv]; exact fun z => Jvm.FP.Core.Datum.noConfusion z) ?_).symm
  rw [hv, Jvm.FP.Core.val32_fmul, nF_val (by omega) (by omega) hT, v_c2]
  show _ = Jvm.FP.Core.roundRatio Jvm.FP.Core.b32 (false != false) ((8388608 + T) * 8388608) 1 ((E : Int) - 150 + -22)
  refine (Jvm.FP.Core.roundRatio_exact Jvm.FP.Core.good_b32 (by omega) (fits_n (by omega) (by omega) (by omega) (by omega)) ?_).symm
  have e1 : ((E : Int) - 150 + -22 - (((E + 1 : Nat) : Int) - 150)).toNat = 0 := by omega
  have e2 : (((E + 1 : Nat) : Int) - 150 - ((E : Int) - 150 + -22)).toNat = 23 := by omega
  rw [e1, e2, Nat.pow_zero, Nat.mul_one, Nat.mul_one]
theorem cmp_units {a b : Nat} {q r : Int} : Jvm.FP.Core.order (.fin false a q) (.fin false b r) = some (compare ((a * 2 ^ (q - min q r).toNat : Nat) : Int) ((b * 2 ^ (r - min q r).toNat : Nat) : Int)) := rfl
theorem nF_cmp {E T : Nat} (h1 : 1 ≤ E) (hE : E ≤ 254) (hT : T < 8388608) {k : UInt32} {r : Nat} (hr : 1 ≤ r ∧ r ≤ 254) (hk : Jvm.FP.Core.val32 k = .fin false 8388608 ((r : Int) - 150)) (op : CmpOp) : Op.cmpValue (Jvm.FP.fcmp (nF E T) k) op < 0 ↔ E < r := by
  have e : Jvm.FP.fcmp (nF E T) k = Jvm.FP.Core.order (Jvm.FP.Core.val32 (nF E T)) (Jvm.FP.Core.val32 k) := rfl
  rw [e, nF_val h1 hE hT, hk, cmp_units]
  by_cases c : E < r
  · have c1 : (8388608 + T) * 2 ^ ((E : Int) - 150 - min ((E : Int) - 150) ((r : Int) - 150)).toNat < 8388608 * 2 ^ ((r : Int) - 150 - min ((E : Int) - 150) ((r : Int) - 150)).toNat := by
      have e1 : ((E : Int) - 150 - min ((E : Int) - 150) ((r : Int) - 150)).toNat = 0 := by omega
      have e2 : ((r : Int) - 150 - min ((E : Int) - 150) ((r : Int) - 150)).toNat = (r - E - 1) + 1 := by omega
      rw [e1, e2, Nat.pow_zero, Nat.pow_succ]
      have := Nat.two_pow_pos (r - E - 1)
      omega
    have c2 : compare (((8388608 + T) * 2 ^ ((E : Int) - 150 - min ((E : Int) - 150) ((r : Int) - 150)).toNat : Nat) : Int) ((8388608 * 2 ^ ((r : Int) - 150 - min ((E : Int) - 150) ((r : Int) - 150)).toNat : Nat) : Int) = .lt := by
      rw [Int.compare_eq_lt]; exact Int.ofNat_lt.mpr c1
    rw [c2]
    exact ⟨fun _ => c, fun _ => by show (-1 : Int32) < 0; decide⟩
  · have c1 : 8388608 * 2 ^ ((r : Int) - 150 - min ((E : Int) - 150) ((r : Int) - 150)).toNat ≤ (8388608 + T) * 2 ^ ((E : Int) - 150 - min ((E : Int) - 150) ((r : Int) - 150)).toNat := by
      have e1 : ((r : Int) - 150 - min ((E : Int) - 150) ((r : Int) - 150)).toNat = 0 := by omega
      rw [e1, Nat.pow_zero, Nat.mul_one]
      have := Nat.two_pow_pos ((E : Int) - 150 - min ((E : Int) - 150) ((r : Int) - 150)).toNat
      exact Nat.le_trans (by omega) (Nat.le_mul_of_pos_right _ this)
    refine ⟨fun h => ?_, fun h => absurd h c⟩
    exfalso
    generalize (8388608 + T) * 2 ^ ((E : Int) - 150 - min ((E : Int) - 150) ((r : Int) - 150)).toNat = x at *
    generalize 8388608 * 2 ^ ((r : Int) - 150 - min ((E : Int) - 150) ((r : Int) - 150)).toNat = y at *
    rcases Nat.lt_or_ge y x with d | d
    · have c2 : compare ((x : Nat) : Int) ((y : Nat) : Int) = .gt := by rw [Int.compare_eq_gt]; exact Int.ofNat_lt.mpr d
      rw [c2] at h
      have h : (1 : Int32) < 0 := h
      exact absurd h (by decide)
    · have hxy : x = y := by omega
      have c2 : compare ((x : Nat) : Int) ((y : Nat) : Int) = .eq := by rw [Int.compare_eq_eq, hxy]
      rw [c2] at h
      have h : (0 : Int32) < 0 := h
      exact absurd h (by decide)
/-- the part behind the leading digit, as a whole number -/
theorem frac_eq {T : Nat} (hT : T < 8388608) : vf_n32 (Jvm.FP.fsub (nF 127 T) Jvm.FP.fconst1) ∧ vf_n32 (Jvm.FP.fmul (Jvm.FP.fsub (nF 127 T) Jvm.FP.fconst1) (0x4b000000 : UInt32)) ∧ Jvm.FP.f2i (Jvm.FP.fmul (Jvm.FP.fsub (nF 127 T) Jvm.FP.fconst1) (0x4b000000 : UInt32)) = iI (T : Int) := by
  have hs : Jvm.FP.Core.exactSum (.fin false (8388608 + T) (((127 : Nat) : Int) - 150)) (Jvm.FP.Core.negate (.fin false 8388608 (-23))) = .fin false T (-23) := by
    show Jvm.FP.Core.Datum.fin _ _ _ = _
    have e0 : min (((127 : Nat) : Int) - 150) (-23) = -23 := by omega
    rw [e0]
    have eu : Jvm.FP.Core.sumUnits false (8388608 + T) (((127 : Nat) : Int) - 150) (!false) 8388608 (-23) (-23) = (T : Int) := by
      unfold Jvm.FP.Core.sumUnits Jvm.FP.Core.signed Jvm.FP.Core.inUnits
      have e1 : ((((127 : Nat) : Int) - 150) - -23).toNat = 0 := by omega
      have e2 : (-23 - -23 : Int).toNat = 0 := by omega
      rw [e1, e2, Nat.pow_zero, Nat.mul_one, Nat.mul_one]
      show ((8388608 + T : Nat) : Int) + -((8388608 : Nat) : Int) = T
      omega
    rw [eu]
    congr 1
    unfold Jvm.FP.Core.sumSign
    by_cases c : (T : Int) = 0
    · rw [if_pos c]; rfl
    · rw [if_neg c]; exact decide_eq_false (by omega)
  have v1 : Jvm.FP.Core.val32 (Jvm.FP.fsub (nF 127 T) Jvm.FP.fconst1) = Jvm.FP.Core.roundRatio Jvm.FP.Core.b32 false T 1 (-23) := by
    rw [Jvm.FP.Core.val32_fsub, nF_val (by omega) (by omega) hT, v_c1, hs]; rfl
  have v2 : ∃ (c' : Nat) (q' : Int), Jvm.FP.Core.val32 (Jvm.FP.fsub (nF 127 T) Jvm.FP.fconst1) = .fin false c' q' ∧ ∃ (c2 : Nat) (q2 : Int), Jvm.FP.Core.val32 (Jvm.FP.fmul (Jvm.FP.fsub (nF 127 T) Jvm.FP.fconst1) (0x4b000000 : UInt32)) = .fin false c2 q2 ∧ Jvm.FP.Core.truncate false c2 q2 = (T : Int) := by
    by_cases c : T = 0
    · subst c
      have e1 : Jvm.FP.Core.roundRatio Jvm.FP.Core.b32 false 0 1 (-23) = .fin false 0 (-149) := by decide +kernel
      rw [e1] at v1
      refine ⟨0, -149, v1, 0, -149, ?_, ?_⟩
      · rw [Jvm.FP.Core.val32_fmul, v1, v_c3]; decide +kernel
      · decide +kernel
    · have hk1 : 2 ^ T.log2 ≤ T := Nat.log2_self_le c
      have hk2 : T < 2 ^ (T.log2 + 1) := Nat.lt_log2_self
      have hk3 : T.log2 < 23 := (Nat.log2_lt c).mpr (by omega)
      generalize T.log2 = k at *
      have hp : 2 ^ k * 2 ^ (23 - k) = 8388608 := by rw [← Nat.pow_add, show k + (23 - k) = 23 by omega]
      have hp2 : 2 ^ (k + 1) * 2 ^ (23 - k) = 16777216 := by rw [← Nat.pow_add, show k + 1 + (23 - k) = 24 by omega]
      have hpos := Nat.two_pow_pos (23 - k)
      have b1 : 8388608 ≤ T * 2 ^ (23 - k) := by rw [← hp]; exact Nat.mul_le_mul_right _ hk1
      have b2 : T * 2 ^ (23 - k) < 16777216 := by rw [← hp2]; exact Nat.mul_lt_mul_of_pos_right hk2 hpos
      have e1 : Jvm.FP.Core.roundRatio Jvm.FP.Core.b32 false T 1 (-23) = .fin false (T * 2 ^ (23 - k)) ((k : Int) - 46) := by
        refine Jvm.FP.Core.roundRatio_exact Jvm.FP.Core.good_b32 (by omega) (fits_n b1 b2 (by omega) (by omega)) ?_
        have g1 : (-23 - ((k : Int) - 46)).toNat = 23 - k := by omega
        have g2 : ((k : Int) - 46 - -23).toNat = 0 := by omega
        rw [g1, g2, Nat.pow_zero, Nat.mul_one, Nat.mul_one]
      rw [e1] at v1
      refine ⟨_, _, v1, T * 2 ^ (23 - k), (k : Int) - 23, ?_, ?_⟩
      · rw [Jvm.FP.Core.val32_fmul, v1, v_c3]
        show Jvm.FP.Core.roundRatio Jvm.FP.Core.b32 (false != false) (T * 2 ^ (23 - k) * 8388608) 1 ((k : Int) - 46 + 0) = _
        refine Jvm.FP.Core.roundRatio_exact Jvm.FP.Core.good_b32 (by omega) (fits_n b1 b2 (by omega) (by omega)) ?_
        have g1 : ((k : Int) - 46 + 0 - ((k : Int) - 23)).toNat = 0 := by omega
        have g2 : ((k : Int) - 23 - ((k : Int) - 46 + 0)).toNat = 23 := by omega
        rw [g1, g2, Nat.pow_zero, Nat.mul_one, Nat.mul_one]
      · unfold Jvm.FP.Core.truncate Jvm.FP.Core.signed
        have g1 : ((k : Int) - 23).toNat = 0 := by omega
        have g2 : (-((k : Int) - 23)).toNat = 23 - k := by omega
        rw [g1, g2, Nat.pow_zero, Nat.mul_one, Nat.mul_div_cancel _ hpos]
        rfl
  obtain ⟨c', q', w1, c2, q2, w2, w3⟩ := v2
  refine ⟨n32_fin w1, n32_fin w2, ?_⟩
  have e : Jvm.FP.f2i (Jvm.FP.fmul (Jvm.FP.fsub (nF 127 T) Jvm.FP.fconst1) (0x4b000000 : UInt32)) = Jvm.FP.Core.toI (Jvm.FP.Core.val32 (Jvm.FP.fmul (Jvm.FP.fsub (nF 127 T) Jvm.FP.fconst1) (0x4b000000 : UInt32))) := rfl
  rw [e, w2]
  show Int32.ofInt (max (-2 ^ 31) (min (2 ^ 31 - 1) (Jvm.FP.Core.truncate false c2 q2))) = _
  rw [w3]
  unfold iI
  congr 1
  omega
theorem nF_bits {E T : Nat} (hE : E ≤ 254) (hT : T < 8388608) : (nF E T).toInt32 = iI ((E : Int) * 8388608 + T) := by
  unfold nF
  have e : ((E : Int) * 8388608 + T) = ((E * 8388608 + T : Nat) : Int) := by omega
  rw [e, iI_nat]
  rfl
/-- numbers as floats; their ratio -/
theorem ratio_n {A B : Nat} {e : Int} (hA : 0 < A) (hB : 0 < B) (h1 : -149 < Jvm.FP.Core.leading A B + e - 23) (h2 : Jvm.FP.Core.leading A B + e - 23 < 104) : ∃ (c : Nat) (q : Int), Jvm.FP.Core.roundRatio Jvm.FP.Core.b32 false A B e = .fin false c q ∧ (8388608 ≤ c ∧ c < 16777216) ∧ (q = Jvm.FP.Core.leading A B + e - 23 ∨ q = Jvm.FP.Core.leading A B + e - 23 + 1) := by
  have hq : Jvm.FP.Core.quantum Jvm.FP.Core.b32 A B e = Jvm.FP.Core.leading A B + e - 23 := by
    unfold Jvm.FP.Core.quantum
    rw [b32_qn]
    have : ((Jvm.FP.Core.b32.p : Nat) : Int) = 24 := by decide
    omega
  have hn := Jvm.FP.Core.quantum_not_below (f := Jvm.FP.Core.b32) hA hB e
  have hle := Jvm.FP.Core.nearest_units_le (f := Jvm.FP.Core.b32) hA hB e
  rw [hq] at hn hle
  generalize Jvm.FP.Core.leading A B + e - 23 = z at *
  have hge : 8388608 ≤ Jvm.FP.Core.nearest (Jvm.FP.Core.unitsNum A e z) (Jvm.FP.Core.unitsDen B e z) := by
    refine Jvm.FP.Core.nearest_ge (Jvm.FP.Core.unitsDen_pos hB e z) ?_
    have hn2 := hn.resolve_left (by rw [b32_qn]; omega)
    have e23 : ((Jvm.FP.Core.b32.p : Nat) : Int) - 1 = ((23 : Nat) : Int) := by decide
    rw [e23, ← Jvm.FP.Core.units_below] at hn2
    exact Nat.le_of_not_lt hn2
  have hle2 : Jvm.FP.Core.nearest (Jvm.FP.Core.unitsNum A e z) (Jvm.FP.Core.unitsDen B e z) ≤ 16777216 := hle
  unfold Jvm.FP.Core.roundRatio
  rw [if_neg (by omega), hq]
  unfold Jvm.FP.Core.roundAt
  generalize Jvm.FP.Core.nearest (Jvm.FP.Core.unitsNum A e z) (Jvm.FP.Core.unitsDen B e z) = c at *
  unfold Jvm.FP.Core.settle Jvm.FP.Core.bound
  rw [b32_qx, b32_ts]
  by_cases c1 : c < 16777216
  · have c1' : c < 2 ^ Jvm.FP.Core.b32.p := c1
    rw [if_pos c1', if_pos (by omega)]
    exact ⟨c, z, rfl, ⟨hge, c1⟩, Or.inl rfl⟩
  · have c1' : ¬ c < 2 ^ Jvm.FP.Core.b32.p := c1
    rw [if_neg c1', if_pos (by omega)]
    exact ⟨8388608, z + 1, rfl, ⟨by omega, by omega⟩, Or.inr rfl⟩
theorem i2f_n {z : Int} (h : 1 ≤ z ∧ z ≤ 2147483647) : ∃ (c : Nat) (q : Int), Jvm.FP.Core.val32 (Jvm.FP.i2f (iI z)) = .fin false c q ∧ (8388608 ≤ c ∧ c < 16777216) ∧ -23 ≤ q ∧ q ≤ 8 := by
  rw [Jvm.FP.Core.val32_i2f, iI_toInt (by omega)]
  have e : Jvm.FP.Core.ofInt z = .fin false z.natAbs 0 := by
    unfold Jvm.FP.Core.ofInt
    rw [decide_eq_false (by omega)]
  rw [e]
  have l0 : (1 : Nat).log2 = 0 := by decide
  have hz : z.natAbs.log2 < 31 := (Nat.log2_lt (by omega)).mpr (by omega)
  have hl : Jvm.FP.Core.leading z.natAbs 1 = (z.natAbs.log2 : Int) := by
    have hp := Nat.log2_self_le (n := z.natAbs) (by omega)
    unfold Jvm.FP.Core.leading
    dsimp only
    rw [l0]
    have g1 : ((z.natAbs.log2 : Int) - ((0 : Nat) : Int)).toNat = z.natAbs.log2 := by omega
    have g2 : (-((z.natAbs.log2 : Int) - ((0 : Nat) : Int))).toNat = 0 := by omega
    rw [g1, g2, Nat.pow_zero, if_pos (by omega)]
    omega
  obtain ⟨c, q, h1, h2, h3⟩ := ratio_n (A := z.natAbs) (B := 1) (e := 0) (by omega) (by omega) (by omega) (by omega)
  exact ⟨c, q, h1, h2, by omega⟩
theorem share_n {a b : Int} (ha : 1 ≤ a ∧ a ≤ 2147483647) (hb : 1 ≤ b ∧ b ≤ 2147483647) : ∃ E T : Nat, (1 ≤ E ∧ E ≤ 254 ∧ T < 8388608) ∧ Jvm.FP.fdiv (Jvm.FP.i2f (iI a)) (Jvm.FP.i2f (iI b)) = nF E T := by
  obtain ⟨c, q, h1, h2, h3⟩ := i2f_n ha
  obtain ⟨d, r, g1, g2, g3⟩ := i2f_n hb
  have lc : c.log2 = 23 := by
    have u1 : c.log2 < 24 := (Nat.log2_lt (by omega)).mpr (by omega)
    have u2 : 23 ≤ c.log2 := (Nat.le_log2 (by omega)).mpr (by omega)
    omega
  have ld : d.log2 = 23 := by
    have u1 : d.log2 < 24 := (Nat.log2_lt (by omega)).mpr (by omega)
    have u2 : 23 ≤ d.log2 := (Nat.le_log2 (by omega)).mpr (by omega)
    omega
  have hl : Jvm.FP.Core.leading c d = 0 ∨ Jvm.FP.Core.leading c d = -1 := by
    unfold Jvm.FP.Core.leading
    dsimp only
    rw [lc, ld]
    split
    · left; omega
    · right; omega
  obtain ⟨c2, q2, k1, k2, -⟩ := ratio_n (A := c) (B := d) (e := q - r) (by omega) (by omega) (by omega) (by omega)
  have hv : Jvm.FP.Core.val32 (Jvm.FP.fdiv (Jvm.FP.i2f (iI a)) (Jvm.FP.i2f (iI b))) = .fin false c2 q2 := by
    rw [Jvm.FP.Core.val32_fdiv, h1, g1, ← k1]
    show (if d = 0 then (if c = 0 then Jvm.FP.Core.Datum.nan else Jvm.FP.Core.Datum.inf (false != false)) else Jvm.FP.Core.roundRatio Jvm.FP.Core.b32 (false != false) c d (q - r)) = _
    rw [if_neg (by omega)]
    rfl
  obtain ⟨E, T, w1, w2, -⟩ := nF_of hv k2.1
  exact ⟨E, T, w1, w2⟩
