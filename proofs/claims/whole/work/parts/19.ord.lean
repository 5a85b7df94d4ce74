theorem lk2_52 : LkV RX2 52 yX2_isSignLeft cX2_isSignLeft 3 (some .boolean) 2 := ⟨tb_570, tb_567, tb_569, tb_23, tb_75, by decide +kernel⟩
theorem lk2_56 : LkV RX2 56 yX2_isDigitLeft cX2_isDigitLeft 3 (some .boolean) 2 := ⟨tb_578, tb_575, tb_577, tb_25, tb_75, by decide +kernel⟩
/-! orders -/
section X13
variable {p : Program} {l : Launch} {e : Env} {R : Room} {s : State} {m : MethodId} {args : Array Value} {below : List Frame} {meth : Method} {c : Code} {H H0 : Heap} {locs : List Loc} {cells slots : Nat} {Q : State → Prop} {A : Nat → Prop} {pc : Nat} {ls : Array Slot} {rest : List Value} {cc : ByteArray} {nL : Nat} {own : String} {D : va_G} {cs : Nat → ClassId} {ws : va_W} {a : Nat}
theorem x_alenC (hC : Cx p s m args c cc nL own D cs) (hP : va_P D vwCl ws H) (q0 : Nat) {n : Nat} {g : Int → Int} (he : ws[q0]? = some (a, arI (cs 2) n g)) (d : decode cc pc = .ok (.arraylength, 1)) (kk : W p l e R s m args below meth c H locs cells slots Q (F0 m (pc + 1) ls (.int (iI (n : Int)) :: rest))) : W p l e R s m args below meth c H locs cells slots Q (F0 m pc ls (.ref a :: rest)) := va_alen hC.1 hC.2.1 hC.2.2.2.2.2.1 hP q0 2 he rfl (iI_nat n).symm d kk
end X13
theorem zCh (k : Int) (h : 0 ≤ k ∧ k ≤ 127) : (narrow .char (.int (iI k)) = .int (iI k) ∧ fits .char (.int (iI k)) = true) ∧ vp_nar .char (iI k) = iI k ∧ ((iI k).toUInt32 % 65536).toInt32 = iI k := by
  obtain ⟨n, rfl⟩ := Int.eq_ofNat_of_zero_le h.1
  have : ∀ n : Nat, n < 128 → ((narrow .char (.int (iI (n : Int))) = .int (iI (n : Int)) ∧ fits .char (.int (iI (n : Int))) = true) ∧ vp_nar .char (iI (n : Int)) = iI (n : Int) ∧ ((iI (n : Int)).toUInt32 % 65536).toInt32 = iI (n : Int)) := by decide +kernel
  exact this n (by omega)
theorem zKd {v : Int} (h : 0 ≤ v ∧ v ≤ 127) : ∀ ty, parseFieldDescriptor (TX2 1).2.2.1 = some ty → narrow ty (.int (iI v)) = .int (iI v) ∧ fits ty (.int (iI v)) = true := by
  intro ty ht
  have h2 := (tyX2_ok 1 (by decide)).symm.trans ht
  cases h2
  exact (zCh v h).1
theorem mSg_t {T : Int → Int} {a n : Int} (h : a < n) : mSg T a n = T a := iif_t h
theorem u1_id {α : Type} (f : Int → α) (i : Int) : u1 f i (f i) = f := by
  funext j
  unfold u1
  split
  · subst j; rfl
  · rfl
theorem u1_i0 (f : Int → Int) (i : Int) : u1 f i (f i + 0) = f := by rw [Int.add_zero, u1_id]
/-- what is read of an order, step by step: whether, up to where, the numbers -/
noncomputable def cN (T N : Int → Int) (j a n : Int) : Int → Int := iif (mN1 T 1 a n) (u1 N j (mNv T 1 a n)) N
noncomputable def cA (T : Int → Int) (c a n : Int) : Int := mNa T 1 a n + b2p (mWs T 1 (mNa T 1 a n) n c)
noncomputable def cS (T N : Int → Int) (j c a n : Int) (f : (Int → Int) → Int → Prop × Int × (Int → Int)) : Prop × Int × (Int → Int) := iif (mN1 T 1 a n) (iif (mWs T 1 (mNa T 1 a n) n c) (f (cN T N j a n) (cA T c a n)) (False, cA T c a n, cN T N j a n)) (False, mNa T 1 a n, cN T N j a n)
noncomputable def cR1 (T N : Int → Int) (a n : Int) : Prop × Int × (Int → Int) := cS T N 0 59 a n (fun N a => (True, a, N))
noncomputable def cQ3 (T N : Int → Int) (a n : Int) : Prop × Int × (Int → Int) := cS T N 2 59 a n (fun N a => (True, a, N))
noncomputable def cQ2 (T N : Int → Int) (a n : Int) : Prop × Int × (Int → Int) := cS T N 1 44 a n (fun N a => cQ3 T N a n)
noncomputable def cR3 (T N : Int → Int) (a n : Int) : Prop × Int × (Int → Int) := cS T N 0 44 a n (fun N a => cQ2 T N a n)
def oK1 (T : Int → Int) (a n : Int) : Prop := mSg T a n = 119 ∨ mSg T a n = 117
noncomputable def cRd (T N : Int → Int) (a n : Int) : Prop × Int × (Int → Int) := iif (oP3 T a n) (cR3 T N (a + 1) n) (iif (oK1 T a n) (cR1 T N (a + 1) n) (False, a, N))
theorem cS_e {T N : Int → Int} {j c a n : Int} {f : (Int → Int) → Int → Prop × Int × (Int → Int)} (h : ¬ mN1 T 1 a n) : cS T N j c a n f = (False, mNa T 1 a n, cN T N j a n) := iif_f h
theorem cS_f {T N : Int → Int} {j c a n : Int} {f : (Int → Int) → Int → Prop × Int × (Int → Int)} (h : mN1 T 1 a n) (h2 : ¬ mWs T 1 (mNa T 1 a n) n c) : cS T N j c a n f = (False, cA T c a n, cN T N j a n) := by unfold cS; rw [iif_t h, iif_f h2]
theorem cS_t {T N : Int → Int} {j c a n : Int} {f : (Int → Int) → Int → Prop × Int × (Int → Int)} (h : mN1 T 1 a n) (h2 : mWs T 1 (mNa T 1 a n) n c) : cS T N j c a n f = f (cN T N j a n) (cA T c a n) := by unfold cS; rw [iif_t h, iif_t h2]
theorem u1_sw {f : Int → Int} {i j v w : Int} (h : ¬ i = j) : u1 (u1 f i v) j w = u1 (u1 f j w) i v := by
  funext k
  unfold u1
  by_cases c : k = j
  · subst c; rw [if_pos rfl, if_neg (fun q => h q.symm), if_pos rfl]
  · rw [if_neg c]
    by_cases c2 : k = i
    · rw [if_pos c2, if_pos c2]
    · rw [if_neg c2, if_neg c2, if_neg c]
theorem u1_212 (f : Int → Int) (a b c : Int) : u1 (u1 (u1 f 2 a) 1 b) 2 c = u1 (u1 f 1 b) 2 c := by
  rw [u1_sw (f := f) (by omega), u1_uu]

abbrev r2_isSignLeft : Room := { frames := 0, cells := 0, slots := 0, locals := 0 }
set_option maxHeartbeats 4000000 in
set_option maxRecDepth 100000 in
theorem k2_isSignLeft (l : Launch) (D : va_G) (cs : Nat → ClassId) (ho : Nat → Nat) (hg : Nat → Nat) (oG : Int → Int) (oN : Int → Int) (gT : Int → Int) (length : Int) (hu : 0 ≤ (oG 2) ∧ (oG 2) ≤ 60) (hn : 0 ≤ length ∧ length ≤ 60) : CI l D cs yX2_isSignLeft cX2_isSignLeft 3 .boolean r2_isSignLeft 0 0 [.ref (ho 0), .ref (hg 0), .int (iI length)] (wO ho cs oG oN ++ (wG hg cs gT)) (wO ho cs oG oN ++ (wG hg cs gT)) (iI (b2p ((oG 2) < length))) := by
  refine CI_start (own := RX2) (by decide) rfl b2p_nar (Nat.le_of_ble_eq_true rfl) ?_
  intro p e s m args below meth c Q A ls hC hl hP hD hA hS hend
  have hl : lv_has ls 3 [(0, .ref (ho 0)), (1, .ref (hg 0)), (2, .int (iI length))] := hl
  obtain ⟨H, hH⟩ : ∃ H : Heap, H = s.heap := ⟨_, rfl⟩
  have hS : va_S A s.heap H [] := by rw [hH]; exact hS
  rw [← hH] at hP
  obtain ⟨locs, hlocs⟩ : ∃ locs : List Loc, locs = [] := ⟨_, rfl⟩
  rw [← hlocs] at hS
  suffices hgo : W p l e r2_isSignLeft s m args below meth c H locs 0 0 Q (F0 m 0 ls []) by rw [← hH, ← hlocs]; exact hgo
  clear hH hlocs
  refine x_al hC hl 0 dX2_isSignLeft_0 rfl rfl ?_
  refine x_get2 (v := .int (iI (oG 2))) hC hP 0 rfl 2 (by decide) tb_170 rfl rfl dX2_isSignLeft_1 ?_
  refine x_if_lt hC 28 dX2_isSignLeft_4 (by decide) (by omega) (fun c_4 => ?_) (fun c_4 => ?_)
  · refine x_ic hC dX2_isSignLeft_28 ?_
    exact x_retI (congrArg iI (b2p_f (by omega)).symm) hend hP hD hS dX2_isSignLeft_29
  · refine x_al hC hl 0 dX2_isSignLeft_7 rfl rfl ?_
    refine x_get2 (v := .int (iI (oG 2))) hC hP 0 rfl 2 (by decide) tb_170 rfl rfl dX2_isSignLeft_8 ?_
    refine x_il hC hl 2 dX2_isSignLeft_11 rfl rfl ?_
    refine x_ic_ge hC 28 dX2_isSignLeft_12 (by decide) (by omega) (by omega) (fun c_12 => ?_) (fun c_12 => ?_)
    · refine x_ic hC dX2_isSignLeft_28 ?_
      exact x_retI (congrArg iI (b2p_f (by omega)).symm) hend hP hD hS dX2_isSignLeft_29
    · refine x_al hC hl 0 dX2_isSignLeft_15 rfl rfl ?_
      refine x_get2 (v := .int (iI (oG 2))) hC hP 0 rfl 2 (by decide) tb_170 rfl rfl dX2_isSignLeft_16 ?_
      refine x_al hC hl 1 dX2_isSignLeft_19 rfl rfl ?_
      refine x_alenC hC hP 2 rfl dX2_isSignLeft_20 ?_
      refine x_ic_ge hC 28 dX2_isSignLeft_21 (by decide) (by omega) (by omega) (fun c_21 => ?_) (fun c_21 => ?_)
      · refine x_ic hC dX2_isSignLeft_28 ?_
        exact x_retI (congrArg iI (b2p_f (by omega)).symm) hend hP hD hS dX2_isSignLeft_29
      · refine x_ic hC dX2_isSignLeft_24 ?_
        refine x_goto hC 29 dX2_isSignLeft_25 (by decide) ?_
        exact x_retI (congrArg iI (b2p_t (by omega)).symm) hend hP hD hS dX2_isSignLeft_29
abbrev r2_isDigitLeft : Room := { frames := 1, cells := 0, slots := 0, locals := 22 }
set_option maxHeartbeats 4000000 in
set_option maxRecDepth 100000 in
theorem k2_isDigitLeft (l : Launch) (D : va_G) (cs : Nat → ClassId) (ho : Nat → Nat) (hg : Nat → Nat) (oG : Int → Int) (oN : Int → Int) (gT : Int → Int) (length : Int) (hT : IT gT) (hu : 0 ≤ (oG 2) ∧ (oG 2) ≤ 60) (hn : 0 ≤ length ∧ length ≤ 60) : CI l D cs yX2_isDigitLeft cX2_isDigitLeft 3 .boolean r2_isDigitLeft 0 0 [.ref (ho 0), .ref (hg 0), .int (iI length)] (wO ho cs oG oN ++ (wG hg cs gT)) (wO ho cs oG oN ++ (wG hg cs gT)) (iI (b2p (mN1 gT 1 ((oG 2)) length))) := by
  refine CI_start (own := RX2) (by decide) rfl b2p_nar (Nat.le_of_ble_eq_true rfl) ?_
  intro p e s m args below meth c Q A ls hC hl hP hD hA hS hend
  have hl : lv_has ls 3 [(0, .ref (ho 0)), (1, .ref (hg 0)), (2, .int (iI length))] := hl
  obtain ⟨H, hH⟩ : ∃ H : Heap, H = s.heap := ⟨_, rfl⟩
  have hS : va_S A s.heap H [] := by rw [hH]; exact hS
  rw [← hH] at hP
  obtain ⟨locs, hlocs⟩ : ∃ locs : List Loc, locs = [] := ⟨_, rfl⟩
  rw [← hlocs] at hS
  suffices hgo : W p l e r2_isDigitLeft s m args below meth c H locs 0 0 Q (F0 m 0 ls []) by rw [← hH, ← hlocs]; exact hgo
  clear hH hlocs
  refine x_al hC hl 0 dX2_isDigitLeft_0 rfl rfl ?_
  refine x_al hC hl 1 dX2_isDigitLeft_1 rfl rfl ?_
  refine x_il hC hl 2 dX2_isDigitLeft_2 rfl rfl ?_
  refine x_vI (As := [.ref (hg 0), .int (iI length)]) (val := iI (b2p ((oG 2) < length))) hC (k2_isSignLeft l D cs ho hg oG oN gT length (by show 0 ≤ (oG 2) ∧ (oG 2) ≤ 60; first | assumption | omega) (by first | assumption | omega)) lk2_52 (q0 := 0) (ci := 2) rfl rfl rfl (sub_all hP hD hS hA) hP hS rfl hl.1 rfl (Nat.le_of_ble_eq_true rfl) ⟨rfl, rfl⟩ ⟨Nat.le_of_ble_eq_true rfl, Nat.le_of_ble_eq_true rfl⟩ ⟨Nat.le_of_ble_eq_true rfl, Nat.le_of_ble_eq_true rfl⟩ dX2_isDigitLeft_3 (fun H locs hP hD hS hHs => ?_)
  refine x_if_eq_b hC 35 dX2_isDigitLeft_6 (by decide) (fun c_6 => ?_) (fun c_6 => ?_)
  · refine x_ic hC dX2_isDigitLeft_35 ?_
    exact x_retI (congrArg iI (b2p_f (by unfold mN1; first | exact ⟨rfl, by omega⟩ | exact fun h => by have := h.2; omega | exact fun h => c_6 (mSg_lt (T := gT) (by have := h.2; omega)))).symm) hend hP hD hS dX2_isDigitLeft_36
  · have qs := mSg_t (T := gT) c_6
    have qT := hT (oG 2) hu.1 (by omega)
    refine x_al hC hl 1 dX2_isDigitLeft_9 rfl rfl ?_
    refine x_al hC hl 0 dX2_isDigitLeft_10 rfl rfl ?_
    refine x_get2 (v := .int (iI (oG 2))) hC hP 0 rfl 2 (by decide) tb_170 rfl rfl dX2_isDigitLeft_11 ?_
    refine x_cald hC hP 2 rfl (by omega) (by decide) dX2_isDigitLeft_14 ?_
    refine x_bi hC dX2_isDigitLeft_15 (by decide) ?_
    refine x_ic_lt hC 35 dX2_isDigitLeft_17 (by decide) (by omega) (by omega) (fun c_17 => ?_) (fun c_17 => ?_)
    · refine x_ic hC dX2_isDigitLeft_35 ?_
      exact x_retI (congrArg iI (b2p_f (by unfold mN1; first | exact ⟨rfl, by omega⟩ | exact fun h => by have := h.2; omega | exact fun h => c_6 (mSg_lt (T := gT) (by have := h.2; omega)))).symm) hend hP hD hS dX2_isDigitLeft_36
    · refine x_al hC hl 1 dX2_isDigitLeft_20 rfl rfl ?_
      refine x_al hC hl 0 dX2_isDigitLeft_21 rfl rfl ?_
      refine x_get2 (v := .int (iI (oG 2))) hC hP 0 rfl 2 (by decide) tb_170 rfl rfl dX2_isDigitLeft_22 ?_
      refine x_cald hC hP 2 rfl (by omega) (by decide) dX2_isDigitLeft_25 ?_
      refine x_bi hC dX2_isDigitLeft_26 (by decide) ?_
      refine x_ic_gt hC 35 dX2_isDigitLeft_28 (by decide) (by omega) (by omega) (fun c_28 => ?_) (fun c_28 => ?_)
      · refine x_ic hC dX2_isDigitLeft_35 ?_
        exact x_retI (congrArg iI (b2p_f (by unfold mN1; first | exact ⟨rfl, by omega⟩ | exact fun h => by have := h.2; omega | exact fun h => c_6 (mSg_lt (T := gT) (by have := h.2; omega)))).symm) hend hP hD hS dX2_isDigitLeft_36
      · refine x_ic hC dX2_isDigitLeft_31 ?_
        refine x_goto hC 36 dX2_isDigitLeft_32 (by decide) ?_
        exact x_retI (congrArg iI (b2p_t (by unfold mN1; first | exact ⟨rfl, by omega⟩ | exact fun h => by have := h.2; omega | exact fun h => c_6 (mSg_lt (T := gT) (by have := h.2; omega)))).symm) hend hP hD hS dX2_isDigitLeft_36
abbrev r2_readSign : Room := { frames := 1, cells := 0, slots := 0, locals := 22 }
set_option maxHeartbeats 4000000 in
set_option maxRecDepth 100000 in
theorem k2_readSign (l : Launch) (D : va_G) (cs : Nat → ClassId) (ho : Nat → Nat) (hg : Nat → Nat) (oG : Int → Int) (oN : Int → Int) (gT : Int → Int) (length : Int) (sg0 : Int) (hT : IT gT) (hu : 0 ≤ (oG 2) ∧ (oG 2) ≤ 60) (hn : 0 ≤ length ∧ length ≤ 60) (hsg : 1 ≤ sg0 ∧ sg0 ≤ 127) : CI l D cs yX2_readSign cX2_readSign 4 .boolean r2_readSign 0 0 [.ref (ho 0), .ref (hg 0), .int (iI length), .int (iI sg0)] (wO ho cs oG oN ++ (wG hg cs gT)) (wO ho cs (u1 oG 2 ((oG 2) + b2p (mWs gT 1 ((oG 2)) length sg0))) oN ++ (wG hg cs gT)) (iI (b2p (mWs gT 1 ((oG 2)) length sg0))) := by
  refine CI_start (own := RX2) (by decide) rfl b2p_nar (Nat.le_of_ble_eq_true rfl) ?_
  intro p e s m args below meth c Q A ls hC hl hP hD hA hS hend
  have hl : lv_has ls 4 [(0, .ref (ho 0)), (1, .ref (hg 0)), (2, .int (iI length)), (3, .int (iI sg0))] := hl
  obtain ⟨H, hH⟩ : ∃ H : Heap, H = s.heap := ⟨_, rfl⟩
  have hS : va_S A s.heap H [] := by rw [hH]; exact hS
  rw [← hH] at hP
  obtain ⟨locs, hlocs⟩ : ∃ locs : List Loc, locs = [] := ⟨_, rfl⟩
  rw [← hlocs] at hS
  suffices hgo : W p l e r2_readSign s m args below meth c H locs 0 0 Q (F0 m 0 ls []) by rw [← hH, ← hlocs]; exact hgo
  clear hH hlocs
  refine x_al hC hl 0 dX2_readSign_0 rfl rfl ?_
  refine x_al hC hl 1 dX2_readSign_1 rfl rfl ?_
  refine x_il hC hl 2 dX2_readSign_2 rfl rfl ?_
  refine x_vI (As := [.ref (hg 0), .int (iI length)]) (val := iI (b2p ((oG 2) < length))) hC (k2_isSignLeft l D cs ho hg oG oN gT length (by show 0 ≤ (oG 2) ∧ (oG 2) ≤ 60; first | assumption | omega) (by first | assumption | omega)) lk2_52 (q0 := 0) (ci := 2) rfl rfl rfl (sub_all hP hD hS hA) hP hS rfl hl.1 rfl (Nat.le_of_ble_eq_true rfl) ⟨rfl, rfl⟩ ⟨Nat.le_of_ble_eq_true rfl, Nat.le_of_ble_eq_true rfl⟩ ⟨Nat.le_of_ble_eq_true rfl, Nat.le_of_ble_eq_true rfl⟩ dX2_readSign_3 (fun H locs hP hD hS hHs => ?_)
  refine x_if_eq_b hC 19 dX2_readSign_6 (by decide) (fun c_6 => ?_) (fun c_6 => ?_)
  · have qn : ¬ mWs gT 1 (oG 2) length sg0 := fun h => by have h2 := h.2; by_cases c : oG 2 < length; (first | (exact absurd c c_6) | omega); have := mSg_lt (T := gT) (a := oG 2) (n := length) (by omega); omega
    refine x_ic hC dX2_readSign_19 ?_
    have ew : (wO ho cs oG oN ++ (wG hg cs gT)) = (wO ho cs (u1 oG 2 ((oG 2) + b2p (mWs gT 1 ((oG 2)) length sg0))) oN ++ (wG hg cs gT)) := (appc (wOc (by first | rw [b2p_t qy] | rw [b2p_f qn, u1_i0] : oG = u1 oG 2 ((oG 2) + b2p (mWs gT 1 ((oG 2)) length sg0))) rfl) rfl)
    have hP := vPe hP ew
    have hD := vDe hD ew
    exact x_retI (congrArg iI (b2p_f (by first | exact qy | exact qn)).symm) hend hP hD hS dX2_readSign_20
  · have qs := mSg_t (T := gT) c_6
    have qT := hT (oG 2) hu.1 (by omega)
    refine x_al hC hl 1 dX2_readSign_9 rfl rfl ?_
    refine x_al hC hl 0 dX2_readSign_10 rfl rfl ?_
    refine x_get2 (v := .int (iI (oG 2))) hC hP 0 rfl 2 (by decide) tb_170 rfl rfl dX2_readSign_11 ?_
    refine x_cald hC hP 2 rfl (by omega) (by decide) dX2_readSign_14 ?_
    refine x_il hC hl 3 dX2_readSign_15 rfl rfl ?_
    refine x_ic_eq hC 21 dX2_readSign_16 (by decide) (by omega) (by omega) (fun c_16 => ?_) (fun c_16 => ?_)
    · have qy : mWs gT 1 (oG 2) length sg0 := ⟨rfl, by omega⟩
      refine x_al hC hl 0 dX2_readSign_21 rfl rfl ?_
      refine x_dup hC dX2_readSign_22 rfl ?_
      refine x_get2 (v := .int (iI (oG 2))) hC hP 0 rfl 2 (by decide) tb_170 rfl rfl dX2_readSign_23 ?_
      refine x_ic hC dX2_readSign_26 ?_
      refine x_iadd hC dX2_readSign_27 ?_
      refine x_put2_2 hC hP hD hS 0 rfl tb_170 dX2_readSign_28 (fun H locs hP hD hS => ?_)
      have hP : va_P D vwCl (wO ho cs (u1 oG 2 ((oG 2) + 1)) oN ++ (wG hg cs gT)) H := hP
      have hD : va_D A (wO ho cs (u1 oG 2 ((oG 2) + 1)) oN ++ (wG hg cs gT)) := hD
      refine x_ic hC dX2_readSign_31 ?_
      have ew_2 : (wO ho cs (u1 oG 2 ((oG 2) + 1)) oN ++ (wG hg cs gT)) = (wO ho cs (u1 oG 2 ((oG 2) + b2p (mWs gT 1 ((oG 2)) length sg0))) oN ++ (wG hg cs gT)) := (appc (wOc (by first | rw [b2p_t qy] | rw [b2p_f qn, u1_i0] : u1 oG 2 ((oG 2) + 1) = u1 oG 2 ((oG 2) + b2p (mWs gT 1 ((oG 2)) length sg0))) rfl) rfl)
      have hP := vPe hP ew_2
      have hD := vDe hD ew_2
      exact x_retI (congrArg iI (b2p_t (by first | exact qy | exact qn)).symm) hend hP hD hS dX2_readSign_32
    · have qn : ¬ mWs gT 1 (oG 2) length sg0 := fun h => by have h2 := h.2; by_cases c : oG 2 < length; (first | (exact absurd c c_6) | omega); have := mSg_lt (T := gT) (a := oG 2) (n := length) (by omega); omega
      refine x_ic hC dX2_readSign_19 ?_
      have ew_3 : (wO ho cs oG oN ++ (wG hg cs gT)) = (wO ho cs (u1 oG 2 ((oG 2) + b2p (mWs gT 1 ((oG 2)) length sg0))) oN ++ (wG hg cs gT)) := (appc (wOc (by first | rw [b2p_t qy] | rw [b2p_f qn, u1_i0] : oG = u1 oG 2 ((oG 2) + b2p (mWs gT 1 ((oG 2)) length sg0))) rfl) rfl)
      have hP := vPe hP ew_3
      have hD := vDe hD ew_3
      exact x_retI (congrArg iI (b2p_f (by first | exact qy | exact qn)).symm) hend hP hD hS dX2_readSign_20
abbrev r2_readNumber : Room := { frames := 2, cells := 0, slots := 0, locals := 44 }
set_option maxHeartbeats 4000000 in
set_option maxRecDepth 100000 in
theorem k2_readNumber (l : Launch) (D : va_G) (cs : Nat → ClassId) (ho : Nat → Nat) (hg : Nat → Nat) (oG : Int → Int) (oN : Int → Int) (gT : Int → Int) (length : Int) (which : Int) (hT : IT gT) (hu : 0 ≤ (oG 2) ∧ (oG 2) ≤ 60) (hn : 0 ≤ length ∧ length ≤ 60) (hw : 0 ≤ which ∧ which ≤ 2) : CI l D cs yX2_readNumber cX2_readNumber 4 .boolean r2_readNumber 0 0 [.ref (ho 0), .ref (hg 0), .int (iI length), .int (iI which)] (wO ho cs oG oN ++ (wG hg cs gT)) (wO ho cs (u1 oG 2 (mNa gT 1 ((oG 2)) length)) (cN gT oN which ((oG 2)) length) ++ (wG hg cs gT)) (iI (b2p (mN1 gT 1 ((oG 2)) length))) := by
  refine CI_start (own := RX2) (by decide) rfl b2p_nar (Nat.le_of_ble_eq_true rfl) ?_
  intro p e s m args below meth c Q A ls hC hl hP hD hA hS hend
  have hl : lv_has ls 4 [(0, .ref (ho 0)), (1, .ref (hg 0)), (2, .int (iI length)), (3, .int (iI which))] := hl
  obtain ⟨H, hH⟩ : ∃ H : Heap, H = s.heap := ⟨_, rfl⟩
  have hS : va_S A s.heap H [] := by rw [hH]; exact hS
  rw [← hH] at hP
  obtain ⟨locs, hlocs⟩ : ∃ locs : List Loc, locs = [] := ⟨_, rfl⟩
  rw [← hlocs] at hS
  suffices hgo : W p l e r2_readNumber s m args below meth c H locs 0 0 Q (F0 m 0 ls []) by rw [← hH, ← hlocs]; exact hgo
  clear hH hlocs
  refine x_il hC hl 3 dX2_readNumber_0 rfl rfl ?_
  refine x_if_lt hC 18 dX2_readNumber_1 (by decide) (by omega) (fun c_1 => ?_) (fun c_1 => ?_)
  · exfalso; omega
  · refine x_il hC hl 3 dX2_readNumber_4 rfl rfl ?_
    refine x_ic hC dX2_readNumber_5 ?_
    refine x_ic_ge hC 18 dX2_readNumber_6 (by decide) (by omega) (by omega) (fun c_6 => ?_) (fun c_6 => ?_)
    · exfalso; omega
    · refine x_al hC hl 0 dX2_readNumber_9 rfl rfl ?_
      refine x_al hC hl 1 dX2_readNumber_10 rfl rfl ?_
      refine x_il hC hl 2 dX2_readNumber_11 rfl rfl ?_
      refine x_vI (As := [.ref (hg 0), .int (iI length)]) (val := iI (b2p (mN1 gT 1 ((oG 2)) length))) hC (k2_isDigitLeft l D cs ho hg oG oN gT length (by first | assumption | omega) (by show 0 ≤ (oG 2) ∧ (oG 2) ≤ 60; first | assumption | omega) (by first | assumption | omega)) lk2_56 (q0 := 0) (ci := 2) rfl rfl rfl (sub_all hP hD hS hA) hP hS rfl hl.1 rfl (Nat.le_of_ble_eq_true rfl) ⟨rfl, rfl⟩ ⟨Nat.le_of_ble_eq_true rfl, Nat.le_of_ble_eq_true rfl⟩ ⟨Nat.le_of_ble_eq_true rfl, Nat.le_of_ble_eq_true rfl⟩ dX2_readNumber_12 (fun H locs hP hD hS hHs => ?_)
      refine x_if_ne_b hC 20 dX2_readNumber_15 (by decide) (fun c_15 => ?_) (fun c_15 => ?_)
      · have ql := mSg_lt (T := gT) (a := oG 2) (n := length) (by unfold mN1 at c_15; omega)
        have qs := mSg_t (T := gT) ql
        have qT := hT (oG 2) hu.1 (by omega)
        refine x_al hC hl 0 dX2_readNumber_20 rfl rfl ?_
        refine x_get2 (v := .ref (ho 1)) hC hP 0 rfl 0 (by decide) tb_168 rfl rfl dX2_readNumber_21 ?_
        refine x_il hC hl 3 dX2_readNumber_24 rfl rfl ?_
        refine x_al hC hl 1 dX2_readNumber_25 rfl rfl ?_
        refine x_al hC hl 0 dX2_readNumber_26 rfl rfl ?_
        refine x_get2 (v := .int (iI (oG 2))) hC hP 0 rfl 2 (by decide) tb_170 rfl rfl dX2_readNumber_27 ?_
        refine x_cald hC hP 2 rfl (by omega) (by decide) dX2_readNumber_30 ?_
        refine x_bi hC dX2_readNumber_31 (by decide) ?_
        refine x_isub hC dX2_readNumber_33 ?_
        refine x_iast hC hP hD hS 1 rfl (by omega) (by decide) dX2_readNumber_34 (fun H locs hP hD hS => ?_)
        have hP : va_P D vwCl (wO ho cs oG (u1 oN which ((gT (oG 2)) - 48)) ++ (wG hg cs gT)) H := hP
        have hD : va_D A (wO ho cs oG (u1 oN which ((gT (oG 2)) - 48)) ++ (wG hg cs gT)) := hD
        refine x_al hC hl 0 dX2_readNumber_35 rfl rfl ?_
        refine x_dup hC dX2_readNumber_36 rfl ?_
        refine x_get2 (v := .int (iI (oG 2))) hC hP 0 rfl 2 (by decide) tb_170 rfl rfl dX2_readNumber_37 ?_
        refine x_ic hC dX2_readNumber_40 ?_
        refine x_iadd hC dX2_readNumber_41 ?_
        refine x_put2_2 hC hP hD hS 0 rfl tb_170 dX2_readNumber_42 (fun H locs hP hD hS => ?_)
        have hP : va_P D vwCl (wO ho cs (u1 oG 2 ((oG 2) + 1)) (u1 oN which ((gT (oG 2)) - 48)) ++ (wG hg cs gT)) H := hP
        have hD : va_D A (wO ho cs (u1 oG 2 ((oG 2) + 1)) (u1 oN which ((gT (oG 2)) - 48)) ++ (wG hg cs gT)) := hD
        refine x_al hC hl 0 dX2_readNumber_45 rfl rfl ?_
        refine x_al hC hl 1 dX2_readNumber_46 rfl rfl ?_
        refine x_il hC hl 2 dX2_readNumber_47 rfl rfl ?_
        refine x_vI (As := [.ref (hg 0), .int (iI length)]) (val := iI (b2p (mN1 gT 1 (((oG 2) + 1)) length))) hC (k2_isDigitLeft l D cs ho hg (u1 oG 2 ((oG 2) + 1)) (u1 oN which ((gT (oG 2)) - 48)) gT length (by first | assumption | omega) (by show 0 ≤ ((oG 2) + 1) ∧ ((oG 2) + 1) ≤ 60; first | assumption | omega) (by first | assumption | omega)) lk2_56 (q0 := 0) (ci := 2) rfl rfl rfl (sub_all hP hD hS hA) hP hS rfl hl.1 rfl (Nat.le_of_ble_eq_true rfl) ⟨rfl, rfl⟩ ⟨Nat.le_of_ble_eq_true rfl, Nat.le_of_ble_eq_true rfl⟩ ⟨Nat.le_of_ble_eq_true rfl, Nat.le_of_ble_eq_true rfl⟩ dX2_readNumber_48 (fun H locs hP hD hS hHs => ?_)
        refine x_if_eq_b hC 89 dX2_readNumber_51 (by decide) (fun c_51 => ?_) (fun c_51 => ?_)
        · refine x_ic hC dX2_readNumber_89 ?_
          have ew : (wO ho cs (u1 oG 2 ((oG 2) + 1)) (u1 oN which ((gT (oG 2)) - 48)) ++ (wG hg cs gT)) = (wO ho cs (u1 oG 2 (mNa gT 1 ((oG 2)) length)) (cN gT oN which ((oG 2)) length) ++ (wG hg cs gT)) := (appc (wOc (by unfold mNa; first | (rw [iif_t q2, u1_uu]; done) | (rw [iif_f (fun h => c_51 ⟨rfl, h.2⟩), b2p_t c_15]; done) : u1 oG 2 ((oG 2) + 1) = u1 oG 2 (mNa gT 1 ((oG 2)) length)) (by unfold cN; rw [iif_t c_15]; unfold mNv; first | (rw [iif_t q2, u1_uu, u1_s, qs, qs2]; done) | (rw [iif_f (fun h => c_51 ⟨rfl, h.2⟩), qs]; done) : u1 oN which ((gT (oG 2)) - 48) = cN gT oN which ((oG 2)) length)) rfl)
          have hP := vPe hP ew
          have hD := vDe hD ew
          exact x_retI (congrArg iI (b2p_t (by exact c_15)).symm) hend hP hD hS dX2_readNumber_90
        · have ql2 := mSg_lt (T := gT) (a := oG 2 + 1) (n := length) (by unfold mN1 at c_51; omega)
          have qs2 := mSg_t (T := gT) ql2
          have qT2 := hT (oG 2 + 1) (by omega) (by omega)
          have q2 : mN2 gT 1 (oG 2) length := ⟨c_15, by unfold mN1 at c_51; omega⟩
          refine x_al hC hl 0 dX2_readNumber_54 rfl rfl ?_
          refine x_get2 (v := .ref (ho 1)) hC hP 0 rfl 0 (by decide) tb_168 rfl rfl dX2_readNumber_55 ?_
          refine x_il hC hl 3 dX2_readNumber_58 rfl rfl ?_
          refine x_bi hC dX2_readNumber_59 (by decide) ?_
          refine x_al hC hl 0 dX2_readNumber_61 rfl rfl ?_
          refine x_get2 (v := .ref (ho 1)) hC hP 0 rfl 0 (by decide) tb_168 rfl rfl dX2_readNumber_62 ?_
          refine x_il hC hl 3 dX2_readNumber_65 rfl rfl ?_
          refine x_iald hC hP 1 rfl (by omega) (by decide) dX2_readNumber_66 ?_
          refine x_imul hC dX2_readNumber_67 ?_
          refine x_al hC hl 1 dX2_readNumber_68 rfl rfl ?_
          refine x_al hC hl 0 dX2_readNumber_69 rfl rfl ?_
          refine x_get2 (v := .int (iI ((oG 2) + 1))) hC hP 0 rfl 2 (by decide) tb_170 rfl rfl dX2_readNumber_70 ?_
          refine x_cald hC hP 2 rfl (by omega) (by decide) dX2_readNumber_73 ?_
          refine x_iadd hC dX2_readNumber_74 ?_
          refine x_bi hC dX2_readNumber_75 (by decide) ?_
          refine x_isub hC dX2_readNumber_77 ?_
          refine x_iast hC hP hD hS 1 rfl (by omega) (by decide) dX2_readNumber_78 (fun H locs hP hD hS => ?_)
          have hP : va_P D vwCl (wO ho cs (u1 oG 2 ((oG 2) + 1)) (u1 (u1 oN which ((gT (oG 2)) - 48)) which (((10 * ((u1 oN which ((gT (oG 2)) - 48)) which)) + (gT ((oG 2) + 1))) - 48)) ++ (wG hg cs gT)) H := hP
          have hD : va_D A (wO ho cs (u1 oG 2 ((oG 2) + 1)) (u1 (u1 oN which ((gT (oG 2)) - 48)) which (((10 * ((u1 oN which ((gT (oG 2)) - 48)) which)) + (gT ((oG 2) + 1))) - 48)) ++ (wG hg cs gT)) := hD
          refine x_al hC hl 0 dX2_readNumber_79 rfl rfl ?_
          refine x_dup hC dX2_readNumber_80 rfl ?_
          refine x_get2 (v := .int (iI ((oG 2) + 1))) hC hP 0 rfl 2 (by decide) tb_170 rfl rfl dX2_readNumber_81 ?_
          refine x_ic hC dX2_readNumber_84 ?_
          refine x_iadd hC dX2_readNumber_85 ?_
          refine x_put2_2 hC hP hD hS 0 rfl tb_170 dX2_readNumber_86 (fun H locs hP hD hS => ?_)
          have hP : va_P D vwCl (wO ho cs (u1 (u1 oG 2 ((oG 2) + 1)) 2 (((oG 2) + 1) + 1)) (u1 (u1 oN which ((gT (oG 2)) - 48)) which (((10 * ((u1 oN which ((gT (oG 2)) - 48)) which)) + (gT ((oG 2) + 1))) - 48)) ++ (wG hg cs gT)) H := hP
          have hD : va_D A (wO ho cs (u1 (u1 oG 2 ((oG 2) + 1)) 2 (((oG 2) + 1) + 1)) (u1 (u1 oN which ((gT (oG 2)) - 48)) which (((10 * ((u1 oN which ((gT (oG 2)) - 48)) which)) + (gT ((oG 2) + 1))) - 48)) ++ (wG hg cs gT)) := hD
          refine x_ic hC dX2_readNumber_89 ?_
          have ew_2 : (wO ho cs (u1 (u1 oG 2 ((oG 2) + 1)) 2 (((oG 2) + 1) + 1)) (u1 (u1 oN which ((gT (oG 2)) - 48)) which (((10 * ((u1 oN which ((gT (oG 2)) - 48)) which)) + (gT ((oG 2) + 1))) - 48)) ++ (wG hg cs gT)) = (wO ho cs (u1 oG 2 (mNa gT 1 ((oG 2)) length)) (cN gT oN which ((oG 2)) length) ++ (wG hg cs gT)) := (appc (wOc (by unfold mNa; first | (rw [iif_t q2, u1_uu]; done) | (rw [iif_f (fun h => c_51 ⟨rfl, h.2⟩), b2p_t c_15]; done) : u1 (u1 oG 2 ((oG 2) + 1)) 2 (((oG 2) + 1) + 1) = u1 oG 2 (mNa gT 1 ((oG 2)) length)) (by unfold cN; rw [iif_t c_15]; unfold mNv; first | (rw [iif_t q2, u1_uu, u1_s, qs, qs2]; done) | (rw [iif_f (fun h => c_51 ⟨rfl, h.2⟩), qs]; done) : u1 (u1 oN which ((gT (oG 2)) - 48)) which (((10 * ((u1 oN which ((gT (oG 2)) - 48)) which)) + (gT ((oG 2) + 1))) - 48) = cN gT oN which ((oG 2)) length)) rfl)
          have hP := vPe hP ew_2
          have hD := vDe hD ew_2
          exact x_retI (congrArg iI (b2p_t (by exact c_15)).symm) hend hP hD hS dX2_readNumber_90
      · have q2 : ¬ mN2 gT 1 (oG 2) length := fun h => c_15 h.1
        refine x_ic hC dX2_readNumber_18 ?_
        have ew_3 : (wO ho cs oG oN ++ (wG hg cs gT)) = (wO ho cs (u1 oG 2 (mNa gT 1 ((oG 2)) length)) (cN gT oN which ((oG 2)) length) ++ (wG hg cs gT)) := (appc (wOc (by unfold mNa; rw [iif_f q2, b2p_f c_15, u1_i0] : oG = u1 oG 2 (mNa gT 1 ((oG 2)) length)) (by unfold cN; rw [iif_f c_15] : oN = cN gT oN which ((oG 2)) length)) rfl)
        have hP := vPe hP ew_3
        have hD := vDe hD ew_3
        exact x_retI (congrArg iI (b2p_f (by exact c_15)).symm) hend hP hD hS dX2_readNumber_19
abbrev r2_readKind : Room := { frames := 1, cells := 0, slots := 0, locals := 22 }
set_option maxHeartbeats 4000000 in
set_option maxRecDepth 100000 in
theorem k2_readKindA (l : Launch) (D : va_G) (cs : Nat → ClassId) (ho : Nat → Nat) (hg : Nat → Nat) (oG : Int → Int) (oN : Int → Int) (gT : Int → Int) (length : Int) (hT : IT gT) (hu : 0 ≤ (oG 2) ∧ (oG 2) ≤ 60) (hn : 0 ≤ length ∧ length ≤ 60) (ha : (oG 2) < length) (hk : oP3 gT ((oG 2)) length) : CI l D cs yX2_readKind cX2_readKind 3 .int r2_readKind 0 0 [.ref (ho 0), .ref (hg 0), .int (iI length)] (wO ho cs oG oN ++ (wG hg cs gT)) (wO ho cs (u1 (u1 oG 1 (mSg gT ((oG 2)) length)) 2 ((oG 2) + 1)) oN ++ (wG hg cs gT)) (iI (3)) := by
  refine CI_start (own := RX2) (by decide) rfl rfl (Nat.le_of_ble_eq_true rfl) ?_
  intro p e s m args below meth c Q A ls hC hl hP hD hA hS hend
  have hl : lv_has ls 3 [(0, .ref (ho 0)), (1, .ref (hg 0)), (2, .int (iI length))] := hl
  obtain ⟨H, hH⟩ : ∃ H : Heap, H = s.heap := ⟨_, rfl⟩
  have hS : va_S A s.heap H [] := by rw [hH]; exact hS
  rw [← hH] at hP
  obtain ⟨locs, hlocs⟩ : ∃ locs : List Loc, locs = [] := ⟨_, rfl⟩
  rw [← hlocs] at hS
  suffices hgo : W p l e r2_readKind s m args below meth c H locs 0 0 Q (F0 m 0 ls []) by rw [← hH, ← hlocs]; exact hgo
  clear hH hlocs
  have qs := mSg_t (T := gT) ha
  have qT := hT (oG 2) hu.1 (by omega)
  unfold oP3 at hk
  refine x_al hC hl 0 dX2_readKind_0 rfl rfl ?_
  refine x_al hC hl 1 dX2_readKind_1 rfl rfl ?_
  refine x_il hC hl 2 dX2_readKind_2 rfl rfl ?_
  refine x_vI (As := [.ref (hg 0), .int (iI length)]) (val := iI (b2p ((oG 2) < length))) hC (k2_isSignLeft l D cs ho hg oG oN gT length (by show 0 ≤ (oG 2) ∧ (oG 2) ≤ 60; first | assumption | omega) (by first | assumption | omega)) lk2_52 (q0 := 0) (ci := 2) rfl rfl rfl (sub_all hP hD hS hA) hP hS rfl hl.1 rfl (Nat.le_of_ble_eq_true rfl) ⟨rfl, rfl⟩ ⟨Nat.le_of_ble_eq_true rfl, Nat.le_of_ble_eq_true rfl⟩ ⟨Nat.le_of_ble_eq_true rfl, Nat.le_of_ble_eq_true rfl⟩ dX2_readKind_3 (fun H locs hP hD hS hHs => ?_)
  refine x_if_ne_b hC 11 dX2_readKind_6 (by decide) (fun c_6 => ?_) (fun c_6 => ?_)
  · refine x_al hC hl 0 dX2_readKind_11 rfl rfl ?_
    refine x_al hC hl 1 dX2_readKind_12 rfl rfl ?_
    refine x_al hC hl 0 dX2_readKind_13 rfl rfl ?_
    refine x_get2 (v := .int (iI (oG 2))) hC hP 0 rfl 2 (by decide) tb_170 rfl rfl dX2_readKind_14 ?_
    refine x_cald hC hP 2 rfl (by omega) (by decide) dX2_readKind_17 ?_
    refine x_put2_1 hC hP hD hS 0 rfl tb_169 (zKd (by omega)) dX2_readKind_18 (fun H locs hP hD hS => ?_)
    have hP : va_P D vwCl (wO ho cs (u1 oG 1 (gT (oG 2))) oN ++ (wG hg cs gT)) H := hP
    have hD : va_D A (wO ho cs (u1 oG 1 (gT (oG 2))) oN ++ (wG hg cs gT)) := hD
    refine x_al hC hl 0 dX2_readKind_21 rfl rfl ?_
    refine x_get2 (v := .int (iI (gT (oG 2)))) hC hP 0 rfl 1 (by decide) tb_169 rfl rfl dX2_readKind_22 ?_
    by_cases c_25_114 : gT (oG 2) = 114
    · refine x_tsIn hC 64 dX2_readKind_25 (by rw [c_25_114]; omega) (by rw [c_25_114]; decide) (by rw [c_25_114]; decide) (by rw [c_25_114]; rfl) (by decide) ?_
      refine x_al hC hl 0 dX2_readKind_64 rfl rfl ?_
      refine x_dup hC dX2_readKind_65 rfl ?_
      refine x_get2 (v := .int (iI (oG 2))) hC hP 0 rfl 2 (by decide) tb_170 rfl rfl dX2_readKind_66 ?_
      refine x_ic hC dX2_readKind_69 ?_
      refine x_iadd hC dX2_readKind_70 ?_
      refine x_put2_2 hC hP hD hS 0 rfl tb_170 dX2_readKind_71 (fun H locs hP hD hS => ?_)
      have hP : va_P D vwCl (wO ho cs (u1 (u1 oG 1 (gT (oG 2))) 2 ((oG 2) + 1)) oN ++ (wG hg cs gT)) H := hP
      have hD : va_D A (wO ho cs (u1 (u1 oG 1 (gT (oG 2))) 2 ((oG 2) + 1)) oN ++ (wG hg cs gT)) := hD
      refine x_ic hC dX2_readKind_74 ?_
      have ew : (wO ho cs (u1 (u1 oG 1 (gT (oG 2))) 2 ((oG 2) + 1)) oN ++ (wG hg cs gT)) = (wO ho cs (u1 (u1 oG 1 (mSg gT ((oG 2)) length)) 2 ((oG 2) + 1)) oN ++ (wG hg cs gT)) := (appc (wOc (by first | (rw [qs]; done) | (exfalso; omega) : u1 (u1 oG 1 (gT (oG 2))) 2 ((oG 2) + 1) = u1 (u1 oG 1 (mSg gT ((oG 2)) length)) 2 ((oG 2) + 1)) rfl) rfl)
      have hP := vPe hP ew
      have hD := vDe hD ew
      exact x_retI (rfl) hend hP hD hS dX2_readKind_75
    by_cases c_25_115 : gT (oG 2) = 115
    · refine x_tsIn hC 88 dX2_readKind_25 (by rw [c_25_115]; omega) (by rw [c_25_115]; decide) (by rw [c_25_115]; decide) (by rw [c_25_115]; rfl) (by decide) ?_
      refine x_ic hC dX2_readKind_88 ?_
      have ew_2 : (wO ho cs (u1 oG 1 (gT (oG 2))) oN ++ (wG hg cs gT)) = (wO ho cs (u1 (u1 oG 1 (mSg gT ((oG 2)) length)) 2 ((oG 2) + 1)) oN ++ (wG hg cs gT)) := (appc (wOc (by first | (rw [qs]; done) | (exfalso; omega) : u1 oG 1 (gT (oG 2)) = u1 (u1 oG 1 (mSg gT ((oG 2)) length)) 2 ((oG 2) + 1)) rfl) rfl)
      have hP := vPe hP ew_2
      have hD := vDe hD ew_2
      exact x_retI (congrArg iI (by first | rfl | (exfalso; omega) : (0 : Int) = 3)) hend hP hD hS dX2_readKind_89
    by_cases c_25_116 : gT (oG 2) = 116
    · refine x_tsIn hC 64 dX2_readKind_25 (by rw [c_25_116]; omega) (by rw [c_25_116]; decide) (by rw [c_25_116]; decide) (by rw [c_25_116]; rfl) (by decide) ?_
      refine x_al hC hl 0 dX2_readKind_64 rfl rfl ?_
      refine x_dup hC dX2_readKind_65 rfl ?_
      refine x_get2 (v := .int (iI (oG 2))) hC hP 0 rfl 2 (by decide) tb_170 rfl rfl dX2_readKind_66 ?_
      refine x_ic hC dX2_readKind_69 ?_
      refine x_iadd hC dX2_readKind_70 ?_
      refine x_put2_2 hC hP hD hS 0 rfl tb_170 dX2_readKind_71 (fun H locs hP hD hS => ?_)
      have hP : va_P D vwCl (wO ho cs (u1 (u1 oG 1 (gT (oG 2))) 2 ((oG 2) + 1)) oN ++ (wG hg cs gT)) H := hP
      have hD : va_D A (wO ho cs (u1 (u1 oG 1 (gT (oG 2))) 2 ((oG 2) + 1)) oN ++ (wG hg cs gT)) := hD
      refine x_ic hC dX2_readKind_74 ?_
      have ew_3 : (wO ho cs (u1 (u1 oG 1 (gT (oG 2))) 2 ((oG 2) + 1)) oN ++ (wG hg cs gT)) = (wO ho cs (u1 (u1 oG 1 (mSg gT ((oG 2)) length)) 2 ((oG 2) + 1)) oN ++ (wG hg cs gT)) := (appc (wOc (by first | (rw [qs]; done) | (exfalso; omega) : u1 (u1 oG 1 (gT (oG 2))) 2 ((oG 2) + 1) = u1 (u1 oG 1 (mSg gT ((oG 2)) length)) 2 ((oG 2) + 1)) rfl) rfl)
      have hP := vPe hP ew_3
      have hD := vDe hD ew_3
      exact x_retI (rfl) hend hP hD hS dX2_readKind_75
    by_cases c_25_117 : gT (oG 2) = 117
    · refine x_tsIn hC 76 dX2_readKind_25 (by rw [c_25_117]; omega) (by rw [c_25_117]; decide) (by rw [c_25_117]; decide) (by rw [c_25_117]; rfl) (by decide) ?_
      refine x_al hC hl 0 dX2_readKind_76 rfl rfl ?_
      refine x_dup hC dX2_readKind_77 rfl ?_
      refine x_get2 (v := .int (iI (oG 2))) hC hP 0 rfl 2 (by decide) tb_170 rfl rfl dX2_readKind_78 ?_
      refine x_ic hC dX2_readKind_81 ?_
      refine x_iadd hC dX2_readKind_82 ?_
      refine x_put2_2 hC hP hD hS 0 rfl tb_170 dX2_readKind_83 (fun H locs hP hD hS => ?_)
      have hP : va_P D vwCl (wO ho cs (u1 (u1 oG 1 (gT (oG 2))) 2 ((oG 2) + 1)) oN ++ (wG hg cs gT)) H := hP
      have hD : va_D A (wO ho cs (u1 (u1 oG 1 (gT (oG 2))) 2 ((oG 2) + 1)) oN ++ (wG hg cs gT)) := hD
      refine x_ic hC dX2_readKind_86 ?_
      have ew_4 : (wO ho cs (u1 (u1 oG 1 (gT (oG 2))) 2 ((oG 2) + 1)) oN ++ (wG hg cs gT)) = (wO ho cs (u1 (u1 oG 1 (mSg gT ((oG 2)) length)) 2 ((oG 2) + 1)) oN ++ (wG hg cs gT)) := (appc (wOc (by first | (rw [qs]; done) | (exfalso; omega) : u1 (u1 oG 1 (gT (oG 2))) 2 ((oG 2) + 1) = u1 (u1 oG 1 (mSg gT ((oG 2)) length)) 2 ((oG 2) + 1)) rfl) rfl)
      have hP := vPe hP ew_4
      have hD := vDe hD ew_4
      exact x_retI (congrArg iI (by first | rfl | (exfalso; omega) : (1 : Int) = 3)) hend hP hD hS dX2_readKind_87
    by_cases c_25_118 : gT (oG 2) = 118
    · refine x_tsIn hC 88 dX2_readKind_25 (by rw [c_25_118]; omega) (by rw [c_25_118]; decide) (by rw [c_25_118]; decide) (by rw [c_25_118]; rfl) (by decide) ?_
      refine x_ic hC dX2_readKind_88 ?_
      have ew_5 : (wO ho cs (u1 oG 1 (gT (oG 2))) oN ++ (wG hg cs gT)) = (wO ho cs (u1 (u1 oG 1 (mSg gT ((oG 2)) length)) 2 ((oG 2) + 1)) oN ++ (wG hg cs gT)) := (appc (wOc (by first | (rw [qs]; done) | (exfalso; omega) : u1 oG 1 (gT (oG 2)) = u1 (u1 oG 1 (mSg gT ((oG 2)) length)) 2 ((oG 2) + 1)) rfl) rfl)
      have hP := vPe hP ew_5
      have hD := vDe hD ew_5
      exact x_retI (congrArg iI (by first | rfl | (exfalso; omega) : (0 : Int) = 3)) hend hP hD hS dX2_readKind_89
    by_cases c_25_119 : gT (oG 2) = 119
    · refine x_tsIn hC 76 dX2_readKind_25 (by rw [c_25_119]; omega) (by rw [c_25_119]; decide) (by rw [c_25_119]; decide) (by rw [c_25_119]; rfl) (by decide) ?_
      refine x_al hC hl 0 dX2_readKind_76 rfl rfl ?_
      refine x_dup hC dX2_readKind_77 rfl ?_
      refine x_get2 (v := .int (iI (oG 2))) hC hP 0 rfl 2 (by decide) tb_170 rfl rfl dX2_readKind_78 ?_
      refine x_ic hC dX2_readKind_81 ?_
      refine x_iadd hC dX2_readKind_82 ?_
      refine x_put2_2 hC hP hD hS 0 rfl tb_170 dX2_readKind_83 (fun H locs hP hD hS => ?_)
      have hP : va_P D vwCl (wO ho cs (u1 (u1 oG 1 (gT (oG 2))) 2 ((oG 2) + 1)) oN ++ (wG hg cs gT)) H := hP
      have hD : va_D A (wO ho cs (u1 (u1 oG 1 (gT (oG 2))) 2 ((oG 2) + 1)) oN ++ (wG hg cs gT)) := hD
      refine x_ic hC dX2_readKind_86 ?_
      have ew_6 : (wO ho cs (u1 (u1 oG 1 (gT (oG 2))) 2 ((oG 2) + 1)) oN ++ (wG hg cs gT)) = (wO ho cs (u1 (u1 oG 1 (mSg gT ((oG 2)) length)) 2 ((oG 2) + 1)) oN ++ (wG hg cs gT)) := (appc (wOc (by first | (rw [qs]; done) | (exfalso; omega) : u1 (u1 oG 1 (gT (oG 2))) 2 ((oG 2) + 1) = u1 (u1 oG 1 (mSg gT ((oG 2)) length)) 2 ((oG 2) + 1)) rfl) rfl)
      have hP := vPe hP ew_6
      have hD := vDe hD ew_6
      exact x_retI (congrArg iI (by first | rfl | (exfalso; omega) : (1 : Int) = 3)) hend hP hD hS dX2_readKind_87
    refine x_tsOut hC 88 dX2_readKind_25 (by omega) (by omega) (by decide) ?_
    refine x_ic hC dX2_readKind_88 ?_
    have ew_7 : (wO ho cs (u1 oG 1 (gT (oG 2))) oN ++ (wG hg cs gT)) = (wO ho cs (u1 (u1 oG 1 (mSg gT ((oG 2)) length)) 2 ((oG 2) + 1)) oN ++ (wG hg cs gT)) := (appc (wOc (by first | (rw [qs]; done) | (exfalso; omega) : u1 oG 1 (gT (oG 2)) = u1 (u1 oG 1 (mSg gT ((oG 2)) length)) 2 ((oG 2) + 1)) rfl) rfl)
    have hP := vPe hP ew_7
    have hD := vDe hD ew_7
    exact x_retI (congrArg iI (by first | rfl | (exfalso; omega) : (0 : Int) = 3)) hend hP hD hS dX2_readKind_89
  · exact absurd ha c_6
set_option maxHeartbeats 4000000 in
set_option maxRecDepth 100000 in
theorem k2_readKindB (l : Launch) (D : va_G) (cs : Nat → ClassId) (ho : Nat → Nat) (hg : Nat → Nat) (oG : Int → Int) (oN : Int → Int) (gT : Int → Int) (length : Int) (hT : IT gT) (hu : 0 ≤ (oG 2) ∧ (oG 2) ≤ 60) (hn : 0 ≤ length ∧ length ≤ 60) (ha : (oG 2) < length) (hk : oK1 gT ((oG 2)) length) : CI l D cs yX2_readKind cX2_readKind 3 .int r2_readKind 0 0 [.ref (ho 0), .ref (hg 0), .int (iI length)] (wO ho cs oG oN ++ (wG hg cs gT)) (wO ho cs (u1 (u1 oG 1 (mSg gT ((oG 2)) length)) 2 ((oG 2) + 1)) oN ++ (wG hg cs gT)) (iI (1)) := by
  refine CI_start (own := RX2) (by decide) rfl rfl (Nat.le_of_ble_eq_true rfl) ?_
  intro p e s m args below meth c Q A ls hC hl hP hD hA hS hend
  have hl : lv_has ls 3 [(0, .ref (ho 0)), (1, .ref (hg 0)), (2, .int (iI length))] := hl
  obtain ⟨H, hH⟩ : ∃ H : Heap, H = s.heap := ⟨_, rfl⟩
  have hS : va_S A s.heap H [] := by rw [hH]; exact hS
  rw [← hH] at hP
  obtain ⟨locs, hlocs⟩ : ∃ locs : List Loc, locs = [] := ⟨_, rfl⟩
  rw [← hlocs] at hS
  suffices hgo : W p l e r2_readKind s m args below meth c H locs 0 0 Q (F0 m 0 ls []) by rw [← hH, ← hlocs]; exact hgo
  clear hH hlocs
  have qs := mSg_t (T := gT) ha
  have qT := hT (oG 2) hu.1 (by omega)
  unfold oK1 at hk
  refine x_al hC hl 0 dX2_readKind_0 rfl rfl ?_
  refine x_al hC hl 1 dX2_readKind_1 rfl rfl ?_
  refine x_il hC hl 2 dX2_readKind_2 rfl rfl ?_
  refine x_vI (As := [.ref (hg 0), .int (iI length)]) (val := iI (b2p ((oG 2) < length))) hC (k2_isSignLeft l D cs ho hg oG oN gT length (by show 0 ≤ (oG 2) ∧ (oG 2) ≤ 60; first | assumption | omega) (by first | assumption | omega)) lk2_52 (q0 := 0) (ci := 2) rfl rfl rfl (sub_all hP hD hS hA) hP hS rfl hl.1 rfl (Nat.le_of_ble_eq_true rfl) ⟨rfl, rfl⟩ ⟨Nat.le_of_ble_eq_true rfl, Nat.le_of_ble_eq_true rfl⟩ ⟨Nat.le_of_ble_eq_true rfl, Nat.le_of_ble_eq_true rfl⟩ dX2_readKind_3 (fun H locs hP hD hS hHs => ?_)
  refine x_if_ne_b hC 11 dX2_readKind_6 (by decide) (fun c_6 => ?_) (fun c_6 => ?_)
  · refine x_al hC hl 0 dX2_readKind_11 rfl rfl ?_
    refine x_al hC hl 1 dX2_readKind_12 rfl rfl ?_
    refine x_al hC hl 0 dX2_readKind_13 rfl rfl ?_
    refine x_get2 (v := .int (iI (oG 2))) hC hP 0 rfl 2 (by decide) tb_170 rfl rfl dX2_readKind_14 ?_
    refine x_cald hC hP 2 rfl (by omega) (by decide) dX2_readKind_17 ?_
    refine x_put2_1 hC hP hD hS 0 rfl tb_169 (zKd (by omega)) dX2_readKind_18 (fun H locs hP hD hS => ?_)
    have hP : va_P D vwCl (wO ho cs (u1 oG 1 (gT (oG 2))) oN ++ (wG hg cs gT)) H := hP
    have hD : va_D A (wO ho cs (u1 oG 1 (gT (oG 2))) oN ++ (wG hg cs gT)) := hD
    refine x_al hC hl 0 dX2_readKind_21 rfl rfl ?_
    refine x_get2 (v := .int (iI (gT (oG 2)))) hC hP 0 rfl 1 (by decide) tb_169 rfl rfl dX2_readKind_22 ?_
    by_cases c_25_114 : gT (oG 2) = 114
    · refine x_tsIn hC 64 dX2_readKind_25 (by rw [c_25_114]; omega) (by rw [c_25_114]; decide) (by rw [c_25_114]; decide) (by rw [c_25_114]; rfl) (by decide) ?_
      refine x_al hC hl 0 dX2_readKind_64 rfl rfl ?_
      refine x_dup hC dX2_readKind_65 rfl ?_
      refine x_get2 (v := .int (iI (oG 2))) hC hP 0 rfl 2 (by decide) tb_170 rfl rfl dX2_readKind_66 ?_
      refine x_ic hC dX2_readKind_69 ?_
      refine x_iadd hC dX2_readKind_70 ?_
      refine x_put2_2 hC hP hD hS 0 rfl tb_170 dX2_readKind_71 (fun H locs hP hD hS => ?_)
      have hP : va_P D vwCl (wO ho cs (u1 (u1 oG 1 (gT (oG 2))) 2 ((oG 2) + 1)) oN ++ (wG hg cs gT)) H := hP
      have hD : va_D A (wO ho cs (u1 (u1 oG 1 (gT (oG 2))) 2 ((oG 2) + 1)) oN ++ (wG hg cs gT)) := hD
      refine x_ic hC dX2_readKind_74 ?_
      have ew : (wO ho cs (u1 (u1 oG 1 (gT (oG 2))) 2 ((oG 2) + 1)) oN ++ (wG hg cs gT)) = (wO ho cs (u1 (u1 oG 1 (mSg gT ((oG 2)) length)) 2 ((oG 2) + 1)) oN ++ (wG hg cs gT)) := (appc (wOc (by first | (rw [qs]; done) | (exfalso; omega) : u1 (u1 oG 1 (gT (oG 2))) 2 ((oG 2) + 1) = u1 (u1 oG 1 (mSg gT ((oG 2)) length)) 2 ((oG 2) + 1)) rfl) rfl)
      have hP := vPe hP ew
      have hD := vDe hD ew
      exact x_retI (congrArg iI (by first | rfl | (exfalso; omega) : (3 : Int) = 1)) hend hP hD hS dX2_readKind_75
    by_cases c_25_115 : gT (oG 2) = 115
    · refine x_tsIn hC 88 dX2_readKind_25 (by rw [c_25_115]; omega) (by rw [c_25_115]; decide) (by rw [c_25_115]; decide) (by rw [c_25_115]; rfl) (by decide) ?_
      refine x_ic hC dX2_readKind_88 ?_
      have ew_2 : (wO ho cs (u1 oG 1 (gT (oG 2))) oN ++ (wG hg cs gT)) = (wO ho cs (u1 (u1 oG 1 (mSg gT ((oG 2)) length)) 2 ((oG 2) + 1)) oN ++ (wG hg cs gT)) := (appc (wOc (by first | (rw [qs]; done) | (exfalso; omega) : u1 oG 1 (gT (oG 2)) = u1 (u1 oG 1 (mSg gT ((oG 2)) length)) 2 ((oG 2) + 1)) rfl) rfl)
      have hP := vPe hP ew_2
      have hD := vDe hD ew_2
      exact x_retI (congrArg iI (by first | rfl | (exfalso; omega) : (0 : Int) = 1)) hend hP hD hS dX2_readKind_89
    by_cases c_25_116 : gT (oG 2) = 116
    · refine x_tsIn hC 64 dX2_readKind_25 (by rw [c_25_116]; omega) (by rw [c_25_116]; decide) (by rw [c_25_116]; decide) (by rw [c_25_116]; rfl) (by decide) ?_
      refine x_al hC hl 0 dX2_readKind_64 rfl rfl ?_
      refine x_dup hC dX2_readKind_65 rfl ?_
      refine x_get2 (v := .int (iI (oG 2))) hC hP 0 rfl 2 (by decide) tb_170 rfl rfl dX2_readKind_66 ?_
      refine x_ic hC dX2_readKind_69 ?_
      refine x_iadd hC dX2_readKind_70 ?_
      refine x_put2_2 hC hP hD hS 0 rfl tb_170 dX2_readKind_71 (fun H locs hP hD hS => ?_)
      have hP : va_P D vwCl (wO ho cs (u1 (u1 oG 1 (gT (oG 2))) 2 ((oG 2) + 1)) oN ++ (wG hg cs gT)) H := hP
      have hD : va_D A (wO ho cs (u1 (u1 oG 1 (gT (oG 2))) 2 ((oG 2) + 1)) oN ++ (wG hg cs gT)) := hD
      refine x_ic hC dX2_readKind_74 ?_
      have ew_3 : (wO ho cs (u1 (u1 oG 1 (gT (oG 2))) 2 ((oG 2) + 1)) oN ++ (wG hg cs gT)) = (wO ho cs (u1 (u1 oG 1 (mSg gT ((oG 2)) length)) 2 ((oG 2) + 1)) oN ++ (wG hg cs gT)) := (appc (wOc (by first | (rw [qs]; done) | (exfalso; omega) : u1 (u1 oG 1 (gT (oG 2))) 2 ((oG 2) + 1) = u1 (u1 oG 1 (mSg gT ((oG 2)) length)) 2 ((oG 2) + 1)) rfl) rfl)
      have hP := vPe hP ew_3
      have hD := vDe hD ew_3
      exact x_retI (congrArg iI (by first | rfl | (exfalso; omega) : (3 : Int) = 1)) hend hP hD hS dX2_readKind_75
    by_cases c_25_117 : gT (oG 2) = 117
    · refine x_tsIn hC 76 dX2_readKind_25 (by rw [c_25_117]; omega) (by rw [c_25_117]; decide) (by rw [c_25_117]; decide) (by rw [c_25_117]; rfl) (by decide) ?_
      refine x_al hC hl 0 dX2_readKind_76 rfl rfl ?_
      refine x_dup hC dX2_readKind_77 rfl ?_
      refine x_get2 (v := .int (iI (oG 2))) hC hP 0 rfl 2 (by decide) tb_170 rfl rfl dX2_readKind_78 ?_
      refine x_ic hC dX2_readKind_81 ?_
      refine x_iadd hC dX2_readKind_82 ?_
      refine x_put2_2 hC hP hD hS 0 rfl tb_170 dX2_readKind_83 (fun H locs hP hD hS => ?_)
      have hP : va_P D vwCl (wO ho cs (u1 (u1 oG 1 (gT (oG 2))) 2 ((oG 2) + 1)) oN ++ (wG hg cs gT)) H := hP
      have hD : va_D A (wO ho cs (u1 (u1 oG 1 (gT (oG 2))) 2 ((oG 2) + 1)) oN ++ (wG hg cs gT)) := hD
      refine x_ic hC dX2_readKind_86 ?_
      have ew_4 : (wO ho cs (u1 (u1 oG 1 (gT (oG 2))) 2 ((oG 2) + 1)) oN ++ (wG hg cs gT)) = (wO ho cs (u1 (u1 oG 1 (mSg gT ((oG 2)) length)) 2 ((oG 2) + 1)) oN ++ (wG hg cs gT)) := (appc (wOc (by first | (rw [qs]; done) | (exfalso; omega) : u1 (u1 oG 1 (gT (oG 2))) 2 ((oG 2) + 1) = u1 (u1 oG 1 (mSg gT ((oG 2)) length)) 2 ((oG 2) + 1)) rfl) rfl)
      have hP := vPe hP ew_4
      have hD := vDe hD ew_4
      exact x_retI (rfl) hend hP hD hS dX2_readKind_87
    by_cases c_25_118 : gT (oG 2) = 118
    · refine x_tsIn hC 88 dX2_readKind_25 (by rw [c_25_118]; omega) (by rw [c_25_118]; decide) (by rw [c_25_118]; decide) (by rw [c_25_118]; rfl) (by decide) ?_
      refine x_ic hC dX2_readKind_88 ?_
      have ew_5 : (wO ho cs (u1 oG 1 (gT (oG 2))) oN ++ (wG hg cs gT)) = (wO ho cs (u1 (u1 oG 1 (mSg gT ((oG 2)) length)) 2 ((oG 2) + 1)) oN ++ (wG hg cs gT)) := (appc (wOc (by first | (rw [qs]; done) | (exfalso; omega) : u1 oG 1 (gT (oG 2)) = u1 (u1 oG 1 (mSg gT ((oG 2)) length)) 2 ((oG 2) + 1)) rfl) rfl)
      have hP := vPe hP ew_5
      have hD := vDe hD ew_5
      exact x_retI (congrArg iI (by first | rfl | (exfalso; omega) : (0 : Int) = 1)) hend hP hD hS dX2_readKind_89
    by_cases c_25_119 : gT (oG 2) = 119
    · refine x_tsIn hC 76 dX2_readKind_25 (by rw [c_25_119]; omega) (by rw [c_25_119]; decide) (by rw [c_25_119]; decide) (by rw [c_25_119]; rfl) (by decide) ?_
      refine x_al hC hl 0 dX2_readKind_76 rfl rfl ?_
      refine x_dup hC dX2_readKind_77 rfl ?_
      refine x_get2 (v := .int (iI (oG 2))) hC hP 0 rfl 2 (by decide) tb_170 rfl rfl dX2_readKind_78 ?_
      refine x_ic hC dX2_readKind_81 ?_
      refine x_iadd hC dX2_readKind_82 ?_
      refine x_put2_2 hC hP hD hS 0 rfl tb_170 dX2_readKind_83 (fun H locs hP hD hS => ?_)
      have hP : va_P D vwCl (wO ho cs (u1 (u1 oG 1 (gT (oG 2))) 2 ((oG 2) + 1)) oN ++ (wG hg cs gT)) H := hP
      have hD : va_D A (wO ho cs (u1 (u1 oG 1 (gT (oG 2))) 2 ((oG 2) + 1)) oN ++ (wG hg cs gT)) := hD
      refine x_ic hC dX2_readKind_86 ?_
      have ew_6 : (wO ho cs (u1 (u1 oG 1 (gT (oG 2))) 2 ((oG 2) + 1)) oN ++ (wG hg cs gT)) = (wO ho cs (u1 (u1 oG 1 (mSg gT ((oG 2)) length)) 2 ((oG 2) + 1)) oN ++ (wG hg cs gT)) := (appc (wOc (by first | (rw [qs]; done) | (exfalso; omega) : u1 (u1 oG 1 (gT (oG 2))) 2 ((oG 2) + 1) = u1 (u1 oG 1 (mSg gT ((oG 2)) length)) 2 ((oG 2) + 1)) rfl) rfl)
      have hP := vPe hP ew_6
      have hD := vDe hD ew_6
      exact x_retI (rfl) hend hP hD hS dX2_readKind_87
    refine x_tsOut hC 88 dX2_readKind_25 (by omega) (by omega) (by decide) ?_
    refine x_ic hC dX2_readKind_88 ?_
    have ew_7 : (wO ho cs (u1 oG 1 (gT (oG 2))) oN ++ (wG hg cs gT)) = (wO ho cs (u1 (u1 oG 1 (mSg gT ((oG 2)) length)) 2 ((oG 2) + 1)) oN ++ (wG hg cs gT)) := (appc (wOc (by first | (rw [qs]; done) | (exfalso; omega) : u1 oG 1 (gT (oG 2)) = u1 (u1 oG 1 (mSg gT ((oG 2)) length)) 2 ((oG 2) + 1)) rfl) rfl)
    have hP := vPe hP ew_7
    have hD := vDe hD ew_7
    exact x_retI (congrArg iI (by first | rfl | (exfalso; omega) : (0 : Int) = 1)) hend hP hD hS dX2_readKind_89
  · exact absurd ha c_6
set_option maxHeartbeats 4000000 in
set_option maxRecDepth 100000 in
theorem k2_readKindC (l : Launch) (D : va_G) (cs : Nat → ClassId) (ho : Nat → Nat) (hg : Nat → Nat) (oG : Int → Int) (oN : Int → Int) (gT : Int → Int) (length : Int) (hT : IT gT) (hu : 0 ≤ (oG 2) ∧ (oG 2) ≤ 60) (hn : 0 ≤ length ∧ length ≤ 60) (ha : (oG 2) < length) (hk : ¬ (oP3 gT ((oG 2)) length ∨ oK1 gT ((oG 2)) length)) : CI l D cs yX2_readKind cX2_readKind 3 .int r2_readKind 0 0 [.ref (ho 0), .ref (hg 0), .int (iI length)] (wO ho cs oG oN ++ (wG hg cs gT)) (wO ho cs (u1 oG 1 (mSg gT ((oG 2)) length)) oN ++ (wG hg cs gT)) (iI (0)) := by
  refine CI_start (own := RX2) (by decide) rfl rfl (Nat.le_of_ble_eq_true rfl) ?_
  intro p e s m args below meth c Q A ls hC hl hP hD hA hS hend
  have hl : lv_has ls 3 [(0, .ref (ho 0)), (1, .ref (hg 0)), (2, .int (iI length))] := hl
  obtain ⟨H, hH⟩ : ∃ H : Heap, H = s.heap := ⟨_, rfl⟩
  have hS : va_S A s.heap H [] := by rw [hH]; exact hS
  rw [← hH] at hP
  obtain ⟨locs, hlocs⟩ : ∃ locs : List Loc, locs = [] := ⟨_, rfl⟩
  rw [← hlocs] at hS
  suffices hgo : W p l e r2_readKind s m args below meth c H locs 0 0 Q (F0 m 0 ls []) by rw [← hH, ← hlocs]; exact hgo
  clear hH hlocs
  have qs := mSg_t (T := gT) ha
  have qT := hT (oG 2) hu.1 (by omega)
  unfold oP3 oK1 at hk
  refine x_al hC hl 0 dX2_readKind_0 rfl rfl ?_
  refine x_al hC hl 1 dX2_readKind_1 rfl rfl ?_
  refine x_il hC hl 2 dX2_readKind_2 rfl rfl ?_
  refine x_vI (As := [.ref (hg 0), .int (iI length)]) (val := iI (b2p ((oG 2) < length))) hC (k2_isSignLeft l D cs ho hg oG oN gT length (by show 0 ≤ (oG 2) ∧ (oG 2) ≤ 60; first | assumption | omega) (by first | assumption | omega)) lk2_52 (q0 := 0) (ci := 2) rfl rfl rfl (sub_all hP hD hS hA) hP hS rfl hl.1 rfl (Nat.le_of_ble_eq_true rfl) ⟨rfl, rfl⟩ ⟨Nat.le_of_ble_eq_true rfl, Nat.le_of_ble_eq_true rfl⟩ ⟨Nat.le_of_ble_eq_true rfl, Nat.le_of_ble_eq_true rfl⟩ dX2_readKind_3 (fun H locs hP hD hS hHs => ?_)
  refine x_if_ne_b hC 11 dX2_readKind_6 (by decide) (fun c_6 => ?_) (fun c_6 => ?_)
  · refine x_al hC hl 0 dX2_readKind_11 rfl rfl ?_
    refine x_al hC hl 1 dX2_readKind_12 rfl rfl ?_
    refine x_al hC hl 0 dX2_readKind_13 rfl rfl ?_
    refine x_get2 (v := .int (iI (oG 2))) hC hP 0 rfl 2 (by decide) tb_170 rfl rfl dX2_readKind_14 ?_
    refine x_cald hC hP 2 rfl (by omega) (by decide) dX2_readKind_17 ?_
    refine x_put2_1 hC hP hD hS 0 rfl tb_169 (zKd (by omega)) dX2_readKind_18 (fun H locs hP hD hS => ?_)
    have hP : va_P D vwCl (wO ho cs (u1 oG 1 (gT (oG 2))) oN ++ (wG hg cs gT)) H := hP
    have hD : va_D A (wO ho cs (u1 oG 1 (gT (oG 2))) oN ++ (wG hg cs gT)) := hD
    refine x_al hC hl 0 dX2_readKind_21 rfl rfl ?_
    refine x_get2 (v := .int (iI (gT (oG 2)))) hC hP 0 rfl 1 (by decide) tb_169 rfl rfl dX2_readKind_22 ?_
    by_cases c_25_114 : gT (oG 2) = 114
    · refine x_tsIn hC 64 dX2_readKind_25 (by rw [c_25_114]; omega) (by rw [c_25_114]; decide) (by rw [c_25_114]; decide) (by rw [c_25_114]; rfl) (by decide) ?_
      refine x_al hC hl 0 dX2_readKind_64 rfl rfl ?_
      refine x_dup hC dX2_readKind_65 rfl ?_
      refine x_get2 (v := .int (iI (oG 2))) hC hP 0 rfl 2 (by decide) tb_170 rfl rfl dX2_readKind_66 ?_
      refine x_ic hC dX2_readKind_69 ?_
      refine x_iadd hC dX2_readKind_70 ?_
      refine x_put2_2 hC hP hD hS 0 rfl tb_170 dX2_readKind_71 (fun H locs hP hD hS => ?_)
      have hP : va_P D vwCl (wO ho cs (u1 (u1 oG 1 (gT (oG 2))) 2 ((oG 2) + 1)) oN ++ (wG hg cs gT)) H := hP
      have hD : va_D A (wO ho cs (u1 (u1 oG 1 (gT (oG 2))) 2 ((oG 2) + 1)) oN ++ (wG hg cs gT)) := hD
      refine x_ic hC dX2_readKind_74 ?_
      have ew : (wO ho cs (u1 (u1 oG 1 (gT (oG 2))) 2 ((oG 2) + 1)) oN ++ (wG hg cs gT)) = (wO ho cs (u1 oG 1 (mSg gT ((oG 2)) length)) oN ++ (wG hg cs gT)) := (appc (wOc (by first | (rw [qs]; done) | (exfalso; omega) : u1 (u1 oG 1 (gT (oG 2))) 2 ((oG 2) + 1) = u1 oG 1 (mSg gT ((oG 2)) length)) rfl) rfl)
      have hP := vPe hP ew
      have hD := vDe hD ew
      exact x_retI (congrArg iI (by first | rfl | (exfalso; omega) : (3 : Int) = 0)) hend hP hD hS dX2_readKind_75
    by_cases c_25_115 : gT (oG 2) = 115
    · refine x_tsIn hC 88 dX2_readKind_25 (by rw [c_25_115]; omega) (by rw [c_25_115]; decide) (by rw [c_25_115]; decide) (by rw [c_25_115]; rfl) (by decide) ?_
      refine x_ic hC dX2_readKind_88 ?_
      have ew_2 : (wO ho cs (u1 oG 1 (gT (oG 2))) oN ++ (wG hg cs gT)) = (wO ho cs (u1 oG 1 (mSg gT ((oG 2)) length)) oN ++ (wG hg cs gT)) := (appc (wOc (by first | (rw [qs]; done) | (exfalso; omega) : u1 oG 1 (gT (oG 2)) = u1 oG 1 (mSg gT ((oG 2)) length)) rfl) rfl)
      have hP := vPe hP ew_2
      have hD := vDe hD ew_2
      exact x_retI (rfl) hend hP hD hS dX2_readKind_89
    by_cases c_25_116 : gT (oG 2) = 116
    · refine x_tsIn hC 64 dX2_readKind_25 (by rw [c_25_116]; omega) (by rw [c_25_116]; decide) (by rw [c_25_116]; decide) (by rw [c_25_116]; rfl) (by decide) ?_
      refine x_al hC hl 0 dX2_readKind_64 rfl rfl ?_
      refine x_dup hC dX2_readKind_65 rfl ?_
      refine x_get2 (v := .int (iI (oG 2))) hC hP 0 rfl 2 (by decide) tb_170 rfl rfl dX2_readKind_66 ?_
      refine x_ic hC dX2_readKind_69 ?_
      refine x_iadd hC dX2_readKind_70 ?_
      refine x_put2_2 hC hP hD hS 0 rfl tb_170 dX2_readKind_71 (fun H locs hP hD hS => ?_)
      have hP : va_P D vwCl (wO ho cs (u1 (u1 oG 1 (gT (oG 2))) 2 ((oG 2) + 1)) oN ++ (wG hg cs gT)) H := hP
      have hD : va_D A (wO ho cs (u1 (u1 oG 1 (gT (oG 2))) 2 ((oG 2) + 1)) oN ++ (wG hg cs gT)) := hD
      refine x_ic hC dX2_readKind_74 ?_
      have ew_3 : (wO ho cs (u1 (u1 oG 1 (gT (oG 2))) 2 ((oG 2) + 1)) oN ++ (wG hg cs gT)) = (wO ho cs (u1 oG 1 (mSg gT ((oG 2)) length)) oN ++ (wG hg cs gT)) := (appc (wOc (by first | (rw [qs]; done) | (exfalso; omega) : u1 (u1 oG 1 (gT (oG 2))) 2 ((oG 2) + 1) = u1 oG 1 (mSg gT ((oG 2)) length)) rfl) rfl)
      have hP := vPe hP ew_3
      have hD := vDe hD ew_3
      exact x_retI (congrArg iI (by first | rfl | (exfalso; omega) : (3 : Int) = 0)) hend hP hD hS dX2_readKind_75
    by_cases c_25_117 : gT (oG 2) = 117
    · refine x_tsIn hC 76 dX2_readKind_25 (by rw [c_25_117]; omega) (by rw [c_25_117]; decide) (by rw [c_25_117]; decide) (by rw [c_25_117]; rfl) (by decide) ?_
      refine x_al hC hl 0 dX2_readKind_76 rfl rfl ?_
      refine x_dup hC dX2_readKind_77 rfl ?_
      refine x_get2 (v := .int (iI (oG 2))) hC hP 0 rfl 2 (by decide) tb_170 rfl rfl dX2_readKind_78 ?_
      refine x_ic hC dX2_readKind_81 ?_
      refine x_iadd hC dX2_readKind_82 ?_
      refine x_put2_2 hC hP hD hS 0 rfl tb_170 dX2_readKind_83 (fun H locs hP hD hS => ?_)
      have hP : va_P D vwCl (wO ho cs (u1 (u1 oG 1 (gT (oG 2))) 2 ((oG 2) + 1)) oN ++ (wG hg cs gT)) H := hP
      have hD : va_D A (wO ho cs (u1 (u1 oG 1 (gT (oG 2))) 2 ((oG 2) + 1)) oN ++ (wG hg cs gT)) := hD
      refine x_ic hC dX2_readKind_86 ?_
      have ew_4 : (wO ho cs (u1 (u1 oG 1 (gT (oG 2))) 2 ((oG 2) + 1)) oN ++ (wG hg cs gT)) = (wO ho cs (u1 oG 1 (mSg gT ((oG 2)) length)) oN ++ (wG hg cs gT)) := (appc (wOc (by first | (rw [qs]; done) | (exfalso; omega) : u1 (u1 oG 1 (gT (oG 2))) 2 ((oG 2) + 1) = u1 oG 1 (mSg gT ((oG 2)) length)) rfl) rfl)
      have hP := vPe hP ew_4
      have hD := vDe hD ew_4
      exact x_retI (congrArg iI (by first | rfl | (exfalso; omega) : (1 : Int) = 0)) hend hP hD hS dX2_readKind_87
    by_cases c_25_118 : gT (oG 2) = 118
    · refine x_tsIn hC 88 dX2_readKind_25 (by rw [c_25_118]; omega) (by rw [c_25_118]; decide) (by rw [c_25_118]; decide) (by rw [c_25_118]; rfl) (by decide) ?_
      refine x_ic hC dX2_readKind_88 ?_
      have ew_5 : (wO ho cs (u1 oG 1 (gT (oG 2))) oN ++ (wG hg cs gT)) = (wO ho cs (u1 oG 1 (mSg gT ((oG 2)) length)) oN ++ (wG hg cs gT)) := (appc (wOc (by first | (rw [qs]; done) | (exfalso; omega) : u1 oG 1 (gT (oG 2)) = u1 oG 1 (mSg gT ((oG 2)) length)) rfl) rfl)
      have hP := vPe hP ew_5
      have hD := vDe hD ew_5
      exact x_retI (rfl) hend hP hD hS dX2_readKind_89
    by_cases c_25_119 : gT (oG 2) = 119
    · refine x_tsIn hC 76 dX2_readKind_25 (by rw [c_25_119]; omega) (by rw [c_25_119]; decide) (by rw [c_25_119]; decide) (by rw [c_25_119]; rfl) (by decide) ?_
      refine x_al hC hl 0 dX2_readKind_76 rfl rfl ?_
      refine x_dup hC dX2_readKind_77 rfl ?_
      refine x_get2 (v := .int (iI (oG 2))) hC hP 0 rfl 2 (by decide) tb_170 rfl rfl dX2_readKind_78 ?_
      refine x_ic hC dX2_readKind_81 ?_
      refine x_iadd hC dX2_readKind_82 ?_
      refine x_put2_2 hC hP hD hS 0 rfl tb_170 dX2_readKind_83 (fun H locs hP hD hS => ?_)
      have hP : va_P D vwCl (wO ho cs (u1 (u1 oG 1 (gT (oG 2))) 2 ((oG 2) + 1)) oN ++ (wG hg cs gT)) H := hP
      have hD : va_D A (wO ho cs (u1 (u1 oG 1 (gT (oG 2))) 2 ((oG 2) + 1)) oN ++ (wG hg cs gT)) := hD
      refine x_ic hC dX2_readKind_86 ?_
      have ew_6 : (wO ho cs (u1 (u1 oG 1 (gT (oG 2))) 2 ((oG 2) + 1)) oN ++ (wG hg cs gT)) = (wO ho cs (u1 oG 1 (mSg gT ((oG 2)) length)) oN ++ (wG hg cs gT)) := (appc (wOc (by first | (rw [qs]; done) | (exfalso; omega) : u1 (u1 oG 1 (gT (oG 2))) 2 ((oG 2) + 1) = u1 oG 1 (mSg gT ((oG 2)) length)) rfl) rfl)
      have hP := vPe hP ew_6
      have hD := vDe hD ew_6
      exact x_retI (congrArg iI (by first | rfl | (exfalso; omega) : (1 : Int) = 0)) hend hP hD hS dX2_readKind_87
    refine x_tsOut hC 88 dX2_readKind_25 (by omega) (by omega) (by decide) ?_
    refine x_ic hC dX2_readKind_88 ?_
    have ew_7 : (wO ho cs (u1 oG 1 (gT (oG 2))) oN ++ (wG hg cs gT)) = (wO ho cs (u1 oG 1 (mSg gT ((oG 2)) length)) oN ++ (wG hg cs gT)) := (appc (wOc (by first | (rw [qs]; done) | (exfalso; omega) : u1 oG 1 (gT (oG 2)) = u1 oG 1 (mSg gT ((oG 2)) length)) rfl) rfl)
    have hP := vPe hP ew_7
    have hD := vDe hD ew_7
    exact x_retI (rfl) hend hP hD hS dX2_readKind_89
  · exact absurd ha c_6
