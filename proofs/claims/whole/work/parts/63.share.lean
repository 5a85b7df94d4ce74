/-! shares -/
theorem lt_neg {x : Int32} (h : x < 0) : ¬ 0 ≤ x := Int32.not_le.mpr h
theorem sh23 (a : Int) : iI a <<< (iI 23 &&& 31) = iI (a * 8388608) := by
  have e : (iI 23 &&& 31 : Int32) = 23 := by decide
  rw [e]
  apply Int32.toBitVec_inj.mp
  show BitVec.ofInt 32 a <<< (23 : Nat) = BitVec.ofInt 32 (a * 8388608)
  rw [BitVec.shiftLeft_eq_mul_twoPow]
  have e2 : BitVec.twoPow 32 23 = BitVec.ofInt 32 8388608 := by decide
  rw [e2, ← BitVec.ofInt_mul]
abbrev r4_bitsOf : Room := { frames := 0, cells := 0, slots := 0, locals := 0 }
set_option maxHeartbeats 4000000 in
set_option maxRecDepth 100000 in
theorem k4_bitsOf (l : Launch) (D : va_G) (cs : Nat → ClassId) (E T : Nat) (hE : 1 ≤ E ∧ E ≤ 254) (hT : T < 8388608) : CI l D cs yX4_bitsOf cX4_bitsOf 3 .int r4_bitsOf 0 0 [.float (nF E T)] ([] : va_W) ([] : va_W) (iI ((E : Int) * 8388608 + T)) := by
  refine CI_start (own := RX4) (by decide) rfl rfl (Nat.le_of_ble_eq_true rfl) ?_
  intro p e s m args below meth c Q A ls hC hl hP hD hA hS hend
  have hl : lv_has ls 3 [(0, .float (nF E T))] := hl
  obtain ⟨H, hH⟩ : ∃ H : Heap, H = s.heap := ⟨_, rfl⟩
  have hS : va_S A s.heap H [] := by rw [hH]; exact hS
  rw [← hH] at hP
  obtain ⟨locs, hlocs⟩ : ∃ locs : List Loc, locs = [] := ⟨_, rfl⟩
  rw [← hlocs] at hS
  suffices hgo : W p l e r4_bitsOf s m args below meth c H locs 0 0 Q (F0 m 0 ls []) by rw [← hH, ← hlocs]; exact hgo
  clear hH hlocs
  have vc1 : Jvm.FP.Core.val32 Jvm.FP.fconst1 = .fin false 8388608 (((127 : Nat) : Int) - 150) := v_c1
  have vc2 : Jvm.FP.Core.val32 Jvm.FP.fconst2 = .fin false 8388608 (((128 : Nat) : Int) - 150) := v_c2
  have loop2 : ∀ (n P : Nat) (K : Int), K = (E : Int) + 127 - P → 1 ≤ P ∧ P ≤ 127 → 127 - P < n → ∀ (H : Heap) (locs : List Loc) (ls : Array Slot), va_P D vwCl ([] : va_W) H → va_D A ([] : va_W) → va_S A s.heap H locs → lv_has ls 3 [(1, .float (nF P T)), (2, .int (iI K)), (0, .float (nF E T))] → W p l e r4_bitsOf s m args below meth c H locs 0 0 Q (F0 m 28 ls []) := by
    intro n
    induction n with
    | zero => intro P K h1 h2 h3; omega
    | succ n ih =>
      intro P K hK hP1 hn H locs ls hP hD hS hl
      have hcmp := nF_cmp (E := P) (T := T) hP1.1 (by omega) hT (k := Jvm.FP.fconst1) (r := 127) (by omega) vc1 .g
      refine x_fl hC hl 0 dX4_bitsOf_28 rfl rfl ?_
      refine lv_fconst1 hC.1 hC.2.1 dX4_bitsOf_29 ?_
      refine lv_fcmp hC.1 hC.2.1 dX4_bitsOf_30 ?_
      refine lv_if_ge (tgt := 49) hC.1 hC.2.1 dX4_bitsOf_31 (by decide) (fun c_31 => ?_) (fun c_31 => ?_)
      · have hp : P = 127 := by
          have : ¬ P < 127 := fun q => lt_neg (hcmp.mpr q) c_31
          omega
        subst hp
        have fr := frac_eq hT
        refine x_il hC hl 1 dX4_bitsOf_49 rfl rfl ?_
        refine x_bi hC dX4_bitsOf_50 (by decide) ?_
        refine x_ishl hC dX4_bitsOf_52 (iI (K * 8388608)) (sh23 K) ?_
        refine x_fl hC hl 0 dX4_bitsOf_53 rfl rfl ?_
        refine lv_fconst1 hC.1 hC.2.1 dX4_bitsOf_54 ?_
        refine lv_fsub hC.1 hC.2.1 dX4_bitsOf_55 fr.1 ?_
        refine lv_ldcf hC.1 hC.2.1 hC.2.2.2.1 (x_w hC tb_478 rfl) dX4_bitsOf_56 ?_
        refine lv_fmul hC.1 hC.2.1 dX4_bitsOf_58 fr.2.1 ?_
        refine lv_f2i hC.1 hC.2.1 dX4_bitsOf_59 ?_
        rw [show Jvm.FP.f2i (Jvm.FP.fmul (Jvm.FP.fsub (nF 127 T) Jvm.FP.fconst1) 1258291200) = iI (T : Int) from fr.2.2]
        refine x_iadd hC dX4_bitsOf_60 ?_
        exact x_retI (congrArg iI (by omega : K * 8388608 + (T : Int) = (E : Int) * 8388608 + T)) hend hP hD hS dX4_bitsOf_61
      · have hp : P < 127 := hcmp.mp (Int32.not_le.mp c_31)
        refine x_il hC hl 1 dX4_bitsOf_34 rfl rfl ?_
        refine x_ic hC dX4_bitsOf_35 ?_
        refine x_ic_le hC 49 dX4_bitsOf_36 (by decide) (by omega) (by omega) (fun hz => by exfalso; omega) (fun c_36 => ?_)
        have ed := nF_dbl (E := P) (T := T) hP1.1 (by omega) hT
        refine x_fl hC hl 0 dX4_bitsOf_39 rfl rfl ?_
        refine lv_fconst2 hC.1 hC.2.1 dX4_bitsOf_40 ?_
        refine lv_fmul hC.1 hC.2.1 dX4_bitsOf_41 (by rw [ed]; exact n32_fin (nF_val (by omega) (by omega) hT)) ?_
        rw [ed]
        refine x_fs hC [(1, .float (nF (P + 1) T)), (2, .int (iI K)), (0, .float (nF E T))] hl dX4_bitsOf_42 rfl (by decide) rfl (fun ls hl => ?_)
        refine x_iinc hC [(2, .int (iI (K + -1))), (1, .float (nF (P + 1) T)), (0, .float (nF E T))] 1 hl dX4_bitsOf_43 rfl (by decide) rfl (fun ls hl => ?_)
        refine x_goto hC 28 dX4_bitsOf_46 (by decide) ?_
        exact ih (P + 1) (K + -1) (by omega) (by omega) (by omega) H locs ls hP hD hS (lv_sub hl [1, 0, 2] rfl)
  have loop1 : ∀ (n P : Nat) (K : Int), K = (E : Int) + 127 - P → (P = E ∨ 127 ≤ P) ∧ 1 ≤ P ∧ P ≤ E → P < n → ∀ (H : Heap) (locs : List Loc) (ls : Array Slot), va_P D vwCl ([] : va_W) H → va_D A ([] : va_W) → va_S A s.heap H locs → lv_has ls 3 [(1, .float (nF P T)), (2, .int (iI K)), (0, .float (nF E T))] → W p l e r4_bitsOf s m args below meth c H locs 0 0 Q (F0 m 5 ls []) := by
    intro n
    induction n with
    | zero => intro P K h1 h2 h3; omega
    | succ n ih =>
      intro P K hK hP1 hn H locs ls hP hD hS hl
      have hcmp := nF_cmp (E := P) (T := T) hP1.2.1 (by omega) hT (k := Jvm.FP.fconst2) (r := 128) (by omega) vc2 .l
      refine x_fl hC hl 0 dX4_bitsOf_5 rfl rfl ?_
      refine lv_fconst2 hC.1 hC.2.1 dX4_bitsOf_6 ?_
      refine lv_fcmp hC.1 hC.2.1 dX4_bitsOf_7 ?_
      refine lv_if_lt (tgt := 28) hC.1 hC.2.1 dX4_bitsOf_8 (by decide) (fun c_8 => ?_) (fun c_8 => ?_)
      · have hp := hcmp.mp c_8
        exact loop2 (128 - P) P K hK (by omega) (by omega) H locs ls hP hD hS hl
      · have hp : ¬ P < 128 := fun q => c_8 (hcmp.mpr q)
        refine x_il hC hl 1 dX4_bitsOf_11 rfl rfl ?_
        refine x_si hC dX4_bitsOf_12 (by decide) ?_
        refine x_ic_ge hC 28 dX4_bitsOf_15 (by decide) (by omega) (by omega) (fun hz => by exfalso; omega) (fun c_15 => ?_)
        have ed := nF_half (E := P) (T := T) (by omega) (by omega) hT
        refine x_fl hC hl 0 dX4_bitsOf_18 rfl rfl ?_
        refine lv_fconst2 hC.1 hC.2.1 dX4_bitsOf_19 ?_
        refine lv_fdiv hC.1 hC.2.1 dX4_bitsOf_20 (by rw [ed]; exact n32_fin (nF_val (by omega) (by omega) hT)) ?_
        rw [ed]
        refine x_fs hC [(1, .float (nF (P - 1) T)), (2, .int (iI K)), (0, .float (nF E T))] hl dX4_bitsOf_21 rfl (by decide) rfl (fun ls hl => ?_)
        refine x_iinc hC [(2, .int (iI (K + 1))), (1, .float (nF (P - 1) T)), (0, .float (nF E T))] 1 hl dX4_bitsOf_22 rfl (by decide) rfl (fun ls hl => ?_)
        refine x_goto hC 5 dX4_bitsOf_25 (by decide) ?_
        exact ih (P - 1) (K + 1) (by omega) (by omega) (by omega) H locs ls hP hD hS (lv_sub hl [1, 0, 2] rfl)
  refine x_fl hC hl 0 dX4_bitsOf_0 rfl rfl ?_
  refine x_fs hC [(1, .float (nF E T)), (0, .float (nF E T))] hl dX4_bitsOf_1 rfl (by decide) rfl (fun ls hl => ?_)
  refine x_bi hC dX4_bitsOf_2 (by decide) ?_
  refine x_is hC [(2, .int (iI 127)), (1, .float (nF E T)), (0, .float (nF E T))] hl dX4_bitsOf_4 rfl (by decide) rfl (fun ls hl => ?_)
  exact loop1 (E + 1) E 127 (by omega) (by omega) (by omega) H locs ls hP hD hS (lv_sub hl [1, 0, 2] rfl)
theorem lk4_113 : LkS RX4 113 yX4_bitsOf cX4_bitsOf 3 (some .int) 1 := ⟨tb_477, tb_475, tb_476, tb_71, by decide +kernel⟩
theorem CI_startF {l : Launch} {D : va_G} {cs : Nat → ClassId} {y : MethodName} {bytes : ByteArray} {maxL : Nat} {ret : FieldType} {rm : Room} {mc ms : Nat} {av : List Value} {wc w1 : va_W} {val : Int32} {own : String}
    (hy : plainFor y = true) (ho : y.cls = own) (hret : narrow ret (.int val) = .int val) (hal : (lg_sl av).length ≤ maxL)
    (body : ∀ (p : Program) (e : Env) (s : State) (m : MethodId) (args : Array Value) (below : List Frame) (meth : Method) (c : Code) (Q : State → Prop) (A : Nat → Prop) (ls : Array Slot), Cx p s m args c bytes maxL own D cs → lv_has ls maxL (lv_args 0 av) → va_P D vwCl wc s.heap → va_D A wc → (∀ q, s.heap.size ≤ q → A q) → va_S A s.heap s.heap [] →
      (∀ (H : Heap) (locs : List Loc) (pc : Nat) (ls' : Array Slot), va_P D vwCl w1 H → va_D A w1 → va_S A s.heap H locs → decode bytes pc = .ok (.ireturn, 1) → W p l e rm s m args below meth c H locs mc ms Q (F0 m pc ls' [.int val])) → W p l e rm s m args below meth c s.heap [] 0 0 Q (F0 m 0 ls [])) : CI l D cs y bytes maxL ret rm mc ms av wc w1 val := by
  intro sz
  refine va_MetF (cc := bytes) (maxL := maxL) (ret := some ret) hy rfl ?_
  intro p e s m args below meth c s₁ B hml hv
  obtain ⟨rfl, hsz, hP, hK, hD0⟩ := hv
  have hx := B.exec
  have hb := B.bytes
  have hr := B.returns
  have hts := atoms_spec (ws := .code y bytes maxL (some ret) :: TB) B.pre
  have hown : s.vm.findClass own = some m.cls := ho ▸ findClass_of_methodNamed B.named
  have hlocks := B.notSynchronized
  subst hsz
  have hD := hD0.self (sz := s.heap.size)
  have hl := lv_entry av hal
  rw [lg_entry_eq]
  refine body p e s m _ below meth c _ _ _ ⟨hx, hb, hml, hown, fun w hw => hts w (List.mem_cons_of_mem _ hw), hK⟩ hl hP hD (fun q h => Or.inr h) va_S.rf ?_
  intro H locs pc ls' hP1 hD1 hS1 hd
  exact W.zret hx hb hr hret (fun t ht hW => ⟨⟨val, (), rfl, rfl, by rw [ht]; exact hP1, hD1⟩, hS1.F ht⟩) hS1.2.2 hd
abbrev r8_isNaN : Room := { frames := 0, cells := 0, slots := 0, locals := 0 }
set_option maxHeartbeats 4000000 in
set_option maxRecDepth 100000 in
theorem k8_isNaN (l : Launch) (D : va_G) (cs : Nat → ClassId) (x : UInt32) (E T : Nat) (hx : x = nF E T) (hE : 1 ≤ E ∧ E ≤ 254) (hT : T < 8388608) : CI l D cs yJxf58ca_isNaN_12338 cJxf58ca_isNaN_12338 1 .boolean r8_isNaN 0 0 [.float x] ([] : va_W) ([] : va_W) (iI 0) := by
  refine CI_startF (own := RJxf58ca) (by decide +kernel) rfl rfl (Nat.le_of_ble_eq_true rfl) ?_
  intro p e s m args below meth c Q A ls hC hl hP hD hA hS hend
  have hl : lv_has ls 1 [(0, .float x)] := hl
  obtain ⟨H, hH⟩ : ∃ H : Heap, H = s.heap := ⟨_, rfl⟩
  have hS : va_S A s.heap H [] := by rw [hH]; exact hS
  rw [← hH] at hP
  obtain ⟨locs, hlocs⟩ : ∃ locs : List Loc, locs = [] := ⟨_, rfl⟩
  rw [← hlocs] at hS
  suffices hgo : W p l e r8_isNaN s m args below meth c H locs 0 0 Q (F0 m 0 ls []) by rw [← hH, ← hlocs]; exact hgo
  clear hH hlocs
  have hself : Jvm.FP.fcmp x x = some .eq := by
    show Jvm.FP.Core.order (Jvm.FP.Core.val32 x) (Jvm.FP.Core.val32 x) = some .eq
    rw [hx, nF_val hE.1 hE.2 hT, cmp_units, Int.compare_eq_eq.mpr rfl]
  refine x_fl hC hl 0 dJxf58ca_isNaN_12338_0 rfl rfl ?_
  refine x_fl hC hl 0 dJxf58ca_isNaN_12338_1 rfl rfl ?_
  refine lv_fcmp hC.1 hC.2.1 dJxf58ca_isNaN_12338_2 ?_
  rw [hself]
  refine lv_if_eq (tgt := 10) hC.1 hC.2.1 dJxf58ca_isNaN_12338_3 (by decide) (fun _ => ?_) (fun hz => absurd rfl hz)
  refine x_ic hC dJxf58ca_isNaN_12338_10 ?_
  exact x_retI rfl hend hP hD hS dJxf58ca_isNaN_12338_11
theorem lk8_59 : LkS RJxf58ca 59 yJxf58ca_isNaN_12338 cJxf58ca_isNaN_12338 1 (some .boolean) 1 := ⟨tb_878, tb_876, tb_877, tb_81, by decide +kernel⟩
abbrev r8_bits : Room := { frames := 1, cells := 0, slots := 0, locals := 40 }
set_option maxHeartbeats 4000000 in
set_option maxRecDepth 100000 in
theorem k8_bits (l : Launch) (D : va_G) (cs : Nat → ClassId) (x : UInt32) (E T : Nat) (hx : x = nF E T) (hE : 1 ≤ E ∧ E ≤ 254) (hT : T < 8388608) : CI l D cs yJxf58ca_floatToIntBits_5c35a cJxf58ca_floatToIntBits_5c35a 1 .int r8_bits 0 0 [.float x] ([] : va_W) ([] : va_W) (iI ((E : Int) * 8388608 + T)) := by
  refine CI_startF (own := RJxf58ca) (by decide +kernel) rfl rfl (Nat.le_of_ble_eq_true rfl) ?_
  intro p e s m args below meth c Q A ls hC hl hP hD hA hS hend
  have hl : lv_has ls 1 [(0, .float x)] := hl
  obtain ⟨H, hH⟩ : ∃ H : Heap, H = s.heap := ⟨_, rfl⟩
  have hS : va_S A s.heap H [] := by rw [hH]; exact hS
  rw [← hH] at hP
  obtain ⟨locs, hlocs⟩ : ∃ locs : List Loc, locs = [] := ⟨_, rfl⟩
  rw [← hlocs] at hS
  suffices hgo : W p l e r8_bits s m args below meth c H locs 0 0 Q (F0 m 0 ls []) by rw [← hH, ← hlocs]; exact hgo
  clear hH hlocs
  refine x_fl hC hl 0 dJxf58ca_floatToIntBits_5c35a_0 rfl rfl ?_
  refine x_sI (As := [.float x]) hC (k8_isNaN l D cs x E T hx hE hT) lk8_59 (sub_none hP hD hS hA) hP hS rfl hl.1 rfl (Nat.le_of_ble_eq_true rfl) ⟨rfl, rfl⟩ ⟨Nat.le_of_ble_eq_true rfl, Nat.le_of_ble_eq_true rfl⟩ ⟨Nat.le_of_ble_eq_true rfl, Nat.le_of_ble_eq_true rfl⟩ dJxf58ca_floatToIntBits_5c35a_1 (fun H locs hP hD hS hHs => ?_)
  refine lv_if_ne (tgt := 12) hC.1 hC.2.1 dJxf58ca_floatToIntBits_5c35a_4 (by decide) (fun hz => absurd rfl hz) (fun _ => ?_)
  refine x_fl hC hl 0 dJxf58ca_floatToIntBits_5c35a_7 rfl rfl ?_
  refine vn_f2i hC.1 hC.2.1 (hC.2.2.1.trans hl.1.symm) hC.2.2.2.1 (x_w hC tb_879 rfl) (x_w hC tb_881 rfl) (x_w hC tb_880 rfl) (x_w hC tb_81 rfl) (Nat.le_of_ble_eq_true rfl) (Nat.le_of_ble_eq_true rfl) dJxf58ca_floatToIntBits_5c35a_8 ?_
  exact x_retI (by rw [hx]; exact nF_bits hE.2 hT) hend hP hD hS dJxf58ca_floatToIntBits_5c35a_11
theorem lk5_161 : LkS RX5 161 yJxf58ca_floatToIntBits_5c35a cJxf58ca_floatToIntBits_5c35a 1 (some .int) 1 := ⟨tb_875, tb_873, tb_874, tb_81, by decide +kernel⟩
