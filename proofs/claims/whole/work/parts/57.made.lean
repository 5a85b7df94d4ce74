/-! things that are made -/
def bd0 : Bd := ((fun _ => false), (fun _ => 0), (fun _ => 0), (fun _ => 0), (fun _ => 0), fI (fun t p => u1 p t (-1)) (fun _ => 0) 20, fI (fun r p => u1 p r 9) (fun _ => 0) 8, fI (fun r p => u1 p r 10) (fun _ => 0) 8, fun _ _ => false)
abbrev wb (h : Nat → Nat) (cs : Nat → ClassId) (b : Bd) : va_W := wB h cs b.1 b.2.1 b.2.2.1 b.2.2.2.1 b.2.2.2.2.1 b.2.2.2.2.2.1 b.2.2.2.2.2.2.1 b.2.2.2.2.2.2.2.1 b.2.2.2.2.2.2.2.2
abbrev r0_init : Room := { frames := 1, cells := 7, slots := 104, locals := 12 }
set_option maxHeartbeats 4000000 in
set_option maxRecDepth 100000 in
theorem k0_init (l : Launch) (D : va_G) (cs : Nat → ClassId) (a : Nat) : CY l D cs yX0_init cX0_init 2 r0_init 7 104 [.ref a] [(a, .inr (0, [.null, .null, .null, .null, .null, .null, .null, .int 0, .int 0, .int 0, .int 0, .int 0, .int 0]))] (fun w1 => ∃ h : Nat → Nat, h 0 = a ∧ w1 = wb h cs bd0) := by
  refine CY_start (own := RX0) (by decide) rfl (Nat.le_of_ble_eq_true rfl) ?_
  intro p e s m args below meth c Q A ls hC hl hP hD hA hS hname hend
  have hname : meth.name = "<init>" := hname
  have hl : lv_has ls 2 [(0, .ref a)] := hl
  obtain ⟨H, hH⟩ : ∃ H : Heap, H = s.heap := ⟨_, rfl⟩
  have hS : va_S A s.heap H [] := by rw [hH]; exact hS
  rw [← hH] at hP
  obtain ⟨locs, hlocs⟩ : ∃ locs : List Loc, locs = [] := ⟨_, rfl⟩
  rw [← hlocs] at hS
  suffices hgo : W p l e r0_init s m args below meth c H locs 0 0 Q (F0 m 0 ls []) by rw [← hH, ← hlocs]; exact hgo
  clear hH hlocs
  have tail : ∀ (h : Nat → Nat) (bO : Nat → Bool) (bG bF bE bZ bP bR bC : Int → Int) (bT : Int → Nat → Bool) (H : Heap) (locs : List Loc) (ls : Array Slot), (∃ h2 : Nat → Nat, h2 0 = a ∧ wB h cs bO bG bF bE bZ (fI (fun t p => u1 p t (-1)) bP 20) (fI (fun r p => u1 p r 9) bR 8) (fI (fun r p => u1 p r 10) bC 8) bT = wb h2 cs bd0) → va_P D vwCl (wB h cs bO bG bF bE bZ bP bR bC bT) H → va_D A (wB h cs bO bG bF bE bZ bP bR bC bT) → va_S A s.heap H locs → lv_has ls 2 [(0, .ref (h 0))] → W p l e r0_init s m args below meth c H locs 7 104 Q (F0 m 60 ls []) := by
    intro h bO bG bF bE bZ bP bR bC bT H locs ls hpost hP hD hS hl
    refine x_ic hC dX0_init_60 ?_
    refine x_is hC [(1, .int (iI 0)), (0, .ref (h 0))] hl dX0_init_61 rfl (by decide) rfl (fun ls hl => ?_)
    have loop_62 : ∀ (n : Nat) (i : Int), (hi0 : 0 ≤ i) → (hiN : i ≤ 20) → (20 - i) < (n : Int) → ∀ (H : Heap) (locs : List Loc) (ls : Array Slot), va_P D vwCl (wB h cs bO bG bF bE bZ (fI (fun t p => u1 p t (-1)) bP i) bR bC bT) H → va_D A (wB h cs bO bG bF bE bZ (fI (fun t p => u1 p t (-1)) bP i) bR bC bT) → va_S A s.heap H locs → lv_has ls 2 [(1, .int (iI i)), (0, .ref (h 0))] → W p l e r0_init s m args below meth c H locs 7 104 Q (F0 m 62 ls []) := by
      intro n
      induction n with
      | zero =>
        intro i hi0 hiN hnn
        exfalso; omega
      | succ n ih_62 =>
        intro i hi0 hiN hnn H locs ls hP hD hS hl
        refine x_il hC hl 0 dX0_init_62 rfl rfl ?_
        refine x_bi hC dX0_init_63 (by decide) ?_
        refine x_ic_ge hC 81 dX0_init_65 (by decide) (by omega) (by omega) (fun c_65 => ?_) (fun c_65 => ?_)
        · obtain rfl : i = 20 := by omega
          refine x_ic hC dX0_init_81 ?_
          refine x_is hC [(1, .int (iI 0)), (0, .ref (h 0))] hl dX0_init_82 rfl (by decide) rfl (fun ls hl => ?_)
          have loop_83 : ∀ (n : Nat) (i : Int), (hi0 : 0 ≤ i) → (hiN : i ≤ 8) → (8 - i) < (n : Int) → ∀ (H : Heap) (locs : List Loc) (ls : Array Slot), va_P D vwCl (wB h cs bO bG bF bE bZ (fI (fun t p => u1 p t (-1)) bP 20) (fI (fun r p => u1 p r 9) bR i) (fI (fun r p => u1 p r 10) bC i) bT) H → va_D A (wB h cs bO bG bF bE bZ (fI (fun t p => u1 p t (-1)) bP 20) (fI (fun r p => u1 p r 9) bR i) (fI (fun r p => u1 p r 10) bC i) bT) → va_S A s.heap H locs → lv_has ls 2 [(1, .int (iI i)), (0, .ref (h 0))] → W p l e r0_init s m args below meth c H locs 7 104 Q (F0 m 83 ls []) := by
            intro n
            induction n with
            | zero =>
              intro i hi0 hiN hnn
              exfalso; omega
            | succ n ih_83 =>
              intro i hi0 hiN hnn H locs ls hP hD hS hl
              refine x_il hC hl 0 dX0_init_83 rfl rfl ?_
              refine x_bi hC dX0_init_84 (by decide) ?_
              refine x_ic_ge hC 111 dX0_init_86 (by decide) (by omega) (by omega) (fun c_86 => ?_) (fun c_86 => ?_)
              · obtain rfl : i = 8 := by omega
                exact hend H locs 111 ls _ hpost hP hD hS dX0_init_111
              · refine x_al hC hl 1 dX0_init_89 rfl rfl ?_
                refine x_get0 (v := .ref (h 5)) hC hP 0 rfl 4 (by decide) tb_100 rfl rfl dX0_init_90 ?_
                refine x_il hC hl 0 dX0_init_93 rfl rfl ?_
                refine x_bi hC dX0_init_94 (by decide) ?_
                refine x_iast hC hP hD hS 5 rfl (by omega) (by decide) dX0_init_96 (fun H locs hP hD hS => ?_)
                have hP : va_P D vwCl (wB h cs bO bG bF bE bZ (fI (fun t p => u1 p t (-1)) bP 20) (u1 (fI (fun r p => u1 p r 9) bR i) i 9) (fI (fun r p => u1 p r 10) bC i) bT) H := hP
                have hD : va_D A (wB h cs bO bG bF bE bZ (fI (fun t p => u1 p t (-1)) bP 20) (u1 (fI (fun r p => u1 p r 9) bR i) i 9) (fI (fun r p => u1 p r 10) bC i) bT) := hD
                refine x_al hC hl 1 dX0_init_97 rfl rfl ?_
                refine x_get0 (v := .ref (h 6)) hC hP 0 rfl 5 (by decide) tb_101 rfl rfl dX0_init_98 ?_
                refine x_il hC hl 0 dX0_init_101 rfl rfl ?_
                refine x_bi hC dX0_init_102 (by decide) ?_
                refine x_iast hC hP hD hS 6 rfl (by omega) (by decide) dX0_init_104 (fun H locs hP hD hS => ?_)
                have hP : va_P D vwCl (wB h cs bO bG bF bE bZ (fI (fun t p => u1 p t (-1)) bP 20) (u1 (fI (fun r p => u1 p r 9) bR i) i 9) (u1 (fI (fun r p => u1 p r 10) bC i) i 10) bT) H := hP
                have hD : va_D A (wB h cs bO bG bF bE bZ (fI (fun t p => u1 p t (-1)) bP 20) (u1 (fI (fun r p => u1 p r 9) bR i) i 9) (u1 (fI (fun r p => u1 p r 10) bC i) i 10) bT) := hD
                refine x_iinc hC [(1, .int (iI (i + 1))), (0, .ref (h 0))] 0 hl dX0_init_105 rfl (by decide) rfl (fun ls hl => ?_)
                refine x_goto hC 83 dX0_init_108 (by decide) ?_
                have ew : (wB h cs bO bG bF bE bZ (fI (fun t p => u1 p t (-1)) bP 20) (u1 (fI (fun r p => u1 p r 9) bR i) i 9) (u1 (fI (fun r p => u1 p r 10) bC i) i 10) bT) = (wB h cs bO bG bF bE bZ (fI (fun t p => u1 p t (-1)) bP 20) (fI (fun r p => u1 p r 9) bR (i + 1)) (fI (fun r p => u1 p r 10) bC (i + 1)) bT) := (wBc rfl rfl rfl rfl rfl rfl (by rw [fI_s hi0] : u1 (fI (fun r p => u1 p r 9) bR i) i 9 = fI (fun r p => u1 p r 9) bR (i + 1)) (by rw [fI_s hi0] : u1 (fI (fun r p => u1 p r 10) bC i) i 10 = fI (fun r p => u1 p r 10) bC (i + 1)) rfl)
                have hP := vPe hP ew
                have hD := vDe hD ew
                have hl := lv_sub (l' := [(1, .int (iI (i + 1))), (0, .ref (h 0))]) hl [0, 1] rfl
                exact ih_83 (i + 1) (by omega) (by omega) (by omega) H locs ls hP hD hS hl
          have hl := lv_sub (l' := [(1, .int (iI 0)), (0, .ref (h 0))]) hl [0, 1] rfl
          exact loop_83 (Int.toNat (8 - 0) + 1) 0 (by omega) (by omega) (by omega) H locs ls hP hD hS hl
        · refine x_al hC hl 1 dX0_init_68 rfl rfl ?_
          refine x_get0 (v := .ref (h 4)) hC hP 0 rfl 3 (by decide) tb_99 rfl rfl dX0_init_69 ?_
          refine x_il hC hl 0 dX0_init_72 rfl rfl ?_
          refine x_ic hC dX0_init_73 ?_
          refine x_iast hC hP hD hS 4 rfl (by omega) (by decide) dX0_init_74 (fun H locs hP hD hS => ?_)
          have hP : va_P D vwCl (wB h cs bO bG bF bE bZ (u1 (fI (fun t p => u1 p t (-1)) bP i) i (-1)) bR bC bT) H := hP
          have hD : va_D A (wB h cs bO bG bF bE bZ (u1 (fI (fun t p => u1 p t (-1)) bP i) i (-1)) bR bC bT) := hD
          refine x_iinc hC [(1, .int (iI (i + 1))), (0, .ref (h 0))] 0 hl dX0_init_75 rfl (by decide) rfl (fun ls hl => ?_)
          refine x_goto hC 62 dX0_init_78 (by decide) ?_
          have ew_2 : (wB h cs bO bG bF bE bZ (u1 (fI (fun t p => u1 p t (-1)) bP i) i (-1)) bR bC bT) = (wB h cs bO bG bF bE bZ (fI (fun t p => u1 p t (-1)) bP (i + 1)) bR bC bT) := (wBc rfl rfl rfl rfl rfl (by rw [fI_s hi0] : u1 (fI (fun t p => u1 p t (-1)) bP i) i (-1) = fI (fun t p => u1 p t (-1)) bP (i + 1)) rfl rfl rfl)
          have hP := vPe hP ew_2
          have hD := vDe hD ew_2
          have hl := lv_sub (l' := [(1, .int (iI (i + 1))), (0, .ref (h 0))]) hl [0, 1] rfl
          exact ih_62 (i + 1) (by omega) (by omega) (by omega) H locs ls hP hD hS hl
    have hl := lv_sub (l' := [(1, .int (iI 0)), (0, .ref (h 0))]) hl [0, 1] rfl
    exact loop_62 (Int.toNat (20 - 0) + 1) 0 (by omega) (by omega) (by omega) H locs ls hP hD hS hl
  refine x_al hC hl 0 dX0_init_0 rfl rfl ?_
  refine x_obj hC tb_95 hl.1 (Nat.le_of_ble_eq_true rfl) (Nat.le_of_ble_eq_true rfl) dX0_init_1 ?_
  refine x_al hC hl 0 dX0_init_4 rfl rfl ?_
  refine x_bi hC dX0_init_5 (by decide) ?_
  refine x_new (a0 := (20, .inl (fun _ => iI 0))) hC hP hD hS hA (ty := .int) rfl tb_136 0 rfl 20 20 rfl (by decide) (fun _ => rfl) (by decide) (Nat.le_of_ble_eq_true rfl) (Nat.le_of_ble_eq_true rfl) dX0_init_7 (fun q1 H hP hD hS => ?_)
  refine W.widen (k := 1) (n := 20) (by omega) (by omega) ?_
  have hP : va_P D vwCl ([(a, .inr (0, [.null, .null, .null, .null, .null, .null, .null, .int 0, .int 0, .int 0, .int 0, .int 0, .int 0])), (q1, arI (cs 0) 20 (fun _ => 0))]) H := hP
  have hD : va_D A ([(a, .inr (0, [.null, .null, .null, .null, .null, .null, .null, .int 0, .int 0, .int 0, .int 0, .int 0, .int 0])), (q1, arI (cs 0) 20 (fun _ => 0))]) := hD
  refine x_pF0 (ty := tyX0 0) hC hP hD hS hname 0 rfl 0 (by decide) tb_96 rfl rfl (tyX0_ok 0 (by decide)) rfl rfl (Nat.le_of_ble_eq_true rfl) dX0_init_9 (fun H locs hP hD hS => ?_)
  have hP : va_P D vwCl ([(a, .inr (0, [.ref q1, .null, .null, .null, .null, .null, .null, .int 0, .int 0, .int 0, .int 0, .int 0, .int 0])), (q1, arI (cs 0) 20 (fun _ => 0))]) H := hP
  have hD : va_D A ([(a, .inr (0, [.ref q1, .null, .null, .null, .null, .null, .null, .int 0, .int 0, .int 0, .int 0, .int 0, .int 0])), (q1, arI (cs 0) 20 (fun _ => 0))]) := hD
  refine x_al hC hl 0 dX0_init_12 rfl rfl ?_
  refine x_bi hC dX0_init_13 (by decide) ?_
  refine x_new (a0 := (20, .inl (fun _ => iI 0))) hC hP hD hS hA (ty := .int) rfl tb_136 0 rfl 20 20 rfl (by decide) (fun _ => rfl) (by decide) (Nat.le_of_ble_eq_true rfl) (Nat.le_of_ble_eq_true rfl) dX0_init_15 (fun q2 H hP hD hS => ?_)
  refine W.widen (k := 2) (n := 40) (by omega) (by omega) ?_
  have hP : va_P D vwCl ([(a, .inr (0, [.ref q1, .null, .null, .null, .null, .null, .null, .int 0, .int 0, .int 0, .int 0, .int 0, .int 0])), (q1, arI (cs 0) 20 (fun _ => 0)), (q2, arI (cs 0) 20 (fun _ => 0))]) H := hP
  have hD : va_D A ([(a, .inr (0, [.ref q1, .null, .null, .null, .null, .null, .null, .int 0, .int 0, .int 0, .int 0, .int 0, .int 0])), (q1, arI (cs 0) 20 (fun _ => 0)), (q2, arI (cs 0) 20 (fun _ => 0))]) := hD
  refine x_pF0 (ty := tyX0 1) hC hP hD hS hname 0 rfl 1 (by decide) tb_97 rfl rfl (tyX0_ok 1 (by decide)) rfl rfl (Nat.le_of_ble_eq_true rfl) dX0_init_17 (fun H locs hP hD hS => ?_)
  have hP : va_P D vwCl ([(a, .inr (0, [.ref q1, .ref q2, .null, .null, .null, .null, .null, .int 0, .int 0, .int 0, .int 0, .int 0, .int 0])), (q1, arI (cs 0) 20 (fun _ => 0)), (q2, arI (cs 0) 20 (fun _ => 0))]) H := hP
  have hD : va_D A ([(a, .inr (0, [.ref q1, .ref q2, .null, .null, .null, .null, .null, .int 0, .int 0, .int 0, .int 0, .int 0, .int 0])), (q1, arI (cs 0) 20 (fun _ => 0)), (q2, arI (cs 0) 20 (fun _ => 0))]) := hD
  refine x_al hC hl 0 dX0_init_20 rfl rfl ?_
  refine x_bi hC dX0_init_21 (by decide) ?_
  refine x_new (a0 := (20, .inl (fun _ => iI 0))) hC hP hD hS hA (ty := .int) rfl tb_136 0 rfl 20 20 rfl (by decide) (fun _ => rfl) (by decide) (Nat.le_of_ble_eq_true rfl) (Nat.le_of_ble_eq_true rfl) dX0_init_23 (fun q3 H hP hD hS => ?_)
  refine W.widen (k := 3) (n := 60) (by omega) (by omega) ?_
  have hP : va_P D vwCl ([(a, .inr (0, [.ref q1, .ref q2, .null, .null, .null, .null, .null, .int 0, .int 0, .int 0, .int 0, .int 0, .int 0])), (q1, arI (cs 0) 20 (fun _ => 0)), (q2, arI (cs 0) 20 (fun _ => 0)), (q3, arI (cs 0) 20 (fun _ => 0))]) H := hP
  have hD : va_D A ([(a, .inr (0, [.ref q1, .ref q2, .null, .null, .null, .null, .null, .int 0, .int 0, .int 0, .int 0, .int 0, .int 0])), (q1, arI (cs 0) 20 (fun _ => 0)), (q2, arI (cs 0) 20 (fun _ => 0)), (q3, arI (cs 0) 20 (fun _ => 0))]) := hD
  refine x_pF0 (ty := tyX0 2) hC hP hD hS hname 0 rfl 2 (by decide) tb_98 rfl rfl (tyX0_ok 2 (by decide)) rfl rfl (Nat.le_of_ble_eq_true rfl) dX0_init_25 (fun H locs hP hD hS => ?_)
  have hP : va_P D vwCl ([(a, .inr (0, [.ref q1, .ref q2, .ref q3, .null, .null, .null, .null, .int 0, .int 0, .int 0, .int 0, .int 0, .int 0])), (q1, arI (cs 0) 20 (fun _ => 0)), (q2, arI (cs 0) 20 (fun _ => 0)), (q3, arI (cs 0) 20 (fun _ => 0))]) H := hP
  have hD : va_D A ([(a, .inr (0, [.ref q1, .ref q2, .ref q3, .null, .null, .null, .null, .int 0, .int 0, .int 0, .int 0, .int 0, .int 0])), (q1, arI (cs 0) 20 (fun _ => 0)), (q2, arI (cs 0) 20 (fun _ => 0)), (q3, arI (cs 0) 20 (fun _ => 0))]) := hD
  refine x_al hC hl 0 dX0_init_28 rfl rfl ?_
  refine x_bi hC dX0_init_29 (by decide) ?_
  refine x_new (a0 := (20, .inl (fun _ => iI 0))) hC hP hD hS hA (ty := .int) rfl tb_136 0 rfl 20 20 rfl (by decide) (fun _ => rfl) (by decide) (Nat.le_of_ble_eq_true rfl) (Nat.le_of_ble_eq_true rfl) dX0_init_31 (fun q4 H hP hD hS => ?_)
  refine W.widen (k := 4) (n := 80) (by omega) (by omega) ?_
  have hP : va_P D vwCl ([(a, .inr (0, [.ref q1, .ref q2, .ref q3, .null, .null, .null, .null, .int 0, .int 0, .int 0, .int 0, .int 0, .int 0])), (q1, arI (cs 0) 20 (fun _ => 0)), (q2, arI (cs 0) 20 (fun _ => 0)), (q3, arI (cs 0) 20 (fun _ => 0)), (q4, arI (cs 0) 20 (fun _ => 0))]) H := hP
  have hD : va_D A ([(a, .inr (0, [.ref q1, .ref q2, .ref q3, .null, .null, .null, .null, .int 0, .int 0, .int 0, .int 0, .int 0, .int 0])), (q1, arI (cs 0) 20 (fun _ => 0)), (q2, arI (cs 0) 20 (fun _ => 0)), (q3, arI (cs 0) 20 (fun _ => 0)), (q4, arI (cs 0) 20 (fun _ => 0))]) := hD
  refine x_pF0 (ty := tyX0 3) hC hP hD hS hname 0 rfl 3 (by decide) tb_99 rfl rfl (tyX0_ok 3 (by decide)) rfl rfl (Nat.le_of_ble_eq_true rfl) dX0_init_33 (fun H locs hP hD hS => ?_)
  have hP : va_P D vwCl ([(a, .inr (0, [.ref q1, .ref q2, .ref q3, .ref q4, .null, .null, .null, .int 0, .int 0, .int 0, .int 0, .int 0, .int 0])), (q1, arI (cs 0) 20 (fun _ => 0)), (q2, arI (cs 0) 20 (fun _ => 0)), (q3, arI (cs 0) 20 (fun _ => 0)), (q4, arI (cs 0) 20 (fun _ => 0))]) H := hP
  have hD : va_D A ([(a, .inr (0, [.ref q1, .ref q2, .ref q3, .ref q4, .null, .null, .null, .int 0, .int 0, .int 0, .int 0, .int 0, .int 0])), (q1, arI (cs 0) 20 (fun _ => 0)), (q2, arI (cs 0) 20 (fun _ => 0)), (q3, arI (cs 0) 20 (fun _ => 0)), (q4, arI (cs 0) 20 (fun _ => 0))]) := hD
  refine x_al hC hl 0 dX0_init_36 rfl rfl ?_
  refine x_bi hC dX0_init_37 (by decide) ?_
  refine x_new (a0 := (8, .inl (fun _ => iI 0))) hC hP hD hS hA (ty := .int) rfl tb_136 0 rfl 8 8 rfl (by decide) (fun _ => rfl) (by decide) (Nat.le_of_ble_eq_true rfl) (Nat.le_of_ble_eq_true rfl) dX0_init_39 (fun q5 H hP hD hS => ?_)
  refine W.widen (k := 5) (n := 88) (by omega) (by omega) ?_
  have hP : va_P D vwCl ([(a, .inr (0, [.ref q1, .ref q2, .ref q3, .ref q4, .null, .null, .null, .int 0, .int 0, .int 0, .int 0, .int 0, .int 0])), (q1, arI (cs 0) 20 (fun _ => 0)), (q2, arI (cs 0) 20 (fun _ => 0)), (q3, arI (cs 0) 20 (fun _ => 0)), (q4, arI (cs 0) 20 (fun _ => 0)), (q5, arI (cs 0) 8 (fun _ => 0))]) H := hP
  have hD : va_D A ([(a, .inr (0, [.ref q1, .ref q2, .ref q3, .ref q4, .null, .null, .null, .int 0, .int 0, .int 0, .int 0, .int 0, .int 0])), (q1, arI (cs 0) 20 (fun _ => 0)), (q2, arI (cs 0) 20 (fun _ => 0)), (q3, arI (cs 0) 20 (fun _ => 0)), (q4, arI (cs 0) 20 (fun _ => 0)), (q5, arI (cs 0) 8 (fun _ => 0))]) := hD
  refine x_pF0 (ty := tyX0 4) hC hP hD hS hname 0 rfl 4 (by decide) tb_100 rfl rfl (tyX0_ok 4 (by decide)) rfl rfl (Nat.le_of_ble_eq_true rfl) dX0_init_41 (fun H locs hP hD hS => ?_)
  have hP : va_P D vwCl ([(a, .inr (0, [.ref q1, .ref q2, .ref q3, .ref q4, .ref q5, .null, .null, .int 0, .int 0, .int 0, .int 0, .int 0, .int 0])), (q1, arI (cs 0) 20 (fun _ => 0)), (q2, arI (cs 0) 20 (fun _ => 0)), (q3, arI (cs 0) 20 (fun _ => 0)), (q4, arI (cs 0) 20 (fun _ => 0)), (q5, arI (cs 0) 8 (fun _ => 0))]) H := hP
  have hD : va_D A ([(a, .inr (0, [.ref q1, .ref q2, .ref q3, .ref q4, .ref q5, .null, .null, .int 0, .int 0, .int 0, .int 0, .int 0, .int 0])), (q1, arI (cs 0) 20 (fun _ => 0)), (q2, arI (cs 0) 20 (fun _ => 0)), (q3, arI (cs 0) 20 (fun _ => 0)), (q4, arI (cs 0) 20 (fun _ => 0)), (q5, arI (cs 0) 8 (fun _ => 0))]) := hD
  refine x_al hC hl 0 dX0_init_44 rfl rfl ?_
  refine x_bi hC dX0_init_45 (by decide) ?_
  refine x_new (a0 := (8, .inl (fun _ => iI 0))) hC hP hD hS hA (ty := .int) rfl tb_136 0 rfl 8 8 rfl (by decide) (fun _ => rfl) (by decide) (Nat.le_of_ble_eq_true rfl) (Nat.le_of_ble_eq_true rfl) dX0_init_47 (fun q6 H hP hD hS => ?_)
  refine W.widen (k := 6) (n := 96) (by omega) (by omega) ?_
  have hP : va_P D vwCl ([(a, .inr (0, [.ref q1, .ref q2, .ref q3, .ref q4, .ref q5, .null, .null, .int 0, .int 0, .int 0, .int 0, .int 0, .int 0])), (q1, arI (cs 0) 20 (fun _ => 0)), (q2, arI (cs 0) 20 (fun _ => 0)), (q3, arI (cs 0) 20 (fun _ => 0)), (q4, arI (cs 0) 20 (fun _ => 0)), (q5, arI (cs 0) 8 (fun _ => 0)), (q6, arI (cs 0) 8 (fun _ => 0))]) H := hP
  have hD : va_D A ([(a, .inr (0, [.ref q1, .ref q2, .ref q3, .ref q4, .ref q5, .null, .null, .int 0, .int 0, .int 0, .int 0, .int 0, .int 0])), (q1, arI (cs 0) 20 (fun _ => 0)), (q2, arI (cs 0) 20 (fun _ => 0)), (q3, arI (cs 0) 20 (fun _ => 0)), (q4, arI (cs 0) 20 (fun _ => 0)), (q5, arI (cs 0) 8 (fun _ => 0)), (q6, arI (cs 0) 8 (fun _ => 0))]) := hD
  refine x_pF0 (ty := tyX0 5) hC hP hD hS hname 0 rfl 5 (by decide) tb_101 rfl rfl (tyX0_ok 5 (by decide)) rfl rfl (Nat.le_of_ble_eq_true rfl) dX0_init_49 (fun H locs hP hD hS => ?_)
  have hP : va_P D vwCl ([(a, .inr (0, [.ref q1, .ref q2, .ref q3, .ref q4, .ref q5, .ref q6, .null, .int 0, .int 0, .int 0, .int 0, .int 0, .int 0])), (q1, arI (cs 0) 20 (fun _ => 0)), (q2, arI (cs 0) 20 (fun _ => 0)), (q3, arI (cs 0) 20 (fun _ => 0)), (q4, arI (cs 0) 20 (fun _ => 0)), (q5, arI (cs 0) 8 (fun _ => 0)), (q6, arI (cs 0) 8 (fun _ => 0))]) H := hP
  have hD : va_D A ([(a, .inr (0, [.ref q1, .ref q2, .ref q3, .ref q4, .ref q5, .ref q6, .null, .int 0, .int 0, .int 0, .int 0, .int 0, .int 0])), (q1, arI (cs 0) 20 (fun _ => 0)), (q2, arI (cs 0) 20 (fun _ => 0)), (q3, arI (cs 0) 20 (fun _ => 0)), (q4, arI (cs 0) 20 (fun _ => 0)), (q5, arI (cs 0) 8 (fun _ => 0)), (q6, arI (cs 0) 8 (fun _ => 0))]) := hD
  refine x_al hC hl 0 dX0_init_52 rfl rfl ?_
  refine x_bi hC dX0_init_53 (by decide) ?_
  refine x_new (a0 := (8, .inr (.inl (fun _ => lN (mkN (fun _ => false) 48))))) hC hP hD hS hA (ty := .long) rfl tb_137 1 rfl 8 8 rfl (by decide) (fun _ => rfl) (by decide) (Nat.le_of_ble_eq_true rfl) (Nat.le_of_ble_eq_true rfl) dX0_init_55 (fun q7 H hP hD hS => ?_)
  refine W.widen (k := 7) (n := 104) (by omega) (by omega) ?_
  have hP : va_P D vwCl ([(a, .inr (0, [.ref q1, .ref q2, .ref q3, .ref q4, .ref q5, .ref q6, .null, .int 0, .int 0, .int 0, .int 0, .int 0, .int 0])), (q1, arI (cs 0) 20 (fun _ => 0)), (q2, arI (cs 0) 20 (fun _ => 0)), (q3, arI (cs 0) 20 (fun _ => 0)), (q4, arI (cs 0) 20 (fun _ => 0)), (q5, arI (cs 0) 8 (fun _ => 0)), (q6, arI (cs 0) 8 (fun _ => 0)), (q7, arL (cs 1) 8 (fun _ _ => false))]) H := hP
  have hD : va_D A ([(a, .inr (0, [.ref q1, .ref q2, .ref q3, .ref q4, .ref q5, .ref q6, .null, .int 0, .int 0, .int 0, .int 0, .int 0, .int 0])), (q1, arI (cs 0) 20 (fun _ => 0)), (q2, arI (cs 0) 20 (fun _ => 0)), (q3, arI (cs 0) 20 (fun _ => 0)), (q4, arI (cs 0) 20 (fun _ => 0)), (q5, arI (cs 0) 8 (fun _ => 0)), (q6, arI (cs 0) 8 (fun _ => 0)), (q7, arL (cs 1) 8 (fun _ _ => false))]) := hD
  refine x_pF0 (ty := tyX0 6) hC hP hD hS hname 0 rfl 6 (by decide) tb_102 rfl rfl (tyX0_ok 6 (by decide)) rfl rfl (Nat.le_of_ble_eq_true rfl) dX0_init_57 (fun H locs hP hD hS => ?_)
  have hP : va_P D vwCl ([(a, .inr (0, [.ref q1, .ref q2, .ref q3, .ref q4, .ref q5, .ref q6, .ref q7, .int 0, .int 0, .int 0, .int 0, .int 0, .int 0])), (q1, arI (cs 0) 20 (fun _ => 0)), (q2, arI (cs 0) 20 (fun _ => 0)), (q3, arI (cs 0) 20 (fun _ => 0)), (q4, arI (cs 0) 20 (fun _ => 0)), (q5, arI (cs 0) 8 (fun _ => 0)), (q6, arI (cs 0) 8 (fun _ => 0)), (q7, arL (cs 1) 8 (fun _ _ => false))]) H := hP
  have hD : va_D A ([(a, .inr (0, [.ref q1, .ref q2, .ref q3, .ref q4, .ref q5, .ref q6, .ref q7, .int 0, .int 0, .int 0, .int 0, .int 0, .int 0])), (q1, arI (cs 0) 20 (fun _ => 0)), (q2, arI (cs 0) 20 (fun _ => 0)), (q3, arI (cs 0) 20 (fun _ => 0)), (q4, arI (cs 0) 20 (fun _ => 0)), (q5, arI (cs 0) 8 (fun _ => 0)), (q6, arI (cs 0) 8 (fun _ => 0)), (q7, arL (cs 1) 8 (fun _ _ => false))]) := hD
  exact tail (fun k : Nat => [a, q1, q2, q3, q4, q5, q6, q7].getD k 0) (fun _ => false) (fun _ => 0) (fun _ => 0) (fun _ => 0) (fun _ => 0) (fun _ => 0) (fun _ => 0) (fun _ => 0) (fun _ _ => false) H locs ls ⟨_, rfl, rfl⟩ hP hD hS hl
abbrev r1_init : Room := { frames := 1, cells := 1, slots := 4, locals := 12 }
set_option maxHeartbeats 4000000 in
set_option maxRecDepth 100000 in
theorem k1_init (l : Launch) (D : va_G) (cs : Nat → ClassId) (a : Nat) : CY l D cs yX1_init cX1_init 1 r1_init 1 4 [.ref a] [(a, .inr (1, [.null, .int 0, .int 0]))] (fun w1 => ∃ h : Nat → Nat, h 0 = a ∧ w1 = wH h cs (fun _ => 0) (fun _ => none)) := by
  refine CY_start (own := RX1) (by decide) rfl (Nat.le_of_ble_eq_true rfl) ?_
  intro p e s m args below meth c Q A ls hC hl hP hD hA hS hname hend
  have hname : meth.name = "<init>" := hname
  have hl : lv_has ls 1 [(0, .ref a)] := hl
  obtain ⟨H, hH⟩ : ∃ H : Heap, H = s.heap := ⟨_, rfl⟩
  have hS : va_S A s.heap H [] := by rw [hH]; exact hS
  rw [← hH] at hP
  obtain ⟨locs, hlocs⟩ : ∃ locs : List Loc, locs = [] := ⟨_, rfl⟩
  rw [← hlocs] at hS
  suffices hgo : W p l e r1_init s m args below meth c H locs 0 0 Q (F0 m 0 ls []) by rw [← hH, ← hlocs]; exact hgo
  clear hH hlocs
  refine x_al hC hl 0 dX1_init_0 rfl rfl ?_
  refine x_obj hC tb_143 hl.1 (Nat.le_of_ble_eq_true rfl) (Nat.le_of_ble_eq_true rfl) dX1_init_1 ?_
  refine x_al hC hl 0 dX1_init_4 rfl rfl ?_
  refine x_ic hC dX1_init_5 ?_
  refine x_newQ hC hP hD hS hA tb_144 (Nat.le_of_ble_eq_true rfl) (Nat.le_of_ble_eq_true rfl) dX1_init_6 (fun q1 H hP hD hS => ?_)
  refine W.widen (k := 1) (n := 4) (by omega) (by omega) ?_
  have hP : va_P D vwCl ([(a, .inr (1, [.null, .int 0, .int 0])), (q1, .inl (cs 4, 4, .inr (.inr (.inr (.inr (fun _ => none))))))]) H := hP
  have hD : va_D A ([(a, .inr (1, [.null, .int 0, .int 0])), (q1, .inl (cs 4, 4, .inr (.inr (.inr (.inr (fun _ => none))))))]) := hD
  refine x_pF1 (ty := tyX1 0) hC hP hD hS hname 0 rfl 0 (by decide) tb_146 rfl rfl (tyX1_ok 0 (by decide)) rfl rfl (Nat.le_of_ble_eq_true rfl) dX1_init_9 (fun H locs hP hD hS => ?_)
  have hP : va_P D vwCl ([(a, .inr (1, [.ref q1, .int 0, .int 0])), (q1, .inl (cs 4, 4, .inr (.inr (.inr (.inr (fun _ => none))))))]) H := hP
  have hD : va_D A ([(a, .inr (1, [.ref q1, .int 0, .int 0])), (q1, .inl (cs 4, 4, .inr (.inr (.inr (.inr (fun _ => none))))))]) := hD
  exact hend H locs 12 ls (wH (fun k : Nat => [a, q1].getD k 0) cs (fun _ => 0) (fun _ => none)) ⟨_, rfl, rfl⟩ hP hD hS dX1_init_12
abbrev r2_init : Room := { frames := 1, cells := 1, slots := 3, locals := 12 }
set_option maxHeartbeats 4000000 in
set_option maxRecDepth 100000 in
theorem k2_init (l : Launch) (D : va_G) (cs : Nat → ClassId) (a : Nat) : CY l D cs yX2_init cX2_init 1 r2_init 1 3 [.ref a] [(a, .inr (2, [.null, .int 0, .int 0]))] (fun w1 => ∃ h : Nat → Nat, h 0 = a ∧ w1 = wO h cs (fun _ => 0) (fun _ => 0)) := by
  refine CY_start (own := RX2) (by decide) rfl (Nat.le_of_ble_eq_true rfl) ?_
  intro p e s m args below meth c Q A ls hC hl hP hD hA hS hname hend
  have hname : meth.name = "<init>" := hname
  have hl : lv_has ls 1 [(0, .ref a)] := hl
  obtain ⟨H, hH⟩ : ∃ H : Heap, H = s.heap := ⟨_, rfl⟩
  have hS : va_S A s.heap H [] := by rw [hH]; exact hS
  rw [← hH] at hP
  obtain ⟨locs, hlocs⟩ : ∃ locs : List Loc, locs = [] := ⟨_, rfl⟩
  rw [← hlocs] at hS
  suffices hgo : W p l e r2_init s m args below meth c H locs 0 0 Q (F0 m 0 ls []) by rw [← hH, ← hlocs]; exact hgo
  clear hH hlocs
  refine x_al hC hl 0 dX2_init_0 rfl rfl ?_
  refine x_obj hC tb_167 hl.1 (Nat.le_of_ble_eq_true rfl) (Nat.le_of_ble_eq_true rfl) dX2_init_1 ?_
  refine x_al hC hl 0 dX2_init_4 rfl rfl ?_
  refine x_ic hC dX2_init_5 ?_
  refine x_new (a0 := (3, .inl (fun _ => iI 0))) hC hP hD hS hA (ty := .int) rfl tb_136 0 rfl 3 3 rfl (by decide) (fun _ => rfl) (by decide) (Nat.le_of_ble_eq_true rfl) (Nat.le_of_ble_eq_true rfl) dX2_init_6 (fun q1 H hP hD hS => ?_)
  refine W.widen (k := 1) (n := 3) (by omega) (by omega) ?_
  have hP : va_P D vwCl ([(a, .inr (2, [.null, .int 0, .int 0])), (q1, arI (cs 0) 3 (fun _ => 0))]) H := hP
  have hD : va_D A ([(a, .inr (2, [.null, .int 0, .int 0])), (q1, arI (cs 0) 3 (fun _ => 0))]) := hD
  refine x_pF2 (ty := tyX2 0) hC hP hD hS hname 0 rfl 0 (by decide) tb_168 rfl rfl (tyX2_ok 0 (by decide)) rfl rfl (Nat.le_of_ble_eq_true rfl) dX2_init_8 (fun H locs hP hD hS => ?_)
  have hP : va_P D vwCl ([(a, .inr (2, [.ref q1, .int 0, .int 0])), (q1, arI (cs 0) 3 (fun _ => 0))]) H := hP
  have hD : va_D A ([(a, .inr (2, [.ref q1, .int 0, .int 0])), (q1, arI (cs 0) 3 (fun _ => 0))]) := hD
  exact hend H locs 11 ls (wO (fun k : Nat => [a, q1].getD k 0) cs (fun _ => 0) (fun _ => 0)) ⟨_, rfl, rfl⟩ hP hD hS dX2_init_11
