theorem lkI3_17 : LkJ RX3 17 yX2_init "OnlineRooms" cX2_init 1 0 := ⟨tb_166, by decide +kernel, tb_165, tb_75, rfl, by decide +kernel⟩
abbrev r3_init : Room := { frames := 2, cells := 3, slots := 66, locals := 32 }
set_option maxHeartbeats 4000000 in
set_option maxRecDepth 100000 in
theorem k3_init (l : Launch) (D : va_G) (cs : Nat → ClassId) (a : Nat) : CY l D cs yX3_init cX3_init 1 r3_init 3 66 [.ref a] [(a, .inr (3, [.null, .null, .int 0, .int 0, .int 0, .int 0, .int 0]))] (fun w1 => ∃ hs hg ho : Nat → Nat, hs 0 = a ∧ w1 = wS hs hg ho (fun _ => 0) ++ (wG hg cs (fun _ => 0) ++ wO ho cs (fun _ => 0) (fun _ => 0))) := by
  refine CY_start (own := RX3) (by decide) rfl (Nat.le_of_ble_eq_true rfl) ?_
  intro p e s m args below meth c Q A ls hC hl hP hD hA hS hname hend
  have hname : meth.name = "<init>" := hname
  have hl : lv_has ls 1 [(0, .ref a)] := hl
  obtain ⟨H, hH⟩ : ∃ H : Heap, H = s.heap := ⟨_, rfl⟩
  have hS : va_S A s.heap H [] := by rw [hH]; exact hS
  rw [← hH] at hP
  obtain ⟨locs, hlocs⟩ : ∃ locs : List Loc, locs = [] := ⟨_, rfl⟩
  rw [← hlocs] at hS
  suffices hgo : W p l e r3_init s m args below meth c H locs 0 0 Q (F0 m 0 ls []) by rw [← hH, ← hlocs]; exact hgo
  clear hH hlocs
  refine x_al hC hl 0 dX3_init_0 rfl rfl ?_
  refine x_obj hC tb_161 hl.1 (Nat.le_of_ble_eq_true rfl) (Nat.le_of_ble_eq_true rfl) dX3_init_1 ?_
  refine x_al hC hl 0 dX3_init_4 rfl rfl ?_
  refine x_bi hC dX3_init_5 (by decide) ?_
  refine x_new (a0 := (60, .inl (fun _ => iI 0))) hC hP hD hS hA (ty := .char) rfl tb_178 2 rfl 60 60 rfl (by decide) (fun _ => rfl) (by decide) (Nat.le_of_ble_eq_true rfl) (Nat.le_of_ble_eq_true rfl) dX3_init_7 (fun q1 H hP hD hS => ?_)
  refine W.widen (k := 1) (n := 60) (by omega) (by omega) ?_
  have hP : va_P D vwCl ([(a, .inr (3, [.null, .null, .int 0, .int 0, .int 0, .int 0, .int 0])), (q1, arI (cs 2) 60 (fun _ => 0))]) H := hP
  have hD : va_D A ([(a, .inr (3, [.null, .null, .int 0, .int 0, .int 0, .int 0, .int 0])), (q1, arI (cs 2) 60 (fun _ => 0))]) := hD
  refine x_pF3 (ty := tyX3 0) hC hP hD hS hname 0 rfl 0 (by decide) tb_179 rfl rfl (tyX3_ok 0 (by decide)) rfl rfl (Nat.le_of_ble_eq_true rfl) dX3_init_9 (fun H locs hP hD hS => ?_)
  have hP : va_P D vwCl ([(a, .inr (3, [.ref q1, .null, .int 0, .int 0, .int 0, .int 0, .int 0])), (q1, arI (cs 2) 60 (fun _ => 0))]) H := hP
  have hD : va_D A ([(a, .inr (3, [.ref q1, .null, .int 0, .int 0, .int 0, .int 0, .int 0])), (q1, arI (cs 2) 60 (fun _ => 0))]) := hD
  refine x_al hC hl 0 dX3_init_12 rfl rfl ?_
  refine x_mk2 hC hP hD hS hA tb_162 tb_163 tb_75 (Nat.le_of_ble_eq_true rfl) (Nat.le_of_ble_eq_true rfl) dX3_init_13 (fun q2 H hP hD hS => ?_)
  refine W.widen (k := 2) (n := 63) (by omega) (by omega) ?_
  have hP : va_P D vwCl ([(a, .inr (3, [.ref q1, .null, .int 0, .int 0, .int 0, .int 0, .int 0])), (q1, arI (cs 2) 60 (fun _ => 0)), (q2, .inr (2, [.null, .int 0, .int 0]))]) H := hP
  have hD : va_D A ([(a, .inr (3, [.ref q1, .null, .int 0, .int 0, .int 0, .int 0, .int 0])), (q1, arI (cs 2) 60 (fun _ => 0)), (q2, .inr (2, [.null, .int 0, .int 0]))]) := hD
  refine x_dup hC dX3_init_16 rfl ?_
  refine x_jY (As := []) (rest := [.ref q2, .ref a]) hC (k2_init l D cs q2) lkI3_17 (subX (wr := [(a, .inr (3, [.ref q1, .null, .int 0, .int 0, .int 0, .int 0, .int 0])), (q1, arI (cs 2) 60 (fun _ => 0))]) (List.Perm.refl _) hP hD hS hA) hP hS rfl hl.1 rfl (Nat.le_of_ble_eq_true rfl) ⟨rfl, rfl⟩ ⟨Nat.le_of_ble_eq_true rfl, Nat.le_of_ble_eq_true rfl⟩ ⟨Nat.le_of_ble_eq_true rfl, Nat.le_of_ble_eq_true rfl⟩ dX3_init_17 (fun w1 H2 locs2 hpost hP2 hD2 hS2 hz => ?_)
  obtain ⟨ho, h0q, rfl⟩ := hpost
  subst h0q
  have hP := hP2
  have hD := hD2
  have hS := hS2
  clear hP2 hD2 hS2
  obtain ⟨H, rfl⟩ : ∃ z : Heap, z = H2 := ⟨_, rfl⟩
  obtain ⟨locs, rfl⟩ : ∃ z : List Loc, z = locs2 := ⟨_, rfl⟩
  refine W.widen (k := 3) (n := 66) (by omega) (by omega) ?_
  have hP : va_P D vwCl (([(a, .inr (3, [.ref q1, .null, .int 0, .int 0, .int 0, .int 0, .int 0])), (q1, arI (cs 2) 60 (fun _ => 0))]) ++ (wO ho cs (fun _ => 0) (fun _ => 0))) H := hP
  have hD : va_D A (([(a, .inr (3, [.ref q1, .null, .int 0, .int 0, .int 0, .int 0, .int 0])), (q1, arI (cs 2) 60 (fun _ => 0))]) ++ (wO ho cs (fun _ => 0) (fun _ => 0))) := hD
  refine x_pF3 (ty := tyX3 1) hC hP hD hS hname 0 rfl 1 (by decide) tb_180 rfl rfl (tyX3_ok 1 (by decide)) rfl rfl (Nat.le_of_ble_eq_true rfl) dX3_init_20 (fun H locs hP hD hS => ?_)
  have hP : va_P D vwCl (([(a, .inr (3, [.ref q1, .ref (ho 0), .int 0, .int 0, .int 0, .int 0, .int 0])), (q1, arI (cs 2) 60 (fun _ => 0))]) ++ (wO ho cs (fun _ => 0) (fun _ => 0))) H := hP
  have hD : va_D A (([(a, .inr (3, [.ref q1, .ref (ho 0), .int 0, .int 0, .int 0, .int 0, .int 0])), (q1, arI (cs 2) 60 (fun _ => 0))]) ++ (wO ho cs (fun _ => 0) (fun _ => 0))) := hD
  exact hend H locs 23 ls (wS (fun _ => a) (fun _ => q1) ho (fun _ => 0) ++ (wG (fun _ => q1) cs (fun _ => 0) ++ wO ho cs (fun _ => 0) (fun _ => 0))) ⟨_, _, _, rfl, rfl⟩ hP hD hS dX3_init_23
theorem lkI4_9 : LkI RX4 9 yX0_init cX0_init 2 0 := ⟨tb_94, tb_92, tb_93, tb_72, rfl, by decide +kernel⟩
theorem lkI4_21 : LkJ RX4 21 yX1_init "OnlineRooms" cX1_init 1 0 := ⟨tb_142, by decide +kernel, tb_141, tb_73, rfl, by decide +kernel⟩
theorem lkI4_28 : LkJ RX4 28 yX3_init "OnlineRooms" cX3_init 1 0 := ⟨tb_160, by decide +kernel, tb_159, tb_74, rfl, by decide +kernel⟩
abbrev r4_init : Room := { frames := 3, cells := 22, slots := 314, locals := 60 }
set_option maxHeartbeats 4000000 in
set_option maxRecDepth 100000 in
theorem k4_init (l : Launch) (D : va_G) (cs : Nat → ClassId) (a : Nat) : CY l D cs yX4_init cX4_init 1 r4_init 22 314 [.ref a] [(a, .inr (4, [.null, .null, .null, .null]))] (fun w1 => ∃ ha hn ht hh hs hg ho : Nat → Nat, ha 0 = a ∧ w1 = (((wX ha hn ht hh hs ++ wb hn cs bd0) ++ wb ht cs bd0) ++ wH hh cs (fun _ => 0) (fun _ => none)) ++ (wS hs hg ho (fun _ => 0) ++ (wG hg cs (fun _ => 0) ++ wO ho cs (fun _ => 0) (fun _ => 0)))) := by
  refine CY_start (own := RX4) (by decide) rfl (Nat.le_of_ble_eq_true rfl) ?_
  intro p e s m args below meth c Q A ls hC hl hP hD hA hS hname hend
  have hname : meth.name = "<init>" := hname
  have hl : lv_has ls 1 [(0, .ref a)] := hl
  obtain ⟨H, hH⟩ : ∃ H : Heap, H = s.heap := ⟨_, rfl⟩
  have hS : va_S A s.heap H [] := by rw [hH]; exact hS
  rw [← hH] at hP
  obtain ⟨locs, hlocs⟩ : ∃ locs : List Loc, locs = [] := ⟨_, rfl⟩
  rw [← hlocs] at hS
  suffices hgo : W p l e r4_init s m args below meth c H locs 0 0 Q (F0 m 0 ls []) by rw [← hH, ← hlocs]; exact hgo
  clear hH hlocs
  refine x_al hC hl 0 dX4_init_0 rfl rfl ?_
  refine x_obj hC tb_87 hl.1 (Nat.le_of_ble_eq_true rfl) (Nat.le_of_ble_eq_true rfl) dX4_init_1 ?_
  refine x_al hC hl 0 dX4_init_4 rfl rfl ?_
  refine x_mk0 hC hP hD hS hA tb_90 tb_91 tb_72 (Nat.le_of_ble_eq_true rfl) (Nat.le_of_ble_eq_true rfl) dX4_init_5 (fun q1 H hP hD hS => ?_)
  refine W.widen (k := 1) (n := 13) (by omega) (by omega) ?_
  have hP : va_P D vwCl ([(a, .inr (4, [.null, .null, .null, .null])), (q1, .inr (0, [.null, .null, .null, .null, .null, .null, .null, .int 0, .int 0, .int 0, .int 0, .int 0, .int 0]))]) H := hP
  have hD : va_D A ([(a, .inr (4, [.null, .null, .null, .null])), (q1, .inr (0, [.null, .null, .null, .null, .null, .null, .null, .int 0, .int 0, .int 0, .int 0, .int 0, .int 0]))]) := hD
  refine x_dup hC dX4_init_8 rfl ?_
  refine x_iY (As := []) (rest := [.ref q1, .ref a]) hC (k0_init l D cs q1) lkI4_9 (subX (wr := [(a, .inr (4, [.null, .null, .null, .null]))]) (List.Perm.refl _) hP hD hS hA) hP hS rfl hl.1 rfl (Nat.le_of_ble_eq_true rfl) ⟨rfl, rfl⟩ ⟨Nat.le_of_ble_eq_true rfl, Nat.le_of_ble_eq_true rfl⟩ ⟨Nat.le_of_ble_eq_true rfl, Nat.le_of_ble_eq_true rfl⟩ dX4_init_9 (fun w1 H2 locs2 hpost hP2 hD2 hS2 hz => ?_)
  obtain ⟨hn, h0q, rfl⟩ := hpost
  subst h0q
  have hP := hP2
  have hD := hD2
  have hS := hS2
  clear hP2 hD2 hS2
  obtain ⟨H, rfl⟩ : ∃ z : Heap, z = H2 := ⟨_, rfl⟩
  obtain ⟨locs, rfl⟩ : ∃ z : List Loc, z = locs2 := ⟨_, rfl⟩
  refine W.widen (k := 8) (n := 117) (by omega) (by omega) ?_
  have hP : va_P D vwCl (([(a, .inr (4, [.null, .null, .null, .null]))]) ++ (wb hn cs bd0)) H := hP
  have hD : va_D A (([(a, .inr (4, [.null, .null, .null, .null]))]) ++ (wb hn cs bd0)) := hD
  refine x_pF4 (ty := tyX4 0) hC hP hD hS hname 0 rfl 0 (by decide) tb_201 rfl rfl (tyX4_ok 0 (by decide)) rfl rfl (Nat.le_of_ble_eq_true rfl) dX4_init_12 (fun H locs hP hD hS => ?_)
  have hP : va_P D vwCl (([(a, .inr (4, [.ref (hn 0), .null, .null, .null]))]) ++ (wb hn cs bd0)) H := hP
  have hD : va_D A (([(a, .inr (4, [.ref (hn 0), .null, .null, .null]))]) ++ (wb hn cs bd0)) := hD
  refine x_al hC hl 0 dX4_init_15 rfl rfl ?_
  refine x_mk0 hC hP hD hS hA tb_90 tb_91 tb_72 (Nat.le_of_ble_eq_true rfl) (Nat.le_of_ble_eq_true rfl) dX4_init_16 (fun q2 H hP hD hS => ?_)
  refine W.widen (k := 9) (n := 130) (by omega) (by omega) ?_
  have hP : va_P D vwCl ((([(a, .inr (4, [.ref (hn 0), .null, .null, .null]))]) ++ (wb hn cs bd0)) ++ [(q2, .inr (0, [.null, .null, .null, .null, .null, .null, .null, .int 0, .int 0, .int 0, .int 0, .int 0, .int 0]))]) H := hP
  have hD : va_D A ((([(a, .inr (4, [.ref (hn 0), .null, .null, .null]))]) ++ (wb hn cs bd0)) ++ [(q2, .inr (0, [.null, .null, .null, .null, .null, .null, .null, .int 0, .int 0, .int 0, .int 0, .int 0, .int 0]))]) := hD
  refine x_dup hC dX4_init_19 rfl ?_
  refine x_iY (As := []) (rest := [.ref q2, .ref a]) hC (k0_init l D cs q2) lkI4_9 (subX (wr := ([(a, .inr (4, [.ref (hn 0), .null, .null, .null]))]) ++ (wb hn cs bd0)) (List.Perm.refl _) hP hD hS hA) hP hS rfl hl.1 rfl (Nat.le_of_ble_eq_true rfl) ⟨rfl, rfl⟩ ⟨Nat.le_of_ble_eq_true rfl, Nat.le_of_ble_eq_true rfl⟩ ⟨Nat.le_of_ble_eq_true rfl, Nat.le_of_ble_eq_true rfl⟩ dX4_init_20 (fun w1 H2 locs2 hpost hP2 hD2 hS2 hz => ?_)
  obtain ⟨ht, h0q, rfl⟩ := hpost
  subst h0q
  have hP := hP2
  have hD := hD2
  have hS := hS2
  clear hP2 hD2 hS2
  obtain ⟨H, rfl⟩ : ∃ z : Heap, z = H2 := ⟨_, rfl⟩
  obtain ⟨locs, rfl⟩ : ∃ z : List Loc, z = locs2 := ⟨_, rfl⟩
  refine W.widen (k := 16) (n := 234) (by omega) (by omega) ?_
  have hP : va_P D vwCl ((([(a, .inr (4, [.ref (hn 0), .null, .null, .null]))]) ++ (wb hn cs bd0)) ++ (wb ht cs bd0)) H := hP
  have hD : va_D A ((([(a, .inr (4, [.ref (hn 0), .null, .null, .null]))]) ++ (wb hn cs bd0)) ++ (wb ht cs bd0)) := hD
  refine x_pF4 (ty := tyX4 1) hC hP hD hS hname 0 rfl 1 (by decide) tb_202 rfl rfl (tyX4_ok 1 (by decide)) rfl rfl (Nat.le_of_ble_eq_true rfl) dX4_init_23 (fun H locs hP hD hS => ?_)
  have hP : va_P D vwCl ((([(a, .inr (4, [.ref (hn 0), .ref (ht 0), .null, .null]))]) ++ (wb hn cs bd0)) ++ (wb ht cs bd0)) H := hP
  have hD : va_D A ((([(a, .inr (4, [.ref (hn 0), .ref (ht 0), .null, .null]))]) ++ (wb hn cs bd0)) ++ (wb ht cs bd0)) := hD
  refine x_al hC hl 0 dX4_init_26 rfl rfl ?_
  refine x_mk1 hC hP hD hS hA tb_138 tb_139 tb_73 (Nat.le_of_ble_eq_true rfl) (Nat.le_of_ble_eq_true rfl) dX4_init_27 (fun q3 H hP hD hS => ?_)
  refine W.widen (k := 17) (n := 237) (by omega) (by omega) ?_
  have hP : va_P D vwCl (((([(a, .inr (4, [.ref (hn 0), .ref (ht 0), .null, .null]))]) ++ (wb hn cs bd0)) ++ (wb ht cs bd0)) ++ [(q3, .inr (1, [.null, .int 0, .int 0]))]) H := hP
  have hD : va_D A (((([(a, .inr (4, [.ref (hn 0), .ref (ht 0), .null, .null]))]) ++ (wb hn cs bd0)) ++ (wb ht cs bd0)) ++ [(q3, .inr (1, [.null, .int 0, .int 0]))]) := hD
  refine x_dup hC dX4_init_30 rfl ?_
  refine x_jY (As := []) (rest := [.ref q3, .ref a]) hC (k1_init l D cs q3) lkI4_21 (subX (wr := (([(a, .inr (4, [.ref (hn 0), .ref (ht 0), .null, .null]))]) ++ (wb hn cs bd0)) ++ (wb ht cs bd0)) (List.Perm.refl _) hP hD hS hA) hP hS rfl hl.1 rfl (Nat.le_of_ble_eq_true rfl) ⟨rfl, rfl⟩ ⟨Nat.le_of_ble_eq_true rfl, Nat.le_of_ble_eq_true rfl⟩ ⟨Nat.le_of_ble_eq_true rfl, Nat.le_of_ble_eq_true rfl⟩ dX4_init_31 (fun w1 H2 locs2 hpost hP2 hD2 hS2 hz => ?_)
  obtain ⟨hh, h0q, rfl⟩ := hpost
  subst h0q
  have hP := hP2
  have hD := hD2
  have hS := hS2
  clear hP2 hD2 hS2
  obtain ⟨H, rfl⟩ : ∃ z : Heap, z = H2 := ⟨_, rfl⟩
  obtain ⟨locs, rfl⟩ : ∃ z : List Loc, z = locs2 := ⟨_, rfl⟩
  refine W.widen (k := 18) (n := 241) (by omega) (by omega) ?_
  have hP : va_P D vwCl (((([(a, .inr (4, [.ref (hn 0), .ref (ht 0), .null, .null]))]) ++ (wb hn cs bd0)) ++ (wb ht cs bd0)) ++ (wH hh cs (fun _ => 0) (fun _ => none))) H := hP
  have hD : va_D A (((([(a, .inr (4, [.ref (hn 0), .ref (ht 0), .null, .null]))]) ++ (wb hn cs bd0)) ++ (wb ht cs bd0)) ++ (wH hh cs (fun _ => 0) (fun _ => none))) := hD
  refine x_pF4 (ty := tyX4 2) hC hP hD hS hname 0 rfl 2 (by decide) tb_203 rfl rfl (tyX4_ok 2 (by decide)) rfl rfl (Nat.le_of_ble_eq_true rfl) dX4_init_34 (fun H locs hP hD hS => ?_)
  have hP : va_P D vwCl (((([(a, .inr (4, [.ref (hn 0), .ref (ht 0), .ref (hh 0), .null]))]) ++ (wb hn cs bd0)) ++ (wb ht cs bd0)) ++ (wH hh cs (fun _ => 0) (fun _ => none))) H := hP
  have hD : va_D A (((([(a, .inr (4, [.ref (hn 0), .ref (ht 0), .ref (hh 0), .null]))]) ++ (wb hn cs bd0)) ++ (wb ht cs bd0)) ++ (wH hh cs (fun _ => 0) (fun _ => none))) := hD
  refine x_al hC hl 0 dX4_init_37 rfl rfl ?_
  refine x_mk3 hC hP hD hS hA tb_156 tb_157 tb_74 (Nat.le_of_ble_eq_true rfl) (Nat.le_of_ble_eq_true rfl) dX4_init_38 (fun q4 H hP hD hS => ?_)
  refine W.widen (k := 19) (n := 248) (by omega) (by omega) ?_
  have hP : va_P D vwCl ((((([(a, .inr (4, [.ref (hn 0), .ref (ht 0), .ref (hh 0), .null]))]) ++ (wb hn cs bd0)) ++ (wb ht cs bd0)) ++ (wH hh cs (fun _ => 0) (fun _ => none))) ++ [(q4, .inr (3, [.null, .null, .int 0, .int 0, .int 0, .int 0, .int 0]))]) H := hP
  have hD : va_D A ((((([(a, .inr (4, [.ref (hn 0), .ref (ht 0), .ref (hh 0), .null]))]) ++ (wb hn cs bd0)) ++ (wb ht cs bd0)) ++ (wH hh cs (fun _ => 0) (fun _ => none))) ++ [(q4, .inr (3, [.null, .null, .int 0, .int 0, .int 0, .int 0, .int 0]))]) := hD
  refine x_dup hC dX4_init_41 rfl ?_
  refine x_jY (As := []) (rest := [.ref q4, .ref a]) hC (k3_init l D cs q4) lkI4_28 (subX (wr := ((([(a, .inr (4, [.ref (hn 0), .ref (ht 0), .ref (hh 0), .null]))]) ++ (wb hn cs bd0)) ++ (wb ht cs bd0)) ++ (wH hh cs (fun _ => 0) (fun _ => none))) (List.Perm.refl _) hP hD hS hA) hP hS rfl hl.1 rfl (Nat.le_of_ble_eq_true rfl) ⟨rfl, rfl⟩ ⟨Nat.le_of_ble_eq_true rfl, Nat.le_of_ble_eq_true rfl⟩ ⟨Nat.le_of_ble_eq_true rfl, Nat.le_of_ble_eq_true rfl⟩ dX4_init_42 (fun w1 H2 locs2 hpost hP2 hD2 hS2 hz => ?_)
  obtain ⟨hs, hg, ho, h0q, rfl⟩ := hpost
  subst h0q
  have hP := hP2
  have hD := hD2
  have hS := hS2
  clear hP2 hD2 hS2
  obtain ⟨H, rfl⟩ : ∃ z : Heap, z = H2 := ⟨_, rfl⟩
  obtain ⟨locs, rfl⟩ : ∃ z : List Loc, z = locs2 := ⟨_, rfl⟩
  refine W.widen (k := 22) (n := 314) (by omega) (by omega) ?_
  have hP : va_P D vwCl ((((([(a, .inr (4, [.ref (hn 0), .ref (ht 0), .ref (hh 0), .null]))]) ++ (wb hn cs bd0)) ++ (wb ht cs bd0)) ++ (wH hh cs (fun _ => 0) (fun _ => none))) ++ (wS hs hg ho (fun _ => 0) ++ (wG hg cs (fun _ => 0) ++ wO ho cs (fun _ => 0) (fun _ => 0)))) H := hP
  have hD : va_D A ((((([(a, .inr (4, [.ref (hn 0), .ref (ht 0), .ref (hh 0), .null]))]) ++ (wb hn cs bd0)) ++ (wb ht cs bd0)) ++ (wH hh cs (fun _ => 0) (fun _ => none))) ++ (wS hs hg ho (fun _ => 0) ++ (wG hg cs (fun _ => 0) ++ wO ho cs (fun _ => 0) (fun _ => 0)))) := hD
  refine x_pF4 (ty := tyX4 3) hC hP hD hS hname 0 rfl 3 (by decide) tb_204 rfl rfl (tyX4_ok 3 (by decide)) rfl rfl (Nat.le_of_ble_eq_true rfl) dX4_init_45 (fun H locs hP hD hS => ?_)
  have hP : va_P D vwCl ((((([(a, .inr (4, [.ref (hn 0), .ref (ht 0), .ref (hh 0), .ref (hs 0)]))]) ++ (wb hn cs bd0)) ++ (wb ht cs bd0)) ++ (wH hh cs (fun _ => 0) (fun _ => none))) ++ (wS hs hg ho (fun _ => 0) ++ (wG hg cs (fun _ => 0) ++ wO ho cs (fun _ => 0) (fun _ => 0)))) H := hP
  have hD : va_D A ((((([(a, .inr (4, [.ref (hn 0), .ref (ht 0), .ref (hh 0), .ref (hs 0)]))]) ++ (wb hn cs bd0)) ++ (wb ht cs bd0)) ++ (wH hh cs (fun _ => 0) (fun _ => none))) ++ (wS hs hg ho (fun _ => 0) ++ (wG hg cs (fun _ => 0) ++ wO ho cs (fun _ => 0) (fun _ => 0)))) := hD
  exact hend H locs 48 ls ((((wX (fun _ => a) hn ht hh hs ++ wb hn cs bd0) ++ wb ht cs bd0) ++ wH hh cs (fun _ => 0) (fun _ => none)) ++ (wS hs hg ho (fun _ => 0) ++ (wG hg cs (fun _ => 0) ++ wO ho cs (fun _ => 0) (fun _ => 0)))) ⟨_, _, _, _, _, _, _, rfl, rfl⟩ hP hD hS dX4_init_48
def md0 : Int → Int := fI (fun r s => u1 (u1 s (5 + 3 * r + 0) 9) (5 + 3 * r + 1) 10) (fun _ => 0) 8
abbrev r5_init : Room := { frames := 1, cells := 5, slots := 734, locals := 12 }
set_option maxHeartbeats 4000000 in
set_option maxRecDepth 100000 in
theorem k5_init (l : Launch) (D : va_G) (cs : Nat → ClassId) (a : Nat) : CY l D cs yX5_init cX5_init 2 r5_init 5 734 [.ref a] [(a, .inr (5, [.int 0, .null, .null, .null, .int 0, .null, .int 0, .null, .int 0, .int 0, .int 0, .int 0, .int 0, .int 0, .int 0, .int 0, .int 0]))] (fun w1 => ∃ h : Nat → Nat, h 0 = a ∧ w1 = wM h cs (u1 (fun _ => 0) 0 0) md0 (fun _ => 0) (fun _ => 0) (fun _ => 0) (fun _ => 0)) := by
  refine CY_start (own := RX5) (by decide) rfl (Nat.le_of_ble_eq_true rfl) ?_
  intro p e s m args below meth c Q A ls hC hl hP hD hA hS hname hend
  have hname : meth.name = "<init>" := hname
  have hl : lv_has ls 2 [(0, .ref a)] := hl
  obtain ⟨H, hH⟩ : ∃ H : Heap, H = s.heap := ⟨_, rfl⟩
  have hS : va_S A s.heap H [] := by rw [hH]; exact hS
  rw [← hH] at hP
  obtain ⟨locs, hlocs⟩ : ∃ locs : List Loc, locs = [] := ⟨_, rfl⟩
  rw [← hlocs] at hS
  suffices hgo : W p l e r5_init s m args below meth c H locs 0 0 Q (F0 m 0 ls []) by rw [← hH, ← hlocs]; exact hgo
  clear hH hlocs
  have tail : ∀ (h : Nat → Nat) (mF mS mA mV mT mB : Int → Int) (H : Heap) (locs : List Loc) (ls : Array Slot), (∃ h2 : Nat → Nat, h2 0 = a ∧ wM h cs (u1 mF 0 0) (fI (fun r s => u1 (u1 s (5 + 3 * r + 0) 9) (5 + 3 * r + 1) 10) mS 8) mA mV mT mB = wM h2 cs (u1 (fun _ => 0) 0 0) md0 (fun _ => 0) (fun _ => 0) (fun _ => 0) (fun _ => 0)) → va_P D vwCl (wM h cs mF mS mA mV mT mB) H → va_D A (wM h cs mF mS mA mV mT mB) → va_S A s.heap H locs → lv_has ls 2 [(0, .ref (h 0))] → W p l e r5_init s m args below meth c H locs 5 734 Q (F0 m 45 ls []) := by
    intro h mF mS mA mV mT mB H locs ls hpost hP hD hS hl
    refine x_al hC hl 0 dX5_init_45 rfl rfl ?_
    refine x_ic hC dX5_init_46 ?_
    refine x_put5_0 hC hP hD hS 0 rfl tb_619 dX5_init_47 (fun H locs hP hD hS => ?_)
    have hP : va_P D vwCl (wM h cs (u1 mF 0 0) mS mA mV mT mB) H := hP
    have hD : va_D A (wM h cs (u1 mF 0 0) mS mA mV mT mB) := hD
    refine x_ic hC dX5_init_50 ?_
    refine x_is hC [(1, .int (iI 0)), (0, .ref (h 0))] hl dX5_init_51 rfl (by decide) rfl (fun ls hl => ?_)
    have loop_52 : ∀ (n : Nat) (i : Int), (hi0 : 0 ≤ i) → (hiN : i ≤ 8) → (8 - i) < (n : Int) → ∀ (H : Heap) (locs : List Loc) (ls : Array Slot), va_P D vwCl (wM h cs (u1 mF 0 0) (fI (fun r s => u1 (u1 s (5 + 3 * r + 0) 9) (5 + 3 * r + 1) 10) mS i) mA mV mT mB) H → va_D A (wM h cs (u1 mF 0 0) (fI (fun r s => u1 (u1 s (5 + 3 * r + 0) 9) (5 + 3 * r + 1) 10) mS i) mA mV mT mB) → va_S A s.heap H locs → lv_has ls 2 [(1, .int (iI i)), (0, .ref (h 0))] → W p l e r5_init s m args below meth c H locs 5 734 Q (F0 m 52 ls []) := by
      intro n
      induction n with
      | zero =>
        intro i hi0 hiN hnn
        exfalso; omega
      | succ n ih_52 =>
        intro i hi0 hiN hnn H locs ls hP hD hS hl
        refine x_il hC hl 0 dX5_init_52 rfl rfl ?_
        refine x_bi hC dX5_init_53 (by decide) ?_
        refine x_ic_ge hC 92 dX5_init_55 (by decide) (by omega) (by omega) (fun c_55 => ?_) (fun c_55 => ?_)
        · obtain rfl : i = 8 := by omega
          exact hend H locs 92 ls _ hpost hP hD hS dX5_init_92
        · refine x_al hC hl 1 dX5_init_58 rfl rfl ?_
          refine x_get5 (v := .ref (h 1)) hC hP 0 rfl 1 (by decide) tb_620 rfl rfl dX5_init_59 ?_
          refine x_ic hC dX5_init_62 ?_
          refine x_ic hC dX5_init_63 ?_
          refine x_il hC hl 0 dX5_init_64 rfl rfl ?_
          refine x_imul hC dX5_init_65 ?_
          refine x_iadd hC dX5_init_66 ?_
          refine x_ic hC dX5_init_67 ?_
          refine x_iadd hC dX5_init_68 ?_
          refine x_bi hC dX5_init_69 (by decide) ?_
          refine x_iast hC hP hD hS 1 rfl (by omega) (by decide) dX5_init_71 (fun H locs hP hD hS => ?_)
          have hP : va_P D vwCl (wM h cs (u1 mF 0 0) (u1 (fI (fun r s => u1 (u1 s (5 + 3 * r + 0) 9) (5 + 3 * r + 1) 10) mS i) ((5 + (3 * i)) + 0) 9) mA mV mT mB) H := hP
          have hD : va_D A (wM h cs (u1 mF 0 0) (u1 (fI (fun r s => u1 (u1 s (5 + 3 * r + 0) 9) (5 + 3 * r + 1) 10) mS i) ((5 + (3 * i)) + 0) 9) mA mV mT mB) := hD
          refine x_al hC hl 1 dX5_init_72 rfl rfl ?_
          refine x_get5 (v := .ref (h 1)) hC hP 0 rfl 1 (by decide) tb_620 rfl rfl dX5_init_73 ?_
          refine x_ic hC dX5_init_76 ?_
          refine x_ic hC dX5_init_77 ?_
          refine x_il hC hl 0 dX5_init_78 rfl rfl ?_
          refine x_imul hC dX5_init_79 ?_
          refine x_iadd hC dX5_init_80 ?_
          refine x_ic hC dX5_init_81 ?_
          refine x_iadd hC dX5_init_82 ?_
          refine x_bi hC dX5_init_83 (by decide) ?_
          refine x_iast hC hP hD hS 1 rfl (by omega) (by decide) dX5_init_85 (fun H locs hP hD hS => ?_)
          have hP : va_P D vwCl (wM h cs (u1 mF 0 0) (u1 (u1 (fI (fun r s => u1 (u1 s (5 + 3 * r + 0) 9) (5 + 3 * r + 1) 10) mS i) ((5 + (3 * i)) + 0) 9) ((5 + (3 * i)) + 1) 10) mA mV mT mB) H := hP
          have hD : va_D A (wM h cs (u1 mF 0 0) (u1 (u1 (fI (fun r s => u1 (u1 s (5 + 3 * r + 0) 9) (5 + 3 * r + 1) 10) mS i) ((5 + (3 * i)) + 0) 9) ((5 + (3 * i)) + 1) 10) mA mV mT mB) := hD
          refine x_iinc hC [(1, .int (iI (i + 1))), (0, .ref (h 0))] 0 hl dX5_init_86 rfl (by decide) rfl (fun ls hl => ?_)
          refine x_goto hC 52 dX5_init_89 (by decide) ?_
          have ew : (wM h cs (u1 mF 0 0) (u1 (u1 (fI (fun r s => u1 (u1 s (5 + 3 * r + 0) 9) (5 + 3 * r + 1) 10) mS i) ((5 + (3 * i)) + 0) 9) ((5 + (3 * i)) + 1) 10) mA mV mT mB) = (wM h cs (u1 mF 0 0) (fI (fun r s => u1 (u1 s (5 + 3 * r + 0) 9) (5 + 3 * r + 1) 10) mS (i + 1)) mA mV mT mB) := (wMc rfl (by rw [fI_s hi0] : u1 (u1 (fI (fun r s => u1 (u1 s (5 + 3 * r + 0) 9) (5 + 3 * r + 1) 10) mS i) ((5 + (3 * i)) + 0) 9) ((5 + (3 * i)) + 1) 10 = fI (fun r s => u1 (u1 s (5 + 3 * r + 0) 9) (5 + 3 * r + 1) 10) mS (i + 1)) rfl rfl rfl rfl)
          have hP := vPe hP ew
          have hD := vDe hD ew
          have hl := lv_sub (l' := [(1, .int (iI (i + 1))), (0, .ref (h 0))]) hl [0, 1] rfl
          exact ih_52 (i + 1) (by omega) (by omega) (by omega) H locs ls hP hD hS hl
    have hl := lv_sub (l' := [(1, .int (iI 0)), (0, .ref (h 0))]) hl [0, 1] rfl
    exact loop_52 (Int.toNat (8 - 0) + 1) 0 (by omega) (by omega) (by omega) H locs ls hP hD hS hl
  refine x_al hC hl 0 dX5_init_0 rfl rfl ?_
  refine x_obj hC tb_618 hl.1 (Nat.le_of_ble_eq_true rfl) (Nat.le_of_ble_eq_true rfl) dX5_init_1 ?_
  refine x_al hC hl 0 dX5_init_4 rfl rfl ?_
  refine x_bi hC dX5_init_5 (by decide) ?_
  refine x_new (a0 := (109, .inl (fun _ => iI 0))) hC hP hD hS hA (ty := .int) rfl tb_136 0 rfl 109 109 rfl (by decide) (fun _ => rfl) (by decide) (Nat.le_of_ble_eq_true rfl) (Nat.le_of_ble_eq_true rfl) dX5_init_7 (fun q1 H hP hD hS => ?_)
  refine W.widen (k := 1) (n := 109) (by omega) (by omega) ?_
  have hP : va_P D vwCl ([(a, .inr (5, [.int 0, .null, .null, .null, .int 0, .null, .int 0, .null, .int 0, .int 0, .int 0, .int 0, .int 0, .int 0, .int 0, .int 0, .int 0])), (q1, arI (cs 0) 109 (fun _ => 0))]) H := hP
  have hD : va_D A ([(a, .inr (5, [.int 0, .null, .null, .null, .int 0, .null, .int 0, .null, .int 0, .int 0, .int 0, .int 0, .int 0, .int 0, .int 0, .int 0, .int 0])), (q1, arI (cs 0) 109 (fun _ => 0))]) := hD
  refine x_pF5 (ty := tyX5 1) hC hP hD hS hname 0 rfl 1 (by decide) tb_620 rfl rfl (tyX5_ok 1 (by decide)) rfl rfl (Nat.le_of_ble_eq_true rfl) dX5_init_9 (fun H locs hP hD hS => ?_)
  have hP : va_P D vwCl ([(a, .inr (5, [.int 0, .ref q1, .null, .null, .int 0, .null, .int 0, .null, .int 0, .int 0, .int 0, .int 0, .int 0, .int 0, .int 0, .int 0, .int 0])), (q1, arI (cs 0) 109 (fun _ => 0))]) H := hP
  have hD : va_D A ([(a, .inr (5, [.int 0, .ref q1, .null, .null, .int 0, .null, .int 0, .null, .int 0, .int 0, .int 0, .int 0, .int 0, .int 0, .int 0, .int 0, .int 0])), (q1, arI (cs 0) 109 (fun _ => 0))]) := hD
  refine x_al hC hl 0 dX5_init_12 rfl rfl ?_
  refine x_bi hC dX5_init_13 (by decide) ?_
  refine x_new (a0 := (109, .inl (fun _ => iI 0))) hC hP hD hS hA (ty := .int) rfl tb_136 0 rfl 109 109 rfl (by decide) (fun _ => rfl) (by decide) (Nat.le_of_ble_eq_true rfl) (Nat.le_of_ble_eq_true rfl) dX5_init_15 (fun q2 H hP hD hS => ?_)
  refine W.widen (k := 2) (n := 218) (by omega) (by omega) ?_
  have hP : va_P D vwCl ([(a, .inr (5, [.int 0, .ref q1, .null, .null, .int 0, .null, .int 0, .null, .int 0, .int 0, .int 0, .int 0, .int 0, .int 0, .int 0, .int 0, .int 0])), (q1, arI (cs 0) 109 (fun _ => 0)), (q2, arI (cs 0) 109 (fun _ => 0))]) H := hP
  have hD : va_D A ([(a, .inr (5, [.int 0, .ref q1, .null, .null, .int 0, .null, .int 0, .null, .int 0, .int 0, .int 0, .int 0, .int 0, .int 0, .int 0, .int 0, .int 0])), (q1, arI (cs 0) 109 (fun _ => 0)), (q2, arI (cs 0) 109 (fun _ => 0))]) := hD
  refine x_pF5 (ty := tyX5 2) hC hP hD hS hname 0 rfl 2 (by decide) tb_621 rfl rfl (tyX5_ok 2 (by decide)) rfl rfl (Nat.le_of_ble_eq_true rfl) dX5_init_17 (fun H locs hP hD hS => ?_)
  have hP : va_P D vwCl ([(a, .inr (5, [.int 0, .ref q1, .ref q2, .null, .int 0, .null, .int 0, .null, .int 0, .int 0, .int 0, .int 0, .int 0, .int 0, .int 0, .int 0, .int 0])), (q1, arI (cs 0) 109 (fun _ => 0)), (q2, arI (cs 0) 109 (fun _ => 0))]) H := hP
  have hD : va_D A ([(a, .inr (5, [.int 0, .ref q1, .ref q2, .null, .int 0, .null, .int 0, .null, .int 0, .int 0, .int 0, .int 0, .int 0, .int 0, .int 0, .int 0, .int 0])), (q1, arI (cs 0) 109 (fun _ => 0)), (q2, arI (cs 0) 109 (fun _ => 0))]) := hD
  refine x_al hC hl 0 dX5_init_20 rfl rfl ?_
  refine x_si hC dX5_init_21 (by decide) ?_
  refine x_new (a0 := (436, .inl (fun _ => iI 0))) hC hP hD hS hA (ty := .int) rfl tb_136 0 rfl 436 436 rfl (by decide) (fun _ => rfl) (by decide) (Nat.le_of_ble_eq_true rfl) (Nat.le_of_ble_eq_true rfl) dX5_init_24 (fun q3 H hP hD hS => ?_)
  refine W.widen (k := 3) (n := 654) (by omega) (by omega) ?_
  have hP : va_P D vwCl ([(a, .inr (5, [.int 0, .ref q1, .ref q2, .null, .int 0, .null, .int 0, .null, .int 0, .int 0, .int 0, .int 0, .int 0, .int 0, .int 0, .int 0, .int 0])), (q1, arI (cs 0) 109 (fun _ => 0)), (q2, arI (cs 0) 109 (fun _ => 0)), (q3, arI (cs 0) 436 (fun _ => 0))]) H := hP
  have hD : va_D A ([(a, .inr (5, [.int 0, .ref q1, .ref q2, .null, .int 0, .null, .int 0, .null, .int 0, .int 0, .int 0, .int 0, .int 0, .int 0, .int 0, .int 0, .int 0])), (q1, arI (cs 0) 109 (fun _ => 0)), (q2, arI (cs 0) 109 (fun _ => 0)), (q3, arI (cs 0) 436 (fun _ => 0))]) := hD
  refine x_pF5 (ty := tyX5 3) hC hP hD hS hname 0 rfl 3 (by decide) tb_622 rfl rfl (tyX5_ok 3 (by decide)) rfl rfl (Nat.le_of_ble_eq_true rfl) dX5_init_26 (fun H locs hP hD hS => ?_)
  have hP : va_P D vwCl ([(a, .inr (5, [.int 0, .ref q1, .ref q2, .ref q3, .int 0, .null, .int 0, .null, .int 0, .int 0, .int 0, .int 0, .int 0, .int 0, .int 0, .int 0, .int 0])), (q1, arI (cs 0) 109 (fun _ => 0)), (q2, arI (cs 0) 109 (fun _ => 0)), (q3, arI (cs 0) 436 (fun _ => 0))]) H := hP
  have hD : va_D A ([(a, .inr (5, [.int 0, .ref q1, .ref q2, .ref q3, .int 0, .null, .int 0, .null, .int 0, .int 0, .int 0, .int 0, .int 0, .int 0, .int 0, .int 0, .int 0])), (q1, arI (cs 0) 109 (fun _ => 0)), (q2, arI (cs 0) 109 (fun _ => 0)), (q3, arI (cs 0) 436 (fun _ => 0))]) := hD
  refine x_al hC hl 0 dX5_init_29 rfl rfl ?_
  refine x_bi hC dX5_init_30 (by decide) ?_
  refine x_new (a0 := (60, .inl (fun _ => iI 0))) hC hP hD hS hA (ty := .int) rfl tb_136 0 rfl 60 60 rfl (by decide) (fun _ => rfl) (by decide) (Nat.le_of_ble_eq_true rfl) (Nat.le_of_ble_eq_true rfl) dX5_init_32 (fun q4 H hP hD hS => ?_)
  refine W.widen (k := 4) (n := 714) (by omega) (by omega) ?_
  have hP : va_P D vwCl ([(a, .inr (5, [.int 0, .ref q1, .ref q2, .ref q3, .int 0, .null, .int 0, .null, .int 0, .int 0, .int 0, .int 0, .int 0, .int 0, .int 0, .int 0, .int 0])), (q1, arI (cs 0) 109 (fun _ => 0)), (q2, arI (cs 0) 109 (fun _ => 0)), (q3, arI (cs 0) 436 (fun _ => 0)), (q4, arI (cs 0) 60 (fun _ => 0))]) H := hP
  have hD : va_D A ([(a, .inr (5, [.int 0, .ref q1, .ref q2, .ref q3, .int 0, .null, .int 0, .null, .int 0, .int 0, .int 0, .int 0, .int 0, .int 0, .int 0, .int 0, .int 0])), (q1, arI (cs 0) 109 (fun _ => 0)), (q2, arI (cs 0) 109 (fun _ => 0)), (q3, arI (cs 0) 436 (fun _ => 0)), (q4, arI (cs 0) 60 (fun _ => 0))]) := hD
  refine x_pF5 (ty := tyX5 5) hC hP hD hS hname 0 rfl 5 (by decide) tb_624 rfl rfl (tyX5_ok 5 (by decide)) rfl rfl (Nat.le_of_ble_eq_true rfl) dX5_init_34 (fun H locs hP hD hS => ?_)
  have hP : va_P D vwCl ([(a, .inr (5, [.int 0, .ref q1, .ref q2, .ref q3, .int 0, .ref q4, .int 0, .null, .int 0, .int 0, .int 0, .int 0, .int 0, .int 0, .int 0, .int 0, .int 0])), (q1, arI (cs 0) 109 (fun _ => 0)), (q2, arI (cs 0) 109 (fun _ => 0)), (q3, arI (cs 0) 436 (fun _ => 0)), (q4, arI (cs 0) 60 (fun _ => 0))]) H := hP
  have hD : va_D A ([(a, .inr (5, [.int 0, .ref q1, .ref q2, .ref q3, .int 0, .ref q4, .int 0, .null, .int 0, .int 0, .int 0, .int 0, .int 0, .int 0, .int 0, .int 0, .int 0])), (q1, arI (cs 0) 109 (fun _ => 0)), (q2, arI (cs 0) 109 (fun _ => 0)), (q3, arI (cs 0) 436 (fun _ => 0)), (q4, arI (cs 0) 60 (fun _ => 0))]) := hD
  refine x_al hC hl 0 dX5_init_37 rfl rfl ?_
  refine x_bi hC dX5_init_38 (by decide) ?_
  refine x_new (a0 := (20, .inl (fun _ => iI 0))) hC hP hD hS hA (ty := .boolean) rfl tb_671 3 rfl 20 20 rfl (by decide) (fun _ => rfl) (by decide) (Nat.le_of_ble_eq_true rfl) (Nat.le_of_ble_eq_true rfl) dX5_init_40 (fun q5 H hP hD hS => ?_)
  refine W.widen (k := 5) (n := 734) (by omega) (by omega) ?_
  have hP : va_P D vwCl ([(a, .inr (5, [.int 0, .ref q1, .ref q2, .ref q3, .int 0, .ref q4, .int 0, .null, .int 0, .int 0, .int 0, .int 0, .int 0, .int 0, .int 0, .int 0, .int 0])), (q1, arI (cs 0) 109 (fun _ => 0)), (q2, arI (cs 0) 109 (fun _ => 0)), (q3, arI (cs 0) 436 (fun _ => 0)), (q4, arI (cs 0) 60 (fun _ => 0)), (q5, arI (cs 3) 20 (fun _ => 0))]) H := hP
  have hD : va_D A ([(a, .inr (5, [.int 0, .ref q1, .ref q2, .ref q3, .int 0, .ref q4, .int 0, .null, .int 0, .int 0, .int 0, .int 0, .int 0, .int 0, .int 0, .int 0, .int 0])), (q1, arI (cs 0) 109 (fun _ => 0)), (q2, arI (cs 0) 109 (fun _ => 0)), (q3, arI (cs 0) 436 (fun _ => 0)), (q4, arI (cs 0) 60 (fun _ => 0)), (q5, arI (cs 3) 20 (fun _ => 0))]) := hD
  refine x_pF5 (ty := tyX5 7) hC hP hD hS hname 0 rfl 7 (by decide) tb_626 rfl rfl (tyX5_ok 7 (by decide)) rfl rfl (Nat.le_of_ble_eq_true rfl) dX5_init_42 (fun H locs hP hD hS => ?_)
  have hP : va_P D vwCl ([(a, .inr (5, [.int 0, .ref q1, .ref q2, .ref q3, .int 0, .ref q4, .int 0, .ref q5, .int 0, .int 0, .int 0, .int 0, .int 0, .int 0, .int 0, .int 0, .int 0])), (q1, arI (cs 0) 109 (fun _ => 0)), (q2, arI (cs 0) 109 (fun _ => 0)), (q3, arI (cs 0) 436 (fun _ => 0)), (q4, arI (cs 0) 60 (fun _ => 0)), (q5, arI (cs 3) 20 (fun _ => 0))]) H := hP
  have hD : va_D A ([(a, .inr (5, [.int 0, .ref q1, .ref q2, .ref q3, .int 0, .ref q4, .int 0, .ref q5, .int 0, .int 0, .int 0, .int 0, .int 0, .int 0, .int 0, .int 0, .int 0])), (q1, arI (cs 0) 109 (fun _ => 0)), (q2, arI (cs 0) 109 (fun _ => 0)), (q3, arI (cs 0) 436 (fun _ => 0)), (q4, arI (cs 0) 60 (fun _ => 0)), (q5, arI (cs 3) 20 (fun _ => 0))]) := hD
  exact tail (fun k : Nat => [a, q1, q2, q3, q4, q5].getD k 0) (fun _ => 0) (fun _ => 0) (fun _ => 0) (fun _ => 0) (fun _ => 0) (fun _ => 0) H locs ls ⟨_, rfl, rfl⟩ hP hD hS hl
