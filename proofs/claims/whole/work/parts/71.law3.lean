theorem lkL_86 : LkV RL 86 yX4_count cX4_count 2 (some .int) 1 := ⟨tb_503, tb_500, tb_501, tb_502, tb_71, by decide +kernel⟩
theorem lkL_89 : LkV RL 89 yX5_count cX5_count 2 (some .int) 1 := ⟨tb_902, tb_899, tb_900, tb_901, tb_76, by decide +kernel⟩
set_option maxHeartbeats 4000000 in
set_option maxRecDepth 100000 in
theorem law_count {p : Program} {l : Launch} {e : Env} {s : State} {m : MethodId} {args : Array Value} {below : List Frame} {meth : Method} {c : Code} {Q : State → Prop} {D : va_G} {cs : Nat → ClassId} {A : Nat → Prop} (hC : Cx p s m args c cL_law 4 RL D cs) {b L : Nat} {xs : Nat → Int32} (hX : va_X b L xs s s.heap) (hbl : b < s.heap.size) (hbA : ¬ A b) (hA : ∀ q, s.heap.size ≤ q → A q) (hL : L ≤ 2560) {K : Nat} (hK : 5 * K + 4 < L) (next : ∀ (H : Heap) (locs : List Loc) (ls : Array Slot), Inv D cs A s.heap b (K + 1) H locs ls → W p l e room_1 s m args below meth c H locs (29 + 8 * (K + 1)) (1069 + 117 * (K + 1)) Q (F0 m 18 ls [])) {H : Heap} {locs : List Loc} {ls : Array Slot} (hI : Inv D cs A s.heap b K H locs ls) : W p l e room_1 s m args below meth c H locs (29 + 8 * K) (1069 + 117 * K) Q (F0 m 641 ls []) := by
  obtain ⟨ha, hn, ht, hh, hs, ho, hg, h, bn, bt, Q1, sG, oG, oN, g, F, S, Aa, V, X, B, w, ⟨hP, hD⟩, hS, hl, hw, hR⟩ := hI
  obtain ⟨nO, nG, nQ, nE, nZ, nP, nR, nC, nT⟩ := bn
  obtain ⟨tO, tG, tF, tE, tZ, tP, tR, tC, tT⟩ := bt
  have hb : rB S nO nG nQ nE nZ nP nR nC nT := hR.1.1.1
  have hIM := hb.2.2.1.1
  have hIB := hb.2.2.1.2
  have h4 := RR_4 hR
  have h6 := hR.2.1
  have h6x : 0 ≤ F 6 ∧ F 6 ≤ 60 := by omega
  have hIX := hR.2.2.2
  have hIT : IT g := hR.2.2.1 ▸ hIX
  have hKK : K ≤ 511 := by omega
  obtain ⟨a1, e1⟩ : ∃ y : Int, xv xs (5 * (K : Int) + 1) = y := ⟨_, rfl⟩
  have g1 : -2147483648 ≤ a1 ∧ a1 ≤ 2147483647 := e1 ▸ xv_rg xs (5 * (K : Int) + 1)
  obtain ⟨G1, K1, ew, hq1, hq2, hq3⟩ := id hw
  subst ew
  have hP : va_P D vwCl (((wX ha hn ht hh hs ++ (wb hn cs (nO, nG, nQ, nE, nZ, nP, nR, nC, nT) ++ (wb ht cs (tO, tG, tF, tE, tZ, tP, tR, tC, tT) ++ (wS hs hg ho sG ++ (wO ho cs oG oN ++ wG hg cs g))))) ++ (wH hh cs G1 (hN K1) ++ (wK cs (K1 0) ++ (wK cs (K1 1) ++ (wK cs (K1 2) ++ wK cs (K1 3)))))) ++ wM h cs F S Aa V X B) H := hP
  have hD : va_D A (((wX ha hn ht hh hs ++ (wb hn cs (nO, nG, nQ, nE, nZ, nP, nR, nC, nT) ++ (wb ht cs (tO, tG, tF, tE, tZ, tP, tR, tC, tT) ++ (wS hs hg ho sG ++ (wO ho cs oG oN ++ wG hg cs g))))) ++ (wH hh cs G1 (hN K1) ++ (wK cs (K1 0) ++ (wK cs (K1 1) ++ (wK cs (K1 2) ++ wK cs (K1 3)))))) ++ wM h cs F S Aa V X B) := hD
  refine x_al hC hl 2 dL_law_641 rfl rfl ?_
  refine x_arg hC hX hbl hbA hS hl ⟨by omega, by omega⟩ hL 1 (by decide) dL_law_642 dL_law_643 dL_law_644 dL_law_645 dL_law_646 ?_
  rw [e1]
  refine x_vI (As := [.int (iI a1)]) hC (k4_count l D cs ha hn hh hs ht hg ho nO nG nQ nE nZ nP nR nC nT G1 (hN K1) sG a1 hIB g1) lkL_86 (q0 := 0) (ci := 4) rfl rfl rfl (sub_of (subX (pm_NHS _ _ _ _ _ _ _ _ _) hP hD hS hA) _) hP hS rfl hl.1 rfl (Nat.le_of_ble_eq_true rfl) ⟨rfl, rfl⟩ ⟨Nat.le_of_ble_eq_true rfl, Nat.le_of_ble_eq_true rfl⟩ ⟨by show 29 + 8 * K + 0 ≤ 600000; omega, by show 1069 + 117 * K + 0 ≤ 7302250; omega⟩ dL_law_647 (fun H locs hP hD hS hHs => ?_)
  have hP := vP_perm hP (pm_NHS _ _ _ _ _ _ _ _ _).symm
  have hD := vD_perm hD (pm_NHS _ _ _ _ _ _ _ _ _).symm
  refine x_al hC hl 1 dL_law_650 rfl rfl ?_
  refine x_arg hC hX hbl hbA hS hl ⟨by omega, by omega⟩ hL 1 (by decide) dL_law_651 dL_law_652 dL_law_653 dL_law_654 dL_law_655 ?_
  rw [e1]
  have hPm := vP_perm hP (pm_M _ _ _ _ _ _ _ _)
  have hDm := vD_perm hD (pm_M _ _ _ _ _ _ _ _)
  refine x_vI (As := [.int (iI a1)]) hC (k5_count l D cs h F S Aa V X B a1 hIM g1) lkL_89 (q0 := 0) (ci := 5) rfl rfl rfl (sub_of (subX List.perm_append_comm hPm hDm hS hA) _) hPm hS rfl hl.1 rfl (Nat.le_of_ble_eq_true rfl) ⟨rfl, rfl⟩ ⟨Nat.le_of_ble_eq_true rfl, Nat.le_of_ble_eq_true rfl⟩ ⟨by show 29 + 8 * K + 0 + 0 ≤ 600000; omega, by show 1069 + 117 * K + 0 + 0 ≤ 7302250; omega⟩ dL_law_656 (fun H locs hP hD hS hHs => ?_)
  refine lv_icmp_eq (tgt := 749) hC.1 hC.2.1 dL_law_659 (by decide) (fun _ => ?_) (fun hne => absurd (congrArg iI (v_count hb hR.1.1.2.1 (hq1.1.trans hR.1.2.1.symm) h6.1.symm a1)) hne)
  rw [wb_mk hn] at hP hD
  exact law_tail hC next (by omega) (by omega) hl hP hD hS hw (by omega) (RR_F hR (f0_4 F) (f0_6 F)) (by omega)
theorem lkL_90 : LkV RL 90 yX4_undo cX4_undo 1 (some .int) 0 := ⟨tb_528, tb_525, tb_526, tb_527, tb_71, by decide +kernel⟩
theorem lkL_93 : LkV RL 93 yX5_undo cX5_undo 2 (some .int) 0 := ⟨tb_914, tb_911, tb_912, tb_913, tb_76, by decide +kernel⟩
set_option maxHeartbeats 4000000 in
set_option maxRecDepth 100000 in
theorem law_undo {p : Program} {l : Launch} {e : Env} {s : State} {m : MethodId} {args : Array Value} {below : List Frame} {meth : Method} {c : Code} {Q : State → Prop} {D : va_G} {cs : Nat → ClassId} {A : Nat → Prop} (hC : Cx p s m args c cL_law 4 RL D cs) {b L : Nat} {xs : Nat → Int32} (hX : va_X b L xs s s.heap) (hbl : b < s.heap.size) (hbA : ¬ A b) (hA : ∀ q, s.heap.size ≤ q → A q) (hL : L ≤ 2560) {K : Nat} (hK : 5 * K + 4 < L) (next : ∀ (H : Heap) (locs : List Loc) (ls : Array Slot), Inv D cs A s.heap b (K + 1) H locs ls → W p l e room_1 s m args below meth c H locs (29 + 8 * (K + 1)) (1069 + 117 * (K + 1)) Q (F0 m 18 ls [])) {H : Heap} {locs : List Loc} {ls : Array Slot} (hI : Inv D cs A s.heap b K H locs ls) : W p l e room_1 s m args below meth c H locs (29 + 8 * K) (1069 + 117 * K) Q (F0 m 664 ls []) := by
  obtain ⟨ha, hn, ht, hh, hs, ho, hg, h, bn, bt, Q1, sG, oG, oN, g, F, S, Aa, V, X, B, w, ⟨hP, hD⟩, hS, hl, hw, hR⟩ := hI
  obtain ⟨nO, nG, nQ, nE, nZ, nP, nR, nC, nT⟩ := bn
  obtain ⟨tO, tG, tF, tE, tZ, tP, tR, tC, tT⟩ := bt
  have hb : rB S nO nG nQ nE nZ nP nR nC nT := hR.1.1.1
  have hIM := hb.2.2.1.1
  have hIB := hb.2.2.1.2
  have h4 := RR_4 hR
  have h6 := hR.2.1
  have h6x : 0 ≤ F 6 ∧ F 6 ≤ 60 := by omega
  have hIX := hR.2.2.2
  have hIT : IT g := hR.2.2.1 ▸ hIX
  have hKK : K ≤ 511 := by omega
  refine x_al hC hl 2 dL_law_664 rfl rfl ?_
  refine x_vX (As := []) hC (k4_undo l D cs ha hn ht hh hs (nO, nG, nQ, nE, nZ, nP, nR, nC, nT) Q1 (K : Int) w hw (by omega)) lkL_90 (q0 := 0) (ci := 4) rfl rfl rfl (subX (pm_Nw _ _ _ _ _ _ _ _) hP hD hS hA) hP hS rfl hl.1 rfl (Nat.le_of_ble_eq_true rfl) ⟨rfl, rfl⟩ ⟨Nat.le_of_ble_eq_true rfl, Nat.le_of_ble_eq_true rfl⟩ ⟨by show 29 + 8 * K + 0 ≤ 600000; omega, by show 1069 + 117 * K + 0 ≤ 7302250; omega⟩ dL_law_665 (fun v w1 H locs hpost hP hD hS hHs => ?_)
  rcases hpost with ⟨rfl, rfl, rfl⟩ | ⟨Q2, c2, w2, rfl, rfl, hw2, rfl⟩
  · have hP := vP_perm hP (pm_wN _ _ _ _ _ _ _ _).symm
    have hD := vD_perm hD (pm_wN _ _ _ _ _ _ _ _).symm
    refine x_al hC hl 1 dL_law_668 rfl rfl ?_
    have hPm := vP_perm hP (pm_M _ _ _ _ _ _ _ _)
    have hDm := vD_perm hD (pm_M _ _ _ _ _ _ _ _)
    refine x_vI (As := []) hC (k5_undo l D cs h F S Aa V X B h4) lkL_93 (q0 := 0) (ci := 5) rfl rfl rfl (sub_of (subX List.perm_append_comm hPm hDm hS hA) _) hPm hS rfl hl.1 rfl (Nat.le_of_ble_eq_true rfl) ⟨rfl, rfl⟩ ⟨Nat.le_of_ble_eq_true rfl, Nat.le_of_ble_eq_true rfl⟩ ⟨by show 29 + 8 * K + 0 + 0 ≤ 600000; omega, by show 1069 + 117 * K + 0 + 0 ≤ 7302250; omega⟩ dL_law_669 (fun H locs hP hD hS hHs => ?_)
    refine lv_icmp_eq (tgt := 749) hC.1 hC.2.1 dL_law_672 (by decide) (fun _ => ?_) (fun hne => absurd (congrArg iI (s_undo0 hR).1.symm) hne)
    exact law_tail hC next (by omega) (by omega) hl hP hD hS hw (by omega) (s_undo0 hR).2 (by omega)
  · have hP := vP_perm hP (pm_wN _ _ _ _ _ _ _ _).symm
    have hD := vD_perm hD (pm_wN _ _ _ _ _ _ _ _).symm
    refine x_al hC hl 1 dL_law_668 rfl rfl ?_
    have hPm := vP_perm hP (pm_M _ _ _ _ _ _ _ _)
    have hDm := vD_perm hD (pm_M _ _ _ _ _ _ _ _)
    refine x_vI (As := []) hC (k5_undo l D cs h F S Aa V X B h4) lkL_93 (q0 := 0) (ci := 5) rfl rfl rfl (sub_of (subX List.perm_append_comm hPm hDm hS hA) _) hPm hS rfl hl.1 rfl (Nat.le_of_ble_eq_true rfl) ⟨rfl, rfl⟩ ⟨Nat.le_of_ble_eq_true rfl, Nat.le_of_ble_eq_true rfl⟩ ⟨by show 29 + 8 * K + 0 + 0 ≤ 600000; omega, by show 1069 + 117 * K + 0 + 0 ≤ 7302250; omega⟩ dL_law_669 (fun H locs hP hD hS hHs => ?_)
    refine lv_icmp_eq (tgt := 749) hC.1 hC.2.1 dL_law_672 (by decide) (fun _ => ?_) (fun hne => absurd (congrArg iI (s_undo1 hR).1.symm) hne)
    exact law_tail hC next (by omega) (by omega) hl hP hD hS hw2 (by omega) (s_undo1 hR).2 (by omega)
theorem lkL_94 : LkV RL 94 yX4_type cX4_type 2 (some .int) 1 := ⟨tb_537, tb_534, tb_535, tb_536, tb_71, by decide +kernel⟩
theorem lkL_97 : LkV RL 97 yX5_type cX5_type 2 (some .int) 1 := ⟨tb_918, tb_915, tb_916, tb_917, tb_76, by decide +kernel⟩
set_option maxHeartbeats 4000000 in
set_option maxRecDepth 100000 in
theorem law_type {p : Program} {l : Launch} {e : Env} {s : State} {m : MethodId} {args : Array Value} {below : List Frame} {meth : Method} {c : Code} {Q : State → Prop} {D : va_G} {cs : Nat → ClassId} {A : Nat → Prop} (hC : Cx p s m args c cL_law 4 RL D cs) {b L : Nat} {xs : Nat → Int32} (hX : va_X b L xs s s.heap) (hbl : b < s.heap.size) (hbA : ¬ A b) (hA : ∀ q, s.heap.size ≤ q → A q) (hL : L ≤ 2560) {K : Nat} (hK : 5 * K + 4 < L) (next : ∀ (H : Heap) (locs : List Loc) (ls : Array Slot), Inv D cs A s.heap b (K + 1) H locs ls → W p l e room_1 s m args below meth c H locs (29 + 8 * (K + 1)) (1069 + 117 * (K + 1)) Q (F0 m 18 ls [])) {H : Heap} {locs : List Loc} {ls : Array Slot} (hI : Inv D cs A s.heap b K H locs ls) : W p l e room_1 s m args below meth c H locs (29 + 8 * K) (1069 + 117 * K) Q (F0 m 677 ls []) := by
  obtain ⟨ha, hn, ht, hh, hs, ho, hg, h, bn, bt, Q1, sG, oG, oN, g, F, S, Aa, V, X, B, w, ⟨hP, hD⟩, hS, hl, hw, hR⟩ := hI
  obtain ⟨nO, nG, nQ, nE, nZ, nP, nR, nC, nT⟩ := bn
  obtain ⟨tO, tG, tF, tE, tZ, tP, tR, tC, tT⟩ := bt
  have hb : rB S nO nG nQ nE nZ nP nR nC nT := hR.1.1.1
  have hIM := hb.2.2.1.1
  have hIB := hb.2.2.1.2
  have h4 := RR_4 hR
  have h6 := hR.2.1
  have h6x : 0 ≤ F 6 ∧ F 6 ≤ 60 := by omega
  have hIX := hR.2.2.2
  have hIT : IT g := hR.2.2.1 ▸ hIX
  have hKK : K ≤ 511 := by omega
  obtain ⟨a1, e1⟩ : ∃ y : Int, xv xs (5 * (K : Int) + 1) = y := ⟨_, rfl⟩
  have g1 : -2147483648 ≤ a1 ∧ a1 ≤ 2147483647 := e1 ▸ xv_rg xs (5 * (K : Int) + 1)
  refine x_al hC hl 2 dL_law_677 rfl rfl ?_
  refine x_arg hC hX hbl hbA hS hl ⟨by omega, by omega⟩ hL 1 (by decide) dL_law_678 dL_law_679 dL_law_680 dL_law_681 dL_law_682 ?_
  rw [e1]
  refine x_vI (As := [.int (iI a1)]) hC (k4_type l D cs ha hs hg hn ht hh ho sG g a1 h6.2 g1) lkL_94 (q0 := 0) (ci := 4) rfl rfl rfl (sub_of (subX (pm_SG _ _ _ _ _ _ _ _) hP hD hS hA) _) hP hS rfl hl.1 rfl (Nat.le_of_ble_eq_true rfl) ⟨rfl, rfl⟩ ⟨Nat.le_of_ble_eq_true rfl, Nat.le_of_ble_eq_true rfl⟩ ⟨by show 29 + 8 * K + 0 ≤ 600000; omega, by show 1069 + 117 * K + 0 ≤ 7302250; omega⟩ dL_law_683 (fun H locs hP hD hS hHs => ?_)
  have hP := vP_perm hP (pm_SG _ _ _ _ _ _ _ _).symm
  have hD := vD_perm hD (pm_SG _ _ _ _ _ _ _ _).symm
  refine x_al hC hl 1 dL_law_686 rfl rfl ?_
  refine x_arg hC hX hbl hbA hS hl ⟨by omega, by omega⟩ hL 1 (by decide) dL_law_687 dL_law_688 dL_law_689 dL_law_690 dL_law_691 ?_
  rw [e1]
  have hPm := vP_perm hP (pm_M _ _ _ _ _ _ _ _)
  have hDm := vD_perm hD (pm_M _ _ _ _ _ _ _ _)
  refine x_vI (As := [.int (iI a1)]) hC (k5_type l D cs h F S Aa V X B a1 h6x g1) lkL_97 (q0 := 0) (ci := 5) rfl rfl rfl (sub_of (subX List.perm_append_comm hPm hDm hS hA) _) hPm hS rfl hl.1 rfl (Nat.le_of_ble_eq_true rfl) ⟨rfl, rfl⟩ ⟨Nat.le_of_ble_eq_true rfl, Nat.le_of_ble_eq_true rfl⟩ ⟨by show 29 + 8 * K + 0 + 0 ≤ 600000; omega, by show 1069 + 117 * K + 0 + 0 ≤ 7302250; omega⟩ dL_law_692 (fun H locs hP hD hS hHs => ?_)
  refine lv_icmp_eq (tgt := 749) hC.1 hC.2.1 dL_law_695 (by decide) (fun _ => ?_) (fun hne => absurd (congrArg iI (s_type hR a1).1) hne)
  exact law_tail hC next (by omega) (by omega) hl hP hD hS hw (by omega) (s_type hR a1).2 (by omega)
theorem lkL_98 : LkV RL 98 yX4_clearText cX4_clearText 1 (some .int) 0 := ⟨tb_546, tb_543, tb_544, tb_545, tb_71, by decide +kernel⟩
theorem lkL_101 : LkV RL 101 yX5_clearText cX5_clearText 2 (some .int) 0 := ⟨tb_922, tb_919, tb_920, tb_921, tb_76, by decide +kernel⟩
set_option maxHeartbeats 4000000 in
set_option maxRecDepth 100000 in
theorem law_clearText {p : Program} {l : Launch} {e : Env} {s : State} {m : MethodId} {args : Array Value} {below : List Frame} {meth : Method} {c : Code} {Q : State → Prop} {D : va_G} {cs : Nat → ClassId} {A : Nat → Prop} (hC : Cx p s m args c cL_law 4 RL D cs) {b L : Nat} {xs : Nat → Int32} (hX : va_X b L xs s s.heap) (hbl : b < s.heap.size) (hbA : ¬ A b) (hA : ∀ q, s.heap.size ≤ q → A q) (hL : L ≤ 2560) {K : Nat} (hK : 5 * K + 4 < L) (next : ∀ (H : Heap) (locs : List Loc) (ls : Array Slot), Inv D cs A s.heap b (K + 1) H locs ls → W p l e room_1 s m args below meth c H locs (29 + 8 * (K + 1)) (1069 + 117 * (K + 1)) Q (F0 m 18 ls [])) {H : Heap} {locs : List Loc} {ls : Array Slot} (hI : Inv D cs A s.heap b K H locs ls) : W p l e room_1 s m args below meth c H locs (29 + 8 * K) (1069 + 117 * K) Q (F0 m 700 ls []) := by
  obtain ⟨ha, hn, ht, hh, hs, ho, hg, h, bn, bt, Q1, sG, oG, oN, g, F, S, Aa, V, X, B, w, ⟨hP, hD⟩, hS, hl, hw, hR⟩ := hI
  obtain ⟨nO, nG, nQ, nE, nZ, nP, nR, nC, nT⟩ := bn
  obtain ⟨tO, tG, tF, tE, tZ, tP, tR, tC, tT⟩ := bt
  have hb : rB S nO nG nQ nE nZ nP nR nC nT := hR.1.1.1
  have hIM := hb.2.2.1.1
  have hIB := hb.2.2.1.2
  have h4 := RR_4 hR
  have h6 := hR.2.1
  have h6x : 0 ≤ F 6 ∧ F 6 ≤ 60 := by omega
  have hIX := hR.2.2.2
  have hIT : IT g := hR.2.2.1 ▸ hIX
  have hKK : K ≤ 511 := by omega
  refine x_al hC hl 2 dL_law_700 rfl rfl ?_
  refine x_vI (As := []) hC (k4_clearText l D cs ha hs hn ht hh hg ho sG) lkL_98 (q0 := 0) (ci := 4) rfl rfl rfl (sub_of (subX (pm_S _ _ _ _ _ _ _ _) hP hD hS hA) _) hP hS rfl hl.1 rfl (Nat.le_of_ble_eq_true rfl) ⟨rfl, rfl⟩ ⟨Nat.le_of_ble_eq_true rfl, Nat.le_of_ble_eq_true rfl⟩ ⟨by show 29 + 8 * K + 0 ≤ 600000; omega, by show 1069 + 117 * K + 0 ≤ 7302250; omega⟩ dL_law_701 (fun H locs hP hD hS hHs => ?_)
  have hP := vP_perm hP (pm_S _ _ _ _ _ _ _ _).symm
  have hD := vD_perm hD (pm_S _ _ _ _ _ _ _ _).symm
  refine x_al hC hl 1 dL_law_704 rfl rfl ?_
  have hPm := vP_perm hP (pm_M _ _ _ _ _ _ _ _)
  have hDm := vD_perm hD (pm_M _ _ _ _ _ _ _ _)
  refine x_vI (As := []) hC (k5_clearText l D cs h F S Aa V X B) lkL_101 (q0 := 0) (ci := 5) rfl rfl rfl (sub_of (subX List.perm_append_comm hPm hDm hS hA) _) hPm hS rfl hl.1 rfl (Nat.le_of_ble_eq_true rfl) ⟨rfl, rfl⟩ ⟨Nat.le_of_ble_eq_true rfl, Nat.le_of_ble_eq_true rfl⟩ ⟨by show 29 + 8 * K + 0 + 0 ≤ 600000; omega, by show 1069 + 117 * K + 0 + 0 ≤ 7302250; omega⟩ dL_law_705 (fun H locs hP hD hS hHs => ?_)
  refine lv_icmp_eq (tgt := 749) hC.1 hC.2.1 dL_law_708 (by decide) (fun _ => ?_) (fun hne => absurd (congrArg iI (s_clear hR).1) hne)
  exact law_tail hC next (by omega) (by omega) hl hP hD hS hw (by omega) (s_clear hR).2 (by omega)
theorem lkL_102 : LkV RL 102 yX4_fault cX4_fault 2 (some .int) 1 := ⟨tb_554, tb_551, tb_552, tb_553, tb_71, by decide +kernel⟩
theorem lkL_105 : LkV RL 105 yX5_fault cX5_fault 3 (some .int) 1 := ⟨tb_926, tb_923, tb_924, tb_925, tb_76, by decide +kernel⟩
set_option maxHeartbeats 4000000 in
set_option maxRecDepth 100000 in
theorem law_fault {p : Program} {l : Launch} {e : Env} {s : State} {m : MethodId} {args : Array Value} {below : List Frame} {meth : Method} {c : Code} {Q : State → Prop} {D : va_G} {cs : Nat → ClassId} {A : Nat → Prop} (hC : Cx p s m args c cL_law 4 RL D cs) {b L : Nat} {xs : Nat → Int32} (hX : va_X b L xs s s.heap) (hbl : b < s.heap.size) (hbA : ¬ A b) (hA : ∀ q, s.heap.size ≤ q → A q) (hL : L ≤ 2560) {K : Nat} (hK : 5 * K + 4 < L) (next : ∀ (H : Heap) (locs : List Loc) (ls : Array Slot), Inv D cs A s.heap b (K + 1) H locs ls → W p l e room_1 s m args below meth c H locs (29 + 8 * (K + 1)) (1069 + 117 * (K + 1)) Q (F0 m 18 ls [])) {H : Heap} {locs : List Loc} {ls : Array Slot} (hI : Inv D cs A s.heap b K H locs ls) : W p l e room_1 s m args below meth c H locs (29 + 8 * K) (1069 + 117 * K) Q (F0 m 713 ls []) := by
  obtain ⟨ha, hn, ht, hh, hs, ho, hg, h, bn, bt, Q1, sG, oG, oN, g, F, S, Aa, V, X, B, w, ⟨hP, hD⟩, hS, hl, hw, hR⟩ := hI
  obtain ⟨nO, nG, nQ, nE, nZ, nP, nR, nC, nT⟩ := bn
  obtain ⟨tO, tG, tF, tE, tZ, tP, tR, tC, tT⟩ := bt
  have hb : rB S nO nG nQ nE nZ nP nR nC nT := hR.1.1.1
  have hIM := hb.2.2.1.1
  have hIB := hb.2.2.1.2
  have h4 := RR_4 hR
  have h6 := hR.2.1
  have h6x : 0 ≤ F 6 ∧ F 6 ≤ 60 := by omega
  have hIX := hR.2.2.2
  have hIT : IT g := hR.2.2.1 ▸ hIX
  have hKK : K ≤ 511 := by omega
  obtain ⟨a1, e1⟩ : ∃ y : Int, xv xs (5 * (K : Int) + 1) = y := ⟨_, rfl⟩
  have g1 : -2147483648 ≤ a1 ∧ a1 ≤ 2147483647 := e1 ▸ xv_rg xs (5 * (K : Int) + 1)
  refine x_al hC hl 2 dL_law_713 rfl rfl ?_
  refine x_arg hC hX hbl hbA hS hl ⟨by omega, by omega⟩ hL 1 (by decide) dL_law_714 dL_law_715 dL_law_716 dL_law_717 dL_law_718 ?_
  rw [e1]
  refine x_vI (As := [.int (iI a1)]) hC (k4_fault l D cs ha hn ht hs ho hg hh nO nG nQ nE nZ nP nR nC nT tO tG tF tE tZ tP tR tC tT sG oG oN g a1 hIB hIT h6.2 g1) lkL_102 (q0 := 0) (ci := 4) rfl rfl rfl (sub_of (subX (pm_C _ _ _ _ _ _ _ _) hP hD hS hA) _) hP hS rfl hl.1 rfl (Nat.le_of_ble_eq_true rfl) ⟨rfl, rfl⟩ ⟨Nat.le_of_ble_eq_true rfl, Nat.le_of_ble_eq_true rfl⟩ ⟨by show 29 + 8 * K + 0 ≤ 600000; omega, by show 1069 + 117 * K + 0 ≤ 7302250; omega⟩ dL_law_719 (fun H locs hP hD hS hHs => ?_)
  have hP := vP_perm hP (pm_C _ _ _ _ _ _ _ _).symm
  have hD := vD_perm hD (pm_C _ _ _ _ _ _ _ _).symm
  refine x_al hC hl 1 dL_law_722 rfl rfl ?_
  refine x_arg hC hX hbl hbA hS hl ⟨by omega, by omega⟩ hL 1 (by decide) dL_law_723 dL_law_724 dL_law_725 dL_law_726 dL_law_727 ?_
  rw [e1]
  have hPm := vP_perm hP (pm_M _ _ _ _ _ _ _ _)
  have hDm := vD_perm hD (pm_M _ _ _ _ _ _ _ _)
  refine x_vI (As := [.int (iI a1)]) hC (k5_fault l D cs h F S Aa V X B a1 hIM hIX h6x g1) lkL_105 (q0 := 0) (ci := 5) rfl rfl rfl (sub_of (subX List.perm_append_comm hPm hDm hS hA) _) hPm hS rfl hl.1 rfl (Nat.le_of_ble_eq_true rfl) ⟨rfl, rfl⟩ ⟨Nat.le_of_ble_eq_true rfl, Nat.le_of_ble_eq_true rfl⟩ ⟨by show 29 + 8 * K + 0 + 0 ≤ 600000; omega, by show 1069 + 117 * K + 0 + 0 ≤ 7302250; omega⟩ dL_law_728 (fun H locs hP hD hS hHs => ?_)
  refine lv_icmp_eq (tgt := 749) hC.1 hC.2.1 dL_law_731 (by decide) (fun _ => ?_) (fun hne => absurd (congrArg iI (s_fault hR a1).1) hne)
  rw [wb_mk hn] at hP hD
  rw [wb_mk ht] at hP hD
  exact law_tail hC next (by omega) (by omega) hl hP hD hS hw (by omega) (s_fault hR a1).2 (by omega)
