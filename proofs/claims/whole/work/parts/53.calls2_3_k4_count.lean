abbrev r4_count : Room := { frames := 4, cells := 0, slots := 0, locals := 88 }
set_option maxHeartbeats 4000000 in
set_option maxRecDepth 100000 in
theorem k4_count (l : Launch) (D : va_G) (cs : Nat → ClassId) (ha : Nat → Nat) (hn : Nat → Nat) (hh : Nat → Nat) (hs : Nat → Nat) (ht : Nat → Nat) (hg : Nat → Nat) (ho : Nat → Nat) (nO : Nat → Bool) (nG : Int → Int) (nF : Int → Int) (nE : Int → Int) (nZ : Int → Int) (nP : Int → Int) (nR : Int → Int) (nC : Int → Int) (nT : Int → Nat → Bool) (kG : Int → Int) (kN : Nat → Option Nat) (sG : Int → Int) (what : Int) (hB : IBG nG nF nE nZ nP nR nC) (g_what : -2147483648 ≤ what ∧ what ≤ 2147483647) : CI l D cs yX4_count cX4_count 2 .int r4_count 0 0 [.ref (ha 0), .int (iI what)] (wX ha hn ht hh hs ++ (wB hn cs nO nG nF nE nZ nP nR nC nT ++ (wH hh cs kG kN ++ (wS hs hg ho sG)))) (wX ha hn ht hh hs ++ (wB hn cs nO nG nF nE nZ nP nR nC nT ++ (wH hh cs kG kN ++ (wS hs hg ho sG)))) (iI (iif (what = 8) ((kG 2)) (iif (what = 9) ((sG 2)) (iif (what = 20) ((nG 12)) (bNum nO nG nF nE nP nT what))))) := by
  refine CI_start (own := RX4) (by decide) rfl rfl (Nat.le_of_ble_eq_true rfl) ?_
  intro p e s m args below meth c Q A ls hC hl hP hD hA hS hend
  have hl : lv_has ls 2 [(0, .ref (ha 0)), (1, .int (iI what))] := hl
  obtain ⟨H, hH⟩ : ∃ H : Heap, H = s.heap := ⟨_, rfl⟩
  have hS : va_S A s.heap H [] := by rw [hH]; exact hS
  rw [← hH] at hP
  obtain ⟨locs, hlocs⟩ : ∃ locs : List Loc, locs = [] := ⟨_, rfl⟩
  rw [← hlocs] at hS
  suffices hgo : W p l e r4_count s m args below meth c H locs 0 0 Q (F0 m 0 ls []) by rw [← hH, ← hlocs]; exact hgo
  clear hH hlocs
  have qB := hB.1
  have q12 := hB.2.1
  have q8 := hB.2.2
  refine x_il hC hl 1 dX4_count_0 rfl rfl ?_
  by_cases c_1_8 : what = 8
  · refine x_look (off := 35) hC 36 dX4_count_1 rfl (by rw [c_1_8]; omega) (by rw [c_1_8]; first | done | rfl) (by decide) ?_
    refine x_al hC hl 0 dX4_count_36 rfl rfl ?_
    refine x_get4 (v := .ref (hh 0)) hC hP 0 rfl 2 (by decide) tb_203 rfl rfl dX4_count_37 ?_
    refine x_vI (As := []) (val := iI (kG 2)) hC (k1_size l D cs hh kG kN ) lk4_120 (q0 := 9) (ci := 1) rfl rfl rfl (sub_par0 (ws' := wX ha hn ht hh hs ++ (wB hn cs nO nG nF nE nZ nP nR nC nT ++ (wH hh cs kG kN ++ (wS hs hg ho sG)))) [9, 10] [0, 1, 2, 3, 4, 5, 6, 7, 8, 11] hP hD hS hA rfl rfl (by decide) rfl rfl rfl) hP hS rfl hl.1 rfl (Nat.le_of_ble_eq_true rfl) ⟨rfl, rfl⟩ ⟨Nat.le_of_ble_eq_true rfl, Nat.le_of_ble_eq_true rfl⟩ ⟨Nat.le_of_ble_eq_true rfl, Nat.le_of_ble_eq_true rfl⟩ dX4_count_40 (fun H locs hP hD hS hHs => ?_)
    exact x_retI (congrArg iI (by first | (rw [iif_t (by omega)]; done) | (rw [iif_f (by omega), iif_t (by omega)]; done) | (rw [iif_f (by omega), iif_f (by omega), iif_t (by omega)]; done) | (rw [iif_f (by omega), iif_f (by omega), iif_f (by omega)]; done) : (kG 2) = iif (what = 8) ((kG 2)) (iif (what = 9) ((sG 2)) (iif (what = 20) ((nG 12)) (bNum nO nG nF nE nP nT what))))) hend hP hD hS dX4_count_43
  by_cases c_1_9 : what = 9
  · refine x_look (off := 43) hC 44 dX4_count_1 rfl (by rw [c_1_9]; omega) (by rw [c_1_9]; first | done | rfl) (by decide) ?_
    refine x_al hC hl 0 dX4_count_44 rfl rfl ?_
    refine x_get4 (v := .ref (hs 0)) hC hP 0 rfl 3 (by decide) tb_204 rfl rfl dX4_count_45 ?_
    refine x_vI (As := []) (val := iI (sG 2)) hC (k3_size l D cs hs hg ho sG ) lk4_123 (q0 := 11) (ci := 3) rfl rfl rfl (sub_par0 (ws' := wX ha hn ht hh hs ++ (wB hn cs nO nG nF nE nZ nP nR nC nT ++ (wH hh cs kG kN ++ (wS hs hg ho sG)))) [11] [0, 1, 2, 3, 4, 5, 6, 7, 8, 9, 10] hP hD hS hA rfl rfl (by decide) rfl rfl rfl) hP hS rfl hl.1 rfl (Nat.le_of_ble_eq_true rfl) ⟨rfl, rfl⟩ ⟨Nat.le_of_ble_eq_true rfl, Nat.le_of_ble_eq_true rfl⟩ ⟨Nat.le_of_ble_eq_true rfl, Nat.le_of_ble_eq_true rfl⟩ dX4_count_48 (fun H locs hP hD hS hHs => ?_)
    exact x_retI (congrArg iI (by first | (rw [iif_t (by omega)]; done) | (rw [iif_f (by omega), iif_t (by omega)]; done) | (rw [iif_f (by omega), iif_f (by omega), iif_t (by omega)]; done) | (rw [iif_f (by omega), iif_f (by omega), iif_f (by omega)]; done) : (sG 2) = iif (what = 8) ((kG 2)) (iif (what = 9) ((sG 2)) (iif (what = 20) ((nG 12)) (bNum nO nG nF nE nP nT what))))) hend hP hD hS dX4_count_51
  by_cases c_1_20 : what = 20
  · refine x_look (off := 51) hC 52 dX4_count_1 rfl (by rw [c_1_20]; omega) (by rw [c_1_20]; first | done | rfl) (by decide) ?_
    refine x_al hC hl 0 dX4_count_52 rfl rfl ?_
    refine x_get4 (v := .ref (hn 0)) hC hP 0 rfl 0 (by decide) tb_201 rfl rfl dX4_count_53 ?_
    refine x_vI (As := []) (val := iI (nG 12)) hC (k0_ruleOfNow l D cs hn nO nG nF nE nZ nP nR nC nT ) lk4_58 (q0 := 1) (ci := 0) rfl rfl rfl (sub_par0 (ws' := wX ha hn ht hh hs ++ (wB hn cs nO nG nF nE nZ nP nR nC nT ++ (wH hh cs kG kN ++ (wS hs hg ho sG)))) [1, 2, 3, 4, 5, 6, 7, 8] [0, 9, 10, 11] hP hD hS hA rfl rfl (by decide) rfl rfl rfl) hP hS rfl hl.1 rfl (Nat.le_of_ble_eq_true rfl) ⟨rfl, rfl⟩ ⟨Nat.le_of_ble_eq_true rfl, Nat.le_of_ble_eq_true rfl⟩ ⟨Nat.le_of_ble_eq_true rfl, Nat.le_of_ble_eq_true rfl⟩ dX4_count_56 (fun H locs hP hD hS hHs => ?_)
    exact x_retI (congrArg iI (by first | (rw [iif_t (by omega)]; done) | (rw [iif_f (by omega), iif_t (by omega)]; done) | (rw [iif_f (by omega), iif_f (by omega), iif_t (by omega)]; done) | (rw [iif_f (by omega), iif_f (by omega), iif_f (by omega)]; done) : (nG 12) = iif (what = 8) ((kG 2)) (iif (what = 9) ((sG 2)) (iif (what = 20) ((nG 12)) (bNum nO nG nF nE nP nT what))))) hend hP hD hS dX4_count_59
  refine x_look (off := 59) hC 60 dX4_count_1 rfl (by omega) (by simp [Op.lookupswitch.offset]; grind) (by decide) ?_
  refine x_al hC hl 0 dX4_count_60 rfl rfl ?_
  refine x_get4 (v := .ref (hn 0)) hC hP 0 rfl 0 (by decide) tb_201 rfl rfl dX4_count_61 ?_
  refine x_il hC hl 1 dX4_count_64 rfl rfl ?_
  refine x_vI (As := [.int (iI what)]) hC (k0_number l D cs hn nO nG nF nE nZ nP nR nC nT what (by first | assumption | omega) (by first | assumption | omega)) lk4_124 (q0 := 1) (ci := 0) rfl rfl rfl (sub_par0 (ws' := wX ha hn ht hh hs ++ (wB hn cs nO nG nF nE nZ nP nR nC nT ++ (wH hh cs kG kN ++ (wS hs hg ho sG)))) [1, 2, 3, 4, 5, 6, 7, 8] [0, 9, 10, 11] hP hD hS hA rfl rfl (by decide) rfl rfl rfl) hP hS rfl hl.1 rfl (Nat.le_of_ble_eq_true rfl) ⟨rfl, rfl⟩ ⟨Nat.le_of_ble_eq_true rfl, Nat.le_of_ble_eq_true rfl⟩ ⟨Nat.le_of_ble_eq_true rfl, Nat.le_of_ble_eq_true rfl⟩ dX4_count_65 (fun H locs hP hD hS hHs => ?_)
  exact x_retI (congrArg iI (by first | (rw [iif_t (by omega)]; done) | (rw [iif_f (by omega), iif_t (by omega)]; done) | (rw [iif_f (by omega), iif_f (by omega), iif_t (by omega)]; done) | (rw [iif_f (by omega), iif_f (by omega), iif_f (by omega)]; done) : bNum nO nG nF nE nP nT what = iif (what = 8) ((kG 2)) (iif (what = 9) ((sG 2)) (iif (what = 20) ((nG 12)) (bNum nO nG nF nE nP nT what))))) hend hP hD hS dX4_count_68
