theorem lk4_120 : LkV RX4 120 yX1_size cX1_size 1 (some .int) 0 := ⟨tb_507, tb_504, tb_505, tb_506, tb_73, by decide +kernel⟩
theorem lk4_123 : LkV RX4 123 yX3_size cX3_size 1 (some .int) 0 := ⟨tb_511, tb_508, tb_509, tb_510, tb_74, by decide +kernel⟩
theorem lk4_124 : LkV RX4 124 yX0_number cX0_number 2 (some .int) 1 := ⟨tb_515, tb_512, tb_513, tb_514, tb_72, by decide +kernel⟩
theorem lk4_130 : LkV RX4 130 yX3_append cX3_append 2 (some .int) 1 := ⟨tb_541, tb_538, tb_539, tb_540, tb_74, by decide +kernel⟩
theorem lk4_134 : LkV RX4 134 yX3_clear cX3_clear 2 (some .int) 0 := ⟨tb_550, tb_547, tb_548, tb_549, tb_74, by decide +kernel⟩
theorem lk4_137 : LkV RX4 137 yX3_runOn cX3_runOn 4 (some .boolean) 1 := ⟨tb_558, tb_555, tb_556, tb_557, tb_74, by decide +kernel⟩
theorem lk4_141 : LkV RX4 141 yX3_ofFault cX3_ofFault 2 (some .int) 1 := ⟨tb_603, tb_600, tb_601, tb_602, tb_74, by decide +kernel⟩
abbrev r4_type : Room := { frames := 1, cells := 0, slots := 0, locals := 21 }
set_option maxHeartbeats 4000000 in
set_option maxRecDepth 100000 in
theorem k4_type (l : Launch) (D : va_G) (cs : Nat → ClassId) (ha : Nat → Nat) (hs : Nat → Nat) (hg : Nat → Nat) (hn : Nat → Nat) (ht : Nat → Nat) (hh : Nat → Nat) (ho : Nat → Nat) (sG : Int → Int) (gT : Int → Int) (character : Int) (hl2 : 0 ≤ (sG 2) ∧ (sG 2) ≤ 60) (g_character : -2147483648 ≤ character ∧ character ≤ 2147483647) : CI l D cs yX4_type cX4_type 2 .int r4_type 0 0 [.ref (ha 0), .int (iI character)] (wX ha hn ht hh hs ++ (wS hs hg ho sG ++ (wG hg cs gT))) (wX ha hn ht hh hs ++ (wS hs hg ho (iif (32 ≤ character ∧ character ≤ 126) (iif ((sG 2) < 60) (u1 sG 2 ((sG 2) + 1)) sG) sG) ++ (wG hg cs (iif (32 ≤ character ∧ character ≤ 126) (iif ((sG 2) < 60) (u1 gT ((sG 2)) character) gT) gT)))) (iI (iif (32 ≤ character ∧ character ≤ 126) (iif ((sG 2) < 60) ((sG 2) + 1) (-1000003)) (-1000001))) := by
  refine CI_start (own := RX4) (by decide) rfl rfl (Nat.le_of_ble_eq_true rfl) ?_
  intro p e s m args below meth c Q A ls hC hl hP hD hA hS hend
  have hl : lv_has ls 2 [(0, .ref (ha 0)), (1, .int (iI character))] := hl
  obtain ⟨H, hH⟩ : ∃ H : Heap, H = s.heap := ⟨_, rfl⟩
  have hS : va_S A s.heap H [] := by rw [hH]; exact hS
  rw [← hH] at hP
  obtain ⟨locs, hlocs⟩ : ∃ locs : List Loc, locs = [] := ⟨_, rfl⟩
  rw [← hlocs] at hS
  suffices hgo : W p l e r4_type s m args below meth c H locs 0 0 Q (F0 m 0 ls []) by rw [← hH, ← hlocs]; exact hgo
  clear hH hlocs
  refine x_il hC hl 1 dX4_type_0 rfl rfl ?_
  refine x_bi hC dX4_type_1 (by decide) ?_
  refine x_ic_lt hC 12 dX4_type_3 (by decide) (by omega) (by omega) (fun c_3 => ?_) (fun c_3 => ?_)
  · have qn : ¬ (32 ≤ character ∧ character ≤ 126) := by omega
    refine x_ldc hC (-1000001) tb_381 (by decide) dX4_type_12 ?_
    have ew : (wX ha hn ht hh hs ++ (wS hs hg ho sG ++ (wG hg cs gT))) = (wX ha hn ht hh hs ++ (wS hs hg ho (iif (32 ≤ character ∧ character ≤ 126) (iif ((sG 2) < 60) (u1 sG 2 ((sG 2) + 1)) sG) sG) ++ (wG hg cs (iif (32 ≤ character ∧ character ≤ 126) (iif ((sG 2) < 60) (u1 gT ((sG 2)) character) gT) gT)))) := (appc rfl (appc (wSc (by first | exact (iif_t qv).symm | exact (iif_f qn).symm : sG = iif (32 ≤ character ∧ character ≤ 126) (iif ((sG 2) < 60) (u1 sG 2 ((sG 2) + 1)) sG) sG)) (wGc (by first | exact (iif_t qv).symm | exact (iif_f qn).symm : gT = iif (32 ≤ character ∧ character ≤ 126) (iif ((sG 2) < 60) (u1 gT ((sG 2)) character) gT) gT))))
    have hP := vPe hP ew
    have hD := vDe hD ew
    exact x_retI (congrArg iI (by first | exact (iif_t qv).symm | exact (iif_f qn).symm : (-1000001) = iif (32 ≤ character ∧ character ≤ 126) (iif ((sG 2) < 60) ((sG 2) + 1) (-1000003)) (-1000001))) hend hP hD hS dX4_type_14
  · refine x_il hC hl 1 dX4_type_6 rfl rfl ?_
    refine x_bi hC dX4_type_7 (by decide) ?_
    refine x_ic_le hC 15 dX4_type_9 (by decide) (by omega) (by omega) (fun c_9 => ?_) (fun c_9 => ?_)
    · have qv : 32 ≤ character ∧ character ≤ 126 := by omega
      refine x_al hC hl 0 dX4_type_15 rfl rfl ?_
      refine x_get4 (v := .ref (hs 0)) hC hP 0 rfl 3 (by decide) tb_204 rfl rfl dX4_type_16 ?_
      refine x_il hC hl 1 dX4_type_19 rfl rfl ?_
      refine lv_i2c (v := iI character) hC.1 hC.2.1 dX4_type_20 (zCh character (by omega)).2.2 ?_
      refine x_vI (As := [.int (iI character)]) (val := iI (iif ((sG 2) < 60) ((sG 2) + 1) (-1000003))) hC (k3_append l D cs hs hg ho sG gT character (by show 0 ≤ (sG 2) ∧ (sG 2) ≤ 60; first | assumption | omega) (by first | assumption | omega)) lk4_130 (q0 := 1) (ci := 3) rfl rfl rfl (sub_par0 (ws' := wX ha hn ht hh hs ++ (wS hs hg ho (iif ((sG 2) < 60) (u1 sG 2 ((sG 2) + 1)) sG) ++ (wG hg cs (iif ((sG 2) < 60) (u1 gT ((sG 2)) character) gT)))) [1, 2] [0] hP hD hS hA rfl rfl (by decide) rfl rfl rfl) hP hS rfl hl.1 rfl (Nat.le_of_ble_eq_true rfl) ⟨rfl, rfl⟩ ⟨Nat.le_of_ble_eq_true rfl, Nat.le_of_ble_eq_true rfl⟩ ⟨Nat.le_of_ble_eq_true rfl, Nat.le_of_ble_eq_true rfl⟩ dX4_type_21 (fun H locs hP hD hS hHs => ?_)
      have hP : va_P D vwCl (wX ha hn ht hh hs ++ (wS hs hg ho (iif ((sG 2) < 60) (u1 sG 2 ((sG 2) + 1)) sG) ++ (wG hg cs (iif ((sG 2) < 60) (u1 gT ((sG 2)) character) gT)))) H := hP
      have hD : va_D A (wX ha hn ht hh hs ++ (wS hs hg ho (iif ((sG 2) < 60) (u1 sG 2 ((sG 2) + 1)) sG) ++ (wG hg cs (iif ((sG 2) < 60) (u1 gT ((sG 2)) character) gT)))) := hD
      have ew_2 : (wX ha hn ht hh hs ++ (wS hs hg ho (iif ((sG 2) < 60) (u1 sG 2 ((sG 2) + 1)) sG) ++ (wG hg cs (iif ((sG 2) < 60) (u1 gT ((sG 2)) character) gT)))) = (wX ha hn ht hh hs ++ (wS hs hg ho (iif (32 ≤ character ∧ character ≤ 126) (iif ((sG 2) < 60) (u1 sG 2 ((sG 2) + 1)) sG) sG) ++ (wG hg cs (iif (32 ≤ character ∧ character ≤ 126) (iif ((sG 2) < 60) (u1 gT ((sG 2)) character) gT) gT)))) := (appc rfl (appc (wSc (by first | exact (iif_t qv).symm | exact (iif_f qn).symm : iif ((sG 2) < 60) (u1 sG 2 ((sG 2) + 1)) sG = iif (32 ≤ character ∧ character ≤ 126) (iif ((sG 2) < 60) (u1 sG 2 ((sG 2) + 1)) sG) sG)) (wGc (by first | exact (iif_t qv).symm | exact (iif_f qn).symm : iif ((sG 2) < 60) (u1 gT ((sG 2)) character) gT = iif (32 ≤ character ∧ character ≤ 126) (iif ((sG 2) < 60) (u1 gT ((sG 2)) character) gT) gT))))
      have hP := vPe hP ew_2
      have hD := vDe hD ew_2
      exact x_retI (congrArg iI (by first | exact (iif_t qv).symm | exact (iif_f qn).symm : iif ((sG 2) < 60) ((sG 2) + 1) (-1000003) = iif (32 ≤ character ∧ character ≤ 126) (iif ((sG 2) < 60) ((sG 2) + 1) (-1000003)) (-1000001))) hend hP hD hS dX4_type_24
    · have qn : ¬ (32 ≤ character ∧ character ≤ 126) := by omega
      refine x_ldc hC (-1000001) tb_381 (by decide) dX4_type_12 ?_
      have ew_3 : (wX ha hn ht hh hs ++ (wS hs hg ho sG ++ (wG hg cs gT))) = (wX ha hn ht hh hs ++ (wS hs hg ho (iif (32 ≤ character ∧ character ≤ 126) (iif ((sG 2) < 60) (u1 sG 2 ((sG 2) + 1)) sG) sG) ++ (wG hg cs (iif (32 ≤ character ∧ character ≤ 126) (iif ((sG 2) < 60) (u1 gT ((sG 2)) character) gT) gT)))) := (appc rfl (appc (wSc (by first | exact (iif_t qv).symm | exact (iif_f qn).symm : sG = iif (32 ≤ character ∧ character ≤ 126) (iif ((sG 2) < 60) (u1 sG 2 ((sG 2) + 1)) sG) sG)) (wGc (by first | exact (iif_t qv).symm | exact (iif_f qn).symm : gT = iif (32 ≤ character ∧ character ≤ 126) (iif ((sG 2) < 60) (u1 gT ((sG 2)) character) gT) gT))))
      have hP := vPe hP ew_3
      have hD := vDe hD ew_3
      exact x_retI (congrArg iI (by first | exact (iif_t qv).symm | exact (iif_f qn).symm : (-1000001) = iif (32 ≤ character ∧ character ≤ 126) (iif ((sG 2) < 60) ((sG 2) + 1) (-1000003)) (-1000001))) hend hP hD hS dX4_type_14
