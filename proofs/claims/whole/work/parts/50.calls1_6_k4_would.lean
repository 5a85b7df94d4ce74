abbrev r4_would : Room := { frames := 3, cells := 0, slots := 0, locals := 78 }
set_option maxHeartbeats 4000000 in
set_option maxRecDepth 100000 in
theorem k4_would (l : Launch) (D : va_G) (cs : Nat → ClassId) (ha : Nat → Nat) (hn : Nat → Nat) (ht : Nat → Nat) (hh : Nat → Nat) (hs : Nat → Nat) (nO : Nat → Bool) (nG : Int → Int) (nF : Int → Int) (nE : Int → Int) (nZ : Int → Int) (nP : Int → Int) (nR : Int → Int) (nC : Int → Int) (nT : Int → Nat → Bool) (first : Int) (en : Int) (size : Int) (rule : Int) (hB : IBG nG nF nE nZ nP nR nC) (g_first : -2147483648 ≤ first ∧ first ≤ 2147483647) (g_en : -2147483648 ≤ en ∧ en ≤ 2147483647) (g_size : -2147483648 ≤ size ∧ size ≤ 2147483647) (g_rule : -2147483648 ≤ rule ∧ rule ≤ 2147483647) : CI l D cs yX4_would cX4_would 6 .int r4_would 0 0 [.ref (ha 0), .int (iI first), .int (iI en), .int (iI size), .int (iI rule)] (wX ha hn ht hh hs ++ (wB hn cs nO nG nF nE nZ nP nR nC nT)) (wX ha hn ht hh hs ++ (wB hn cs nO nG nF nE nZ nP nR nC nT)) (iI (iif (((0 ≤ first ∧ first ≤ 47) ∧ (first + 1 ≤ en ∧ en ≤ 48) ∧ (1 ≤ size ∧ size ≤ 9)) ∧ 0 ≤ rule ∧ rule ≤ 3) (iif ((bFor nO nR nC nT first en size rule) = -1) (-1000004) (bFor nO nR nC nT first en size rule)) (-1000001))) := by
  refine CI_start (own := RX4) (by decide) rfl rfl (Nat.le_of_ble_eq_true rfl) ?_
  intro p e s m args below meth c Q A ls hC hl hP hD hA hS hend
  have hl : lv_has ls 6 [(0, .ref (ha 0)), (1, .int (iI first)), (2, .int (iI en)), (3, .int (iI size)), (4, .int (iI rule))] := hl
  obtain ⟨H, hH⟩ : ∃ H : Heap, H = s.heap := ⟨_, rfl⟩
  have hS : va_S A s.heap H [] := by rw [hH]; exact hS
  rw [← hH] at hP
  obtain ⟨locs, hlocs⟩ : ∃ locs : List Loc, locs = [] := ⟨_, rfl⟩
  rw [← hlocs] at hS
  suffices hgo : W p l e r4_would s m args below meth c H locs 0 0 Q (F0 m 0 ls []) by rw [← hH, ← hlocs]; exact hgo
  clear hH hlocs
  have qB := hB.1
  have q12 := hB.2.1
  have q8 := hB.2.2
  refine x_il hC hl 1 dX4_would_0 rfl rfl ?_
  refine x_il hC hl 2 dX4_would_1 rfl rfl ?_
  refine x_il hC hl 3 dX4_would_2 rfl rfl ?_
  refine x_sI (As := [.int (iI first), .int (iI en), .int (iI size)]) hC (k4_isTalk l D cs first en size (by first | assumption | omega) (by first | assumption | omega) (by first | assumption | omega)) lk4_92 (sub_none hP hD hS hA) hP hS rfl hl.1 rfl (Nat.le_of_ble_eq_true rfl) ⟨rfl, rfl⟩ ⟨Nat.le_of_ble_eq_true rfl, Nat.le_of_ble_eq_true rfl⟩ ⟨Nat.le_of_ble_eq_true rfl, Nat.le_of_ble_eq_true rfl⟩ dX4_would_3 (fun H locs hP hD hS hHs => ?_)
  refine x_if_eq_b hC 17 dX4_would_6 (by decide) (fun c_6 => ?_) (fun c_6 => ?_)
  · have qn : ¬ (((0 ≤ first ∧ first ≤ 47) ∧ (first + 1 ≤ en ∧ en ≤ 48) ∧ (1 ≤ size ∧ size ≤ 9)) ∧ 0 ≤ rule ∧ rule ≤ 3) := by omega
    refine x_ldc hC (-1000001) tb_381 (by decide) dX4_would_17 ?_
    exact x_retI (congrArg iI (by exact (iif_f qn).symm : (-1000001) = iif (((0 ≤ first ∧ first ≤ 47) ∧ (first + 1 ≤ en ∧ en ≤ 48) ∧ (1 ≤ size ∧ size ≤ 9)) ∧ 0 ≤ rule ∧ rule ≤ 3) (iif ((bFor nO nR nC nT first en size rule) = -1) (-1000004) (bFor nO nR nC nT first en size rule)) (-1000001))) hend hP hD hS dX4_would_19
  · refine x_ilw hC hl 4 dX4_would_9 rfl ?_
    refine x_sI (As := [.int (iI rule)]) hC (k4_isRule l D cs rule (by first | assumption | omega)) lk4_96 (sub_none hP hD hS hA) hP hS rfl hl.1 rfl (Nat.le_of_ble_eq_true rfl) ⟨rfl, rfl⟩ ⟨Nat.le_of_ble_eq_true rfl, Nat.le_of_ble_eq_true rfl⟩ ⟨Nat.le_of_ble_eq_true rfl, Nat.le_of_ble_eq_true rfl⟩ dX4_would_11 (fun H locs hP hD hS hHs => ?_)
    refine x_if_ne_b hC 20 dX4_would_14 (by decide) (fun c_14 => ?_) (fun c_14 => ?_)
    · have qv : ((0 ≤ first ∧ first ≤ 47) ∧ (first + 1 ≤ en ∧ en ≤ 48) ∧ (1 ≤ size ∧ size ≤ 9)) ∧ 0 ≤ rule ∧ rule ≤ 3 := ⟨c_6, c_14⟩
      refine x_al hC hl 0 dX4_would_20 rfl rfl ?_
      refine x_get4 (v := .ref (hn 0)) hC hP 0 rfl 0 (by decide) tb_201 rfl rfl dX4_would_21 ?_
      refine x_il hC hl 1 dX4_would_24 rfl rfl ?_
      refine x_il hC hl 2 dX4_would_25 rfl rfl ?_
      refine x_il hC hl 3 dX4_would_26 rfl rfl ?_
      refine x_ilw hC hl 4 dX4_would_27 rfl ?_
      refine x_vI (As := [.int (iI first), .int (iI en), .int (iI size), .int (iI rule)]) hC (k0_roomFor l D cs hn nO nG nF nE nZ nP nR nC nT first en size rule (by first | assumption | omega) (by first | assumption | omega) (by first | assumption | omega) (by first | assumption | omega)) lk4_99 (q0 := 1) (ci := 0) rfl rfl rfl (sub_par0 (ws' := wX ha hn ht hh hs ++ (wB hn cs nO nG nF nE nZ nP nR nC nT)) [1, 2, 3, 4, 5, 6, 7, 8] [0] hP hD hS hA rfl rfl (by decide) rfl rfl rfl) hP hS rfl hl.1 rfl (Nat.le_of_ble_eq_true rfl) ⟨rfl, rfl⟩ ⟨Nat.le_of_ble_eq_true rfl, Nat.le_of_ble_eq_true rfl⟩ ⟨Nat.le_of_ble_eq_true rfl, Nat.le_of_ble_eq_true rfl⟩ dX4_would_29 (fun H locs hP hD hS hHs => ?_)
      have q_29 := bFor_rg (by assumption) nO nT (b := first) en size rule (by omega)
      refine x_isw hC [(5, .int (iI (bFor nO nR nC nT first en size rule))), (0, .ref (ha 0)), (1, .int (iI first)), (2, .int (iI en)), (3, .int (iI size)), (4, .int (iI rule))] hl dX4_would_32 (by decide) rfl (fun ls hl => ?_)
      refine x_ilw hC hl 0 dX4_would_34 rfl ?_
      refine x_ic hC dX4_would_36 ?_
      refine x_ic_ne hC 45 dX4_would_37 (by decide) (by omega) (by omega) (fun c_37 => ?_) (fun c_37 => ?_)
      · refine x_ilw hC hl 0 dX4_would_45 rfl ?_
        exact x_retI (congrArg iI (by rw [iif_t qv]; first | exact (iif_t c_37).symm | exact (iif_f c_37).symm : bFor nO nR nC nT first en size rule = iif (((0 ≤ first ∧ first ≤ 47) ∧ (first + 1 ≤ en ∧ en ≤ 48) ∧ (1 ≤ size ∧ size ≤ 9)) ∧ 0 ≤ rule ∧ rule ≤ 3) (iif ((bFor nO nR nC nT first en size rule) = -1) (-1000004) (bFor nO nR nC nT first en size rule)) (-1000001))) hend hP hD hS dX4_would_47
      · refine x_ldc hC (-1000004) tb_434 (by decide) dX4_would_40 ?_
        refine x_goto hC 47 dX4_would_42 (by decide) ?_
        exact x_retI (congrArg iI (by rw [iif_t qv]; first | exact (iif_t c_37).symm | exact (iif_f c_37).symm : (-1000004) = iif (((0 ≤ first ∧ first ≤ 47) ∧ (first + 1 ≤ en ∧ en ≤ 48) ∧ (1 ≤ size ∧ size ≤ 9)) ∧ 0 ≤ rule ∧ rule ≤ 3) (iif ((bFor nO nR nC nT first en size rule) = -1) (-1000004) (bFor nO nR nC nT first en size rule)) (-1000001))) hend hP hD hS dX4_would_47
    · have qn : ¬ (((0 ≤ first ∧ first ≤ 47) ∧ (first + 1 ≤ en ∧ en ≤ 48) ∧ (1 ≤ size ∧ size ≤ 9)) ∧ 0 ≤ rule ∧ rule ≤ 3) := by omega
      refine x_ldc hC (-1000001) tb_381 (by decide) dX4_would_17 ?_
      exact x_retI (congrArg iI (by exact (iif_f qn).symm : (-1000001) = iif (((0 ≤ first ∧ first ≤ 47) ∧ (first + 1 ≤ en ∧ en ≤ 48) ∧ (1 ≤ size ∧ size ≤ 9)) ∧ 0 ≤ rule ∧ rule ≤ 3) (iif ((bFor nO nR nC nT first en size rule) = -1) (-1000004) (bFor nO nR nC nT first en size rule)) (-1000001))) hend hP hD hS dX4_would_19
