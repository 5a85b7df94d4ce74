abbrev r4_roomOf : Room := { frames := 3, cells := 0, slots := 0, locals := 68 }
set_option maxHeartbeats 4000000 in
set_option maxRecDepth 100000 in
theorem k4_roomOf (l : Launch) (D : va_G) (cs : Nat → ClassId) (ha : Nat → Nat) (hn : Nat → Nat) (ht : Nat → Nat) (hh : Nat → Nat) (hs : Nat → Nat) (nO : Nat → Bool) (nG : Int → Int) (nF : Int → Int) (nE : Int → Int) (nZ : Int → Int) (nP : Int → Int) (nR : Int → Int) (nC : Int → Int) (nT : Int → Nat → Bool) (room : Int) (what : Int) (hB : IBG nG nF nE nZ nP nR nC) (g_room : -2147483648 ≤ room ∧ room ≤ 2147483647) (g_what : -2147483648 ≤ what ∧ what ≤ 2147483647) : CI l D cs yX4_roomOf cX4_roomOf 3 .int r4_roomOf 0 0 [.ref (ha 0), .int (iI room), .int (iI what)] (wX ha hn ht hh hs ++ (wB hn cs nO nG nF nE nZ nP nR nC nT)) (wX ha hn ht hh hs ++ (wB hn cs nO nG nF nE nZ nP nR nC nT)) (iif (0 ≤ room ∧ room ≤ 7) (bRoomOf nO nP nR nC nT room what) (iI (-1000001))) := by
  refine CI_start (own := RX4) (by decide) rfl rfl (Nat.le_of_ble_eq_true rfl) ?_
  intro p e s m args below meth c Q A ls hC hl hP hD hA hS hend
  have hl : lv_has ls 3 [(0, .ref (ha 0)), (1, .int (iI room)), (2, .int (iI what))] := hl
  obtain ⟨H, hH⟩ : ∃ H : Heap, H = s.heap := ⟨_, rfl⟩
  have hS : va_S A s.heap H [] := by rw [hH]; exact hS
  rw [← hH] at hP
  obtain ⟨locs, hlocs⟩ : ∃ locs : List Loc, locs = [] := ⟨_, rfl⟩
  rw [← hlocs] at hS
  suffices hgo : W p l e r4_roomOf s m args below meth c H locs 0 0 Q (F0 m 0 ls []) by rw [← hH, ← hlocs]; exact hgo
  clear hH hlocs
  have qB := hB.1
  have q12 := hB.2.1
  have q8 := hB.2.2
  refine x_al hC hl 0 dX4_roomOf_0 rfl rfl ?_
  refine x_get4 (v := .ref (hn 0)) hC hP 0 rfl 0 (by decide) tb_201 rfl rfl dX4_roomOf_1 ?_
  refine x_il hC hl 1 dX4_roomOf_4 rfl rfl ?_
  refine x_il hC hl 2 dX4_roomOf_5 rfl rfl ?_
  refine x_vI (As := [.int (iI room), .int (iI what)]) hC (k0_ofRoom l D cs hn nO nG nF nE nZ nP nR nC nT room what (by first | assumption | omega) (by first | assumption | omega) (by first | assumption | omega)) lk4_72 (q0 := 1) (ci := 0) rfl rfl rfl (sub_par0 (ws' := wX ha hn ht hh hs ++ (wB hn cs nO nG nF nE nZ nP nR nC nT)) [1, 2, 3, 4, 5, 6, 7, 8] [0] hP hD hS hA rfl rfl (by decide) rfl rfl rfl) hP hS rfl hl.1 rfl (Nat.le_of_ble_eq_true rfl) ⟨rfl, rfl⟩ ⟨Nat.le_of_ble_eq_true rfl, Nat.le_of_ble_eq_true rfl⟩ ⟨Nat.le_of_ble_eq_true rfl, Nat.le_of_ble_eq_true rfl⟩ dX4_roomOf_6 (fun H locs hP hD hS hHs => ?_)
  exact x_retI (rfl) hend hP hD hS dX4_roomOf_9
