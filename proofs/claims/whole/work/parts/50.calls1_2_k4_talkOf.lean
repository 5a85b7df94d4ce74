abbrev r4_talkOf : Room := { frames := 4, cells := 0, slots := 0, locals := 92 }
set_option maxHeartbeats 4000000 in
set_option maxRecDepth 100000 in
theorem k4_talkOf (l : Launch) (D : va_G) (cs : Nat → ClassId) (ha : Nat → Nat) (hn : Nat → Nat) (ht : Nat → Nat) (hh : Nat → Nat) (hs : Nat → Nat) (nO : Nat → Bool) (nG : Int → Int) (nF : Int → Int) (nE : Int → Int) (nZ : Int → Int) (nP : Int → Int) (nR : Int → Int) (nC : Int → Int) (nT : Int → Nat → Bool) (talk : Int) (what : Int) (hB : IBG nG nF nE nZ nP nR nC) (g_talk : -2147483648 ≤ talk ∧ talk ≤ 2147483647) (g_what : -2147483648 ≤ what ∧ what ≤ 2147483647) : CI l D cs yX4_talkOf cX4_talkOf 3 .int r4_talkOf 0 0 [.ref (ha 0), .int (iI talk), .int (iI what)] (wX ha hn ht hh hs ++ (wB hn cs nO nG nF nE nZ nP nR nC nT)) (wX ha hn ht hh hs ++ (wB hn cs nO nG nF nE nZ nP nR nC nT)) (iif (bPl nP talk = -1) (iI (-1000001)) (bTalkOf nO nF nE nZ nP nR nT talk what)) := by
  refine CI_start (own := RX4) (by decide) rfl rfl (Nat.le_of_ble_eq_true rfl) ?_
  intro p e s m args below meth c Q A ls hC hl hP hD hA hS hend
  have hl : lv_has ls 3 [(0, .ref (ha 0)), (1, .int (iI talk)), (2, .int (iI what))] := hl
  obtain ⟨H, hH⟩ : ∃ H : Heap, H = s.heap := ⟨_, rfl⟩
  have hS : va_S A s.heap H [] := by rw [hH]; exact hS
  rw [← hH] at hP
  obtain ⟨locs, hlocs⟩ : ∃ locs : List Loc, locs = [] := ⟨_, rfl⟩
  rw [← hlocs] at hS
  suffices hgo : W p l e r4_talkOf s m args below meth c H locs 0 0 Q (F0 m 0 ls []) by rw [← hH, ← hlocs]; exact hgo
  clear hH hlocs
  have qB := hB.1
  have q12 := hB.2.1
  have q8 := hB.2.2
  refine x_al hC hl 0 dX4_talkOf_0 rfl rfl ?_
  refine x_get4 (v := .ref (hn 0)) hC hP 0 rfl 0 (by decide) tb_201 rfl rfl dX4_talkOf_1 ?_
  refine x_il hC hl 1 dX4_talkOf_4 rfl rfl ?_
  refine x_il hC hl 2 dX4_talkOf_5 rfl rfl ?_
  refine x_vI (As := [.int (iI talk), .int (iI what)]) hC (k0_ofTalk l D cs hn nO nG nF nE nZ nP nR nC nT talk what (by first | assumption | omega) (by first | assumption | omega) (by first | assumption | omega)) lk4_69 (q0 := 1) (ci := 0) rfl rfl rfl (sub_par0 (ws' := wX ha hn ht hh hs ++ (wB hn cs nO nG nF nE nZ nP nR nC nT)) [1, 2, 3, 4, 5, 6, 7, 8] [0] hP hD hS hA rfl rfl (by decide) rfl rfl rfl) hP hS rfl hl.1 rfl (Nat.le_of_ble_eq_true rfl) ⟨rfl, rfl⟩ ⟨Nat.le_of_ble_eq_true rfl, Nat.le_of_ble_eq_true rfl⟩ ⟨Nat.le_of_ble_eq_true rfl, Nat.le_of_ble_eq_true rfl⟩ dX4_talkOf_6 (fun H locs hP hD hS hHs => ?_)
  exact x_retI (rfl) hend hP hD hS dX4_talkOf_9
