abbrev r4_clearText : Room := { frames := 1, cells := 0, slots := 0, locals := 21 }
set_option maxHeartbeats 4000000 in
set_option maxRecDepth 100000 in
theorem k4_clearText (l : Launch) (D : va_G) (cs : Nat → ClassId) (ha : Nat → Nat) (hs : Nat → Nat) (hn : Nat → Nat) (ht : Nat → Nat) (hh : Nat → Nat) (hg : Nat → Nat) (ho : Nat → Nat) (sG : Int → Int)  : CI l D cs yX4_clearText cX4_clearText 1 .int r4_clearText 0 0 [.ref (ha 0)] (wX ha hn ht hh hs ++ (wS hs hg ho sG)) (wX ha hn ht hh hs ++ (wS hs hg ho (u1 sG 2 0))) (iI ((sG 2))) := by
  refine CI_start (own := RX4) (by decide) rfl rfl (Nat.le_of_ble_eq_true rfl) ?_
  intro p e s m args below meth c Q A ls hC hl hP hD hA hS hend
  have hl : lv_has ls 1 [(0, .ref (ha 0))] := hl
  obtain ⟨H, hH⟩ : ∃ H : Heap, H = s.heap := ⟨_, rfl⟩
  have hS : va_S A s.heap H [] := by rw [hH]; exact hS
  rw [← hH] at hP
  obtain ⟨locs, hlocs⟩ : ∃ locs : List Loc, locs = [] := ⟨_, rfl⟩
  rw [← hlocs] at hS
  suffices hgo : W p l e r4_clearText s m args below meth c H locs 0 0 Q (F0 m 0 ls []) by rw [← hH, ← hlocs]; exact hgo
  clear hH hlocs
  refine x_al hC hl 0 dX4_clearText_0 rfl rfl ?_
  refine x_get4 (v := .ref (hs 0)) hC hP 0 rfl 3 (by decide) tb_204 rfl rfl dX4_clearText_1 ?_
  refine x_vI (As := []) (val := iI (sG 2)) hC (k3_clear l D cs hs hg ho sG ) lk4_134 (q0 := 1) (ci := 3) rfl rfl rfl (sub_par0 (ws' := wX ha hn ht hh hs ++ (wS hs hg ho (u1 sG 2 0))) [1] [0] hP hD hS hA rfl rfl (by decide) rfl rfl rfl) hP hS rfl hl.1 rfl (Nat.le_of_ble_eq_true rfl) ⟨rfl, rfl⟩ ⟨Nat.le_of_ble_eq_true rfl, Nat.le_of_ble_eq_true rfl⟩ ⟨Nat.le_of_ble_eq_true rfl, Nat.le_of_ble_eq_true rfl⟩ dX4_clearText_4 (fun H locs hP hD hS hHs => ?_)
  have hP : va_P D vwCl (wX ha hn ht hh hs ++ (wS hs hg ho (u1 sG 2 0))) H := hP
  have hD : va_D A (wX ha hn ht hh hs ++ (wS hs hg ho (u1 sG 2 0))) := hD
  exact x_retI (rfl) hend hP hD hS dX4_clearText_7
