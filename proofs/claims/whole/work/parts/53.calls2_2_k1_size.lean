abbrev r1_size : Room := { frames := 0, cells := 0, slots := 0, locals := 0 }
set_option maxHeartbeats 4000000 in
set_option maxRecDepth 100000 in
theorem k1_size (l : Launch) (D : va_G) (cs : Nat → ClassId) (hh : Nat → Nat) (kG : Int → Int) (kN : Nat → Option Nat)  : CI l D cs yX1_size cX1_size 1 .int r1_size 0 0 [.ref (hh 0)] (wH hh cs kG kN) (wH hh cs kG kN) (iI ((kG 2))) := by
  refine CI_start (own := RX1) (by decide) rfl rfl (Nat.le_of_ble_eq_true rfl) ?_
  intro p e s m args below meth c Q A ls hC hl hP hD hA hS hend
  have hl : lv_has ls 1 [(0, .ref (hh 0))] := hl
  obtain ⟨H, hH⟩ : ∃ H : Heap, H = s.heap := ⟨_, rfl⟩
  have hS : va_S A s.heap H [] := by rw [hH]; exact hS
  rw [← hH] at hP
  obtain ⟨locs, hlocs⟩ : ∃ locs : List Loc, locs = [] := ⟨_, rfl⟩
  rw [← hlocs] at hS
  suffices hgo : W p l e r1_size s m args below meth c H locs 0 0 Q (F0 m 0 ls []) by rw [← hH, ← hlocs]; exact hgo
  clear hH hlocs
  refine x_al hC hl 0 dX1_size_0 rfl rfl ?_
  refine x_get1 (v := .int (iI (kG 2))) hC hP 0 rfl 2 (by decide) tb_148 rfl rfl dX1_size_1 ?_
  exact x_retI (rfl) hend hP hD hS dX1_size_4
