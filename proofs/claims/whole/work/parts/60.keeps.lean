/-! the class's changes -/
theorem pm_keep (X N T w : va_W) : List.Perm ((X ++ (N ++ T)) ++ w) ((X ++ T) ++ (w ++ N)) := by
  rw [List.append_assoc, List.append_assoc, List.append_assoc, ← List.append_assoc T w N]
  exact List.Perm.append_left _ List.perm_append_comm
theorem pm_play (X N T E w : va_W) : List.Perm ((X ++ (N ++ (T ++ E))) ++ w) (E ++ ((X ++ (N ++ T)) ++ w)) := by
  have e1 : (X ++ (N ++ (T ++ E))) ++ w = (X ++ (N ++ T)) ++ (E ++ w) := by simp only [List.append_assoc]
  rw [e1]
  exact List.perm_append_comm_assoc _ _ _
theorem cRun_3 {t : Int → Int} {n : Int} : ∀ (k : Nat) (a : Int) (x g N : Int → Int) (O : Nat → Bool) (G F E Z P R C : Int → Int) (T : Int → Nat → Bool), x 3 ≤ (cRun t n k a x g N O G F E Z P R C T).2.1 3 ∧ (cRun t n k a x g N O G F E Z P R C T).2.1 3 ≤ x 3 + k
  | 0, a, x, g, N, O, G, F, E, Z, P, R, C, T => by show x 3 ≤ x 3 ∧ x 3 ≤ _; omega
  | k + 1, a, x, g, N, O, G, F, E, Z, P, R, C, T => by
    by_cases c : a < n
    · by_cases c1 : (cRd t N a n).1
      · by_cases c2 : dV O G F E Z P R C T (mSg t a n) ((cRd t N a n).2.2 0) ((cRd t N a n).2.2 1) ((cRd t N a n).2.2 2) < 0
        · rw [cRun_f c c1 c2]
          have e : u1 (u1 (u1 x 4 a) 5 2) 6 (dV O G F E Z P R C T (mSg t a n) ((cRd t N a n).2.2 0) ((cRd t N a n).2.2 1) ((cRd t N a n).2.2 2)) 3 = x 3 := by rw [u1_n (by omega), u1_n (by omega), u1_n (by omega)]
          exact ⟨Int.le_of_eq e.symm, Int.le_trans (Int.le_of_eq e) (by omega)⟩
        · rw [cRun_s c c1 c2]
          have ih := cRun_3 (t := t) (n := n) k (cRd t N a n).2.1 (u1 x 3 (x 3 + 1)) (u1 (u1 g 1 (mSg t a n)) 2 (cRd t N a n).2.1) (cRd t N a n).2.2 (dO O G F E Z P R C T (mSg t a n) ((cRd t N a n).2.2 0) ((cRd t N a n).2.2 1) ((cRd t N a n).2.2 2)) (dG O G F E Z P R C T (mSg t a n) ((cRd t N a n).2.2 0) ((cRd t N a n).2.2 1) ((cRd t N a n).2.2 2)) (dF O G F E Z P R C T (mSg t a n) ((cRd t N a n).2.2 0) ((cRd t N a n).2.2 1) ((cRd t N a n).2.2 2)) (dE O G F E Z P R C T (mSg t a n) ((cRd t N a n).2.2 0) ((cRd t N a n).2.2 1) ((cRd t N a n).2.2 2)) (dZ O G F E Z P R C T (mSg t a n) ((cRd t N a n).2.2 0) ((cRd t N a n).2.2 1) ((cRd t N a n).2.2 2)) (dP O G F E Z P R C T (mSg t a n) ((cRd t N a n).2.2 0) ((cRd t N a n).2.2 1) ((cRd t N a n).2.2 2)) (dR O G F E Z P R C T (mSg t a n) ((cRd t N a n).2.2 0) ((cRd t N a n).2.2 1) ((cRd t N a n).2.2 2)) (dC O G F E Z P R C T (mSg t a n) ((cRd t N a n).2.2 0) ((cRd t N a n).2.2 1) ((cRd t N a n).2.2 2)) (dT O G F E Z P R C T (mSg t a n) ((cRd t N a n).2.2 0) ((cRd t N a n).2.2 1) ((cRd t N a n).2.2 2))
          rw [u1_s] at ih
          omega
      · rw [cRun_n c c1]
        have e : u1 (u1 (u1 x 4 a) 5 1) 6 ((cRd t N a n).2.1 - a) 3 = x 3 := by rw [u1_n (by omega), u1_n (by omega), u1_n (by omega)]
        exact ⟨Int.le_of_eq e.symm, Int.le_trans (Int.le_of_eq e) (by omega)⟩
    · rw [cRun_e c]; show x 3 ≤ x 3 ∧ x 3 ≤ _; omega
theorem bShV_rg {O : Nat → Bool} {F E Z P R C : Int → Int} {T : Int → Nat → Bool} (h : IB F E Z P R C) (t r : Int) : -1000002 ≤ bShV O F E Z P R T t r ∧ bShV O F E Z P R T t r ≤ 7 := by
  have hp := bPl_rg h t
  unfold bShV iif
  split <;> try split
  all_goals omega
theorem lk4_148 : LkV RX4 148 yX1_keep cX1_keep 4 none 1 := ⟨tb_288, tb_285, tb_286, tb_287, tb_73, by decide +kernel⟩
theorem lk4_41 : LkV RX4 41 yX4_keepTrial cX4_keepTrial 2 (some .int) 1 := ⟨tb_284, tb_281, tb_283, tb_6, tb_71, by decide +kernel⟩
theorem lk4_127 : LkV RX4 127 yX1_giveBack cX1_giveBack 3 (some .int) 1 := ⟨tb_532, tb_529, tb_530, tb_531, tb_73, by decide +kernel⟩
abbrev r4_keepTrial : Room := { frames := 5, cells := 8, slots := 117, locals := 110 }
set_option maxHeartbeats 4000000 in
set_option maxRecDepth 100000 in
theorem k4_keepTrial (l : Launch) (D : va_G) (cs : Nat → ClassId) (ha hn ht hh hs : Nat → Nat) (v : Int) (b t : Bd) (Q : List Bd) (U : Int) (w : va_W) (hv : -2147483648 ≤ v ∧ v ≤ 2147483647) (hw : HW hh cs Q U w) (hU : U ≤ 1000000) : CX l D cs yX4_keepTrial cX4_keepTrial 2 .int r4_keepTrial 8 117 [.ref (ha 0), .int (iI v)] ((wX ha hn ht hh hs ++ (wb hn cs b ++ wb ht cs t)) ++ w) (fun r w1 => r = iI v ∧ ∃ w2 : va_W, HW hh cs (iif (0 ≤ v) (qPush Q b) Q) (U + 1) w2 ∧ w1 = (wX ha hn ht hh hs ++ (wb hn cs (iif (0 ≤ v) t b) ++ wb ht cs t)) ++ w2) := by
  refine CX_start (own := RX4) (by decide) rfl (Nat.le_of_ble_eq_true rfl) ?_
  intro p e s m args below meth c Q0 A ls hC hl hP hD hA hS hend
  have hl : lv_has ls 2 [(0, .ref (ha 0)), (1, .int (iI v))] := hl
  obtain ⟨H, hH⟩ : ∃ H : Heap, H = s.heap := ⟨_, rfl⟩
  have hS : va_S A s.heap H [] := by rw [hH]; exact hS
  rw [← hH] at hP
  obtain ⟨locs, hlocs⟩ : ∃ locs : List Loc, locs = [] := ⟨_, rfl⟩
  rw [← hlocs] at hS
  suffices hgo : W p l e r4_keepTrial s m args below meth c H locs 0 0 Q0 (F0 m 0 ls []) by rw [← hH, ← hlocs]; exact hgo
  clear hH hlocs
  refine x_il hC hl 1 dX4_keepTrial_0 rfl rfl ?_
  refine x_if_lt hC 26 dX4_keepTrial_1 (by decide) hv (fun c_1 => ?_) (fun c_1 => ?_)
  · refine W.widen (k := 8) (n := 117) (by omega) (by omega) ?_
    refine x_il hC hl 1 dX4_keepTrial_26 rfl rfl ?_
    refine hend H locs 27 ls _ _ ⟨rfl, w, ?_, rfl⟩ ?_ ?_ hS dX4_keepTrial_27
    · rw [iif_f (by omega)]; exact HW_mono hw (by omega)
    · rw [iif_f (by omega)]; exact hP
    · rw [iif_f (by omega)]; exact hD
  · obtain ⟨Gh, Kh, ew, -⟩ := id hw
    refine x_al hC hl 0 dX4_keepTrial_4 rfl rfl ?_
    refine x_get4 (v := .ref (hh 0)) hC hP 0 rfl 2 (by decide) tb_203 rfl rfl dX4_keepTrial_5 ?_
    refine x_al hC hl 0 dX4_keepTrial_8 rfl rfl ?_
    refine x_get4 (v := .ref (hn 0)) hC hP 0 rfl 0 (by decide) tb_201 rfl rfl dX4_keepTrial_9 ?_
    refine x_vY (As := [.ref (hn 0)]) hC (k1_keep l D cs hh hn Q U w b hw hU) lk4_148 (q0 := 17) (ci := 1) rfl (by rw [ew]; rfl) rfl (subX (wr := wX ha hn ht hh hs ++ wb ht cs t) (pm_keep _ _ _ _) hP hD hS hA) hP hS rfl hl.1 rfl (Nat.le_of_ble_eq_true rfl) ⟨rfl, rfl⟩ ⟨Nat.le_of_ble_eq_true rfl, Nat.le_of_ble_eq_true rfl⟩ ⟨Nat.le_of_ble_eq_true rfl, Nat.le_of_ble_eq_true rfl⟩ dX4_keepTrial_12 (fun w1 H locs hpost hP hD hS hz => ?_)
    obtain ⟨w2, hw2, rfl⟩ := hpost
    have hP := vP_perm hP (pm_keep _ _ _ _).symm
    have hD := vD_perm hD (pm_keep _ _ _ _).symm
    refine x_al hC hl 0 dX4_keepTrial_15 rfl rfl ?_
    refine x_get4 (v := .ref (hn 0)) hC hP 0 rfl 0 (by decide) tb_201 rfl rfl dX4_keepTrial_16 ?_
    refine x_al hC hl 0 dX4_keepTrial_19 rfl rfl ?_
    refine x_get4 (v := .ref (ht 0)) hC hP 0 rfl 1 (by decide) tb_202 rfl rfl dX4_keepTrial_20 ?_
    refine x_vV (As := [.ref (ht 0)]) hC (k0_copyFrom l D cs hn ht b.1 b.2.1 b.2.2.1 b.2.2.2.1 b.2.2.2.2.1 b.2.2.2.2.2.1 b.2.2.2.2.2.2.1 b.2.2.2.2.2.2.2.1 b.2.2.2.2.2.2.2.2 t.1 t.2.1 t.2.2.1 t.2.2.2.1 t.2.2.2.2.1 t.2.2.2.2.2.1 t.2.2.2.2.2.2.1 t.2.2.2.2.2.2.2.1 t.2.2.2.2.2.2.2.2) lk4_33 (q0 := 1) (ci := 0) rfl rfl rfl (sub_part (pre' := wX ha hn ht hh hs ++ (wb hn cs t ++ wb ht cs t)) [1, 2, 3, 4, 5, 6, 7, 8, 9, 10, 11, 12, 13, 14, 15, 16] [0] hP hD hS hA (mapE rfl (mapE rfl (mapE rfl (mapE rfl (mapE rfl (mapE rfl (mapE rfl (mapE rfl (mapE rfl (mapE rfl (mapE rfl (mapE rfl (mapE rfl (mapE rfl (mapE rfl (mapE rfl mapN)))))))))))))))) (mapE rfl (mapE rfl (mapE rfl (mapE rfl (mapE rfl (mapE rfl (mapE rfl (mapE rfl (mapE rfl (mapE rfl (mapE rfl (mapE rfl (mapE rfl (mapE rfl (mapE rfl (mapE rfl mapN)))))))))))))))) (by decide) (lenE 17 rfl rfl) (mapG rfl rfl mapM) rfl) hP hS rfl hl.1 rfl (Nat.le_of_ble_eq_true rfl) ⟨rfl, rfl⟩ ⟨Nat.le_of_ble_eq_true rfl, Nat.le_of_ble_eq_true rfl⟩ ⟨Nat.le_of_ble_eq_true rfl, Nat.le_of_ble_eq_true rfl⟩ dX4_keepTrial_23 (fun H locs hP hD hS hHs => ?_)
    refine x_il hC hl 1 dX4_keepTrial_26 rfl rfl ?_
    refine hend H locs 27 ls _ _ ⟨rfl, w2, ?_, rfl⟩ ?_ ?_ hS dX4_keepTrial_27
    · rw [iif_t (by omega)]; exact hw2
    · rw [iif_t (by omega)]; exact hP
    · rw [iif_t (by omega)]; exact hD
abbrev r4_undo : Room := { frames := 4, cells := 0, slots := 0, locals := 110 }
set_option maxHeartbeats 4000000 in
set_option maxRecDepth 100000 in
theorem k4_undo (l : Launch) (D : va_G) (cs : Nat → ClassId) (ha hn ht hh hs : Nat → Nat) (b : Bd) (Q : List Bd) (U : Int) (w : va_W) (hw : HW hh cs Q U w) (hU : U ≤ 1000000) : CX l D cs yX4_undo cX4_undo 1 .int r4_undo 0 0 [.ref (ha 0)] ((wX ha hn ht hh hs ++ wb hn cs b) ++ w) (fun v w1 => (Q = [] ∧ v = iI (-1000002) ∧ w1 = wX ha hn ht hh hs ++ (w ++ wb hn cs b)) ∨ ∃ (Q2 : List Bd) (c : Bd) (w2 : va_W), Q = Q2 ++ [c] ∧ v = iI (Q2.length : Int) ∧ HW hh cs Q2 U w2 ∧ w1 = wX ha hn ht hh hs ++ (w2 ++ wb hn cs c)) := by
  refine CX_start (own := RX4) (by decide) rfl (Nat.le_of_ble_eq_true rfl) ?_
  intro p e s m args below meth c Q0 A ls hC hl hP hD hA hS hend
  have hl : lv_has ls 1 [(0, .ref (ha 0))] := hl
  obtain ⟨H, hH⟩ : ∃ H : Heap, H = s.heap := ⟨_, rfl⟩
  have hS : va_S A s.heap H [] := by rw [hH]; exact hS
  rw [← hH] at hP
  obtain ⟨locs, hlocs⟩ : ∃ locs : List Loc, locs = [] := ⟨_, rfl⟩
  rw [← hlocs] at hS
  suffices hgo : W p l e r4_undo s m args below meth c H locs 0 0 Q0 (F0 m 0 ls []) by rw [← hH, ← hlocs]; exact hgo
  clear hH hlocs
  obtain ⟨Gh, Kh, ew, -⟩ := id hw
  refine x_al hC hl 0 dX4_undo_0 rfl rfl ?_
  refine x_get4 (v := .ref (hh 0)) hC hP 0 rfl 2 (by decide) tb_203 rfl rfl dX4_undo_1 ?_
  refine x_al hC hl 0 dX4_undo_4 rfl rfl ?_
  refine x_get4 (v := .ref (hn 0)) hC hP 0 rfl 0 (by decide) tb_201 rfl rfl dX4_undo_5 ?_
  refine x_vX (As := [.ref (hn 0)]) hC (k1_giveBack l D cs hh hn Q U w b hw hU) lk4_127 (q0 := 9) (ci := 1) rfl (by rw [ew]; rfl) rfl (subX (wr := wX ha hn ht hh hs) (by rw [List.append_assoc]; exact List.Perm.append_left _ List.perm_append_comm) hP hD hS hA) hP hS rfl hl.1 rfl (Nat.le_of_ble_eq_true rfl) ⟨rfl, rfl⟩ ⟨Nat.le_of_ble_eq_true rfl, Nat.le_of_ble_eq_true rfl⟩ ⟨Nat.le_of_ble_eq_true rfl, Nat.le_of_ble_eq_true rfl⟩ dX4_undo_8 (fun v w1 H locs hpost hP hD hS hz => ?_)
  refine hend H locs 11 ls v _ ?_ hP hD hS dX4_undo_11
  rcases hpost with ⟨a1, a2, a3⟩ | ⟨Q2, c2, w2, a1, a2, a3, a4⟩
  · exact Or.inl ⟨a1, a2, by rw [a3]⟩
  · exact Or.inr ⟨Q2, c2, w2, a1, a2, a3, by rw [a4]⟩
