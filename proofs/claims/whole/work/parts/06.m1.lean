theorem lk5_30 : LkS RX5 30 yX5_in cX5_in 3 (some .boolean) 3 := ⟨tb_682, tb_680, tb_681, tb_76, by decide +kernel⟩
theorem lk5_34 : LkV RX5 34 yX5_of cX5_of 3 (some .int) 2 := ⟨tb_699, tb_696, tb_698, tb_32, tb_76, by decide +kernel⟩
theorem lk5_38 : LkV RX5 38 yX5_room0 cX5_room0 3 (some .int) 2 := ⟨tb_695, tb_692, tb_694, tb_31, tb_76, by decide +kernel⟩
abbrev r5_in : Room := { frames := 0, cells := 0, slots := 0, locals := 0 }
set_option maxHeartbeats 4000000 in
set_option maxRecDepth 100000 in
theorem k5_in (l : Launch) (D : va_G) (cs : Nat → ClassId) (v : Int) (least : Int) (most : Int) (r1 : -2147483648 ≤ v ∧ v ≤ 2147483647) (r2 : -2147483648 ≤ least ∧ least ≤ 2147483647) (r3 : -2147483648 ≤ most ∧ most ≤ 2147483647) : CI l D cs yX5_in cX5_in 3 .boolean r5_in 0 0 [.int (iI v), .int (iI least), .int (iI most)] (([] : va_W)) (([] : va_W)) (iI (b2p (least ≤ v ∧ v ≤ most))) := by
  refine CI_start (own := RX5) (by decide) rfl b2p_nar (Nat.le_of_ble_eq_true rfl) ?_
  intro p e s m args below meth c Q A ls hC hl hP hD hA hS hend
  have hl : lv_has ls 3 [(0, .int (iI v)), (1, .int (iI least)), (2, .int (iI most))] := hl
  obtain ⟨H, hH⟩ : ∃ H : Heap, H = s.heap := ⟨_, rfl⟩
  have hS : va_S A s.heap H [] := by rw [hH]; exact hS
  rw [← hH] at hP
  obtain ⟨locs, hlocs⟩ : ∃ locs : List Loc, locs = [] := ⟨_, rfl⟩
  rw [← hlocs] at hS
  suffices hgo : W p l e r5_in s m args below meth c H locs 0 0 Q (F0 m 0 ls []) by rw [← hH, ← hlocs]; exact hgo
  clear hH hlocs
  refine x_il hC hl 0 dX5_in_0 rfl rfl ?_
  refine x_il hC hl 1 dX5_in_1 rfl rfl ?_
  refine x_ic_lt hC 14 dX5_in_2 (by decide) (by omega) (by omega) (fun c_2 => ?_) (fun c_2 => ?_)
  · refine x_ic hC dX5_in_14 ?_
    exact x_retI (congrArg iI (b2p_f (by omega)).symm) hend hP hD hS dX5_in_15
  · refine x_il hC hl 0 dX5_in_5 rfl rfl ?_
    refine x_il hC hl 2 dX5_in_6 rfl rfl ?_
    refine x_ic_gt hC 14 dX5_in_7 (by decide) (by omega) (by omega) (fun c_7 => ?_) (fun c_7 => ?_)
    · refine x_ic hC dX5_in_14 ?_
      exact x_retI (congrArg iI (b2p_f (by omega)).symm) hend hP hD hS dX5_in_15
    · refine x_ic hC dX5_in_10 ?_
      refine x_goto hC 15 dX5_in_11 (by decide) ?_
      exact x_retI (congrArg iI (b2p_t (by omega)).symm) hend hP hD hS dX5_in_15
abbrev r5_isRoom : Room := { frames := 1, cells := 0, slots := 0, locals := 22 }
set_option maxHeartbeats 4000000 in
set_option maxRecDepth 100000 in
theorem k5_isRoom (l : Launch) (D : va_G) (cs : Nat → ClassId) (room : Int) (r1 : -2147483648 ≤ room ∧ room ≤ 2147483647) : CI l D cs yX5_isRoom cX5_isRoom 1 .boolean r5_isRoom 0 0 [.int (iI room)] (([] : va_W)) (([] : va_W)) (iI (b2p (0 ≤ room ∧ room ≤ 7))) := by
  refine CI_start (own := RX5) (by decide) rfl b2p_nar (Nat.le_of_ble_eq_true rfl) ?_
  intro p e s m args below meth c Q A ls hC hl hP hD hA hS hend
  have hl : lv_has ls 1 [(0, .int (iI room))] := hl
  obtain ⟨H, hH⟩ : ∃ H : Heap, H = s.heap := ⟨_, rfl⟩
  have hS : va_S A s.heap H [] := by rw [hH]; exact hS
  rw [← hH] at hP
  obtain ⟨locs, hlocs⟩ : ∃ locs : List Loc, locs = [] := ⟨_, rfl⟩
  rw [← hlocs] at hS
  suffices hgo : W p l e r5_isRoom s m args below meth c H locs 0 0 Q (F0 m 0 ls []) by rw [← hH, ← hlocs]; exact hgo
  clear hH hlocs
  refine x_il hC hl 0 dX5_isRoom_0 rfl rfl ?_
  refine x_ic hC dX5_isRoom_1 ?_
  refine x_bi hC dX5_isRoom_2 (by decide) ?_
  refine x_sI (As := [.int (iI room), .int (iI 0), .int (iI 7)]) hC (k5_in l D cs room 0 7 (by first | assumption | omega) (by first | assumption | omega) (by first | assumption | omega)) lk5_30 (sub_none hP hD hS hA) hP hS rfl hl.1 rfl (Nat.le_of_ble_eq_true rfl) ⟨rfl, rfl⟩ ⟨Nat.le_of_ble_eq_true rfl, Nat.le_of_ble_eq_true rfl⟩ ⟨Nat.le_of_ble_eq_true rfl, Nat.le_of_ble_eq_true rfl⟩ dX5_isRoom_4 (fun H locs hP hD hS hHs => ?_)
  exact x_retI (rfl) hend hP hD hS dX5_isRoom_7
abbrev r5_of : Room := { frames := 0, cells := 0, slots := 0, locals := 0 }
set_option maxHeartbeats 4000000 in
set_option maxRecDepth 100000 in
theorem k5_of (l : Launch) (D : va_G) (cs : Nat → ClassId) (h : Nat → Nat) (mF : Int → Int) (mS : Int → Int) (mA : Int → Int) (mV : Int → Int) (mT : Int → Int) (mB : Int → Int) (talk : Int) (what : Int) (hI : IM mS) (h1 : 0 ≤ talk ∧ talk < 20) (h2 : 0 ≤ what ∧ what ≤ 3) : CI l D cs yX5_of cX5_of 3 .int r5_of 0 0 [.ref (h 0), .int (iI talk), .int (iI what)] (wM h cs mF mS mA mV mT mB) (wM h cs mF mS mA mV mT mB) (iI (mS (29 + 4 * talk + what))) := by
  refine CI_start (own := RX5) (by decide) rfl rfl (Nat.le_of_ble_eq_true rfl) ?_
  intro p e s m args below meth c Q A ls hC hl hP hD hA hS hend
  have hl : lv_has ls 3 [(0, .ref (h 0)), (1, .int (iI talk)), (2, .int (iI what))] := hl
  obtain ⟨H, hH⟩ : ∃ H : Heap, H = s.heap := ⟨_, rfl⟩
  have hS : va_S A s.heap H [] := by rw [hH]; exact hS
  rw [← hH] at hP
  obtain ⟨locs, hlocs⟩ : ∃ locs : List Loc, locs = [] := ⟨_, rfl⟩
  rw [← hlocs] at hS
  suffices hgo : W p l e r5_of s m args below meth c H locs 0 0 Q (F0 m 0 ls []) by rw [← hH, ← hlocs]; exact hgo
  clear hH hlocs
  refine x_al hC hl 0 dX5_of_0 rfl rfl ?_
  refine x_get5 (v := .ref (h 1)) hC hP 0 rfl 1 (by decide) tb_620 rfl rfl dX5_of_1 ?_
  refine x_bi hC dX5_of_4 (by decide) ?_
  refine x_ic hC dX5_of_6 ?_
  refine x_il hC hl 1 dX5_of_7 rfl rfl ?_
  refine x_imul hC dX5_of_8 ?_
  refine x_iadd hC dX5_of_9 ?_
  refine x_il hC hl 2 dX5_of_10 rfl rfl ?_
  refine x_iadd hC dX5_of_11 ?_
  refine x_iald hC hP 1 rfl (by omega) (by decide) dX5_of_12 ?_
  exact x_retI (congrArg iI (by first | rfl | omega | grind : mS ((29 + (4 * talk)) + what) = mS (29 + 4 * talk + what))) hend hP hD hS dX5_of_13
abbrev r5_room0 : Room := { frames := 0, cells := 0, slots := 0, locals := 0 }
set_option maxHeartbeats 4000000 in
set_option maxRecDepth 100000 in
theorem k5_room0 (l : Launch) (D : va_G) (cs : Nat → ClassId) (h : Nat → Nat) (mF : Int → Int) (mS : Int → Int) (mA : Int → Int) (mV : Int → Int) (mT : Int → Int) (mB : Int → Int) (room : Int) (what : Int) (hI : IM mS) (h1 : 0 ≤ room ∧ room < 8) (h2 : 0 ≤ what ∧ what ≤ 2) : CI l D cs yX5_room0 cX5_room0 3 .int r5_room0 0 0 [.ref (h 0), .int (iI room), .int (iI what)] (wM h cs mF mS mA mV mT mB) (wM h cs mF mS mA mV mT mB) (iI (mS (5 + 3 * room + what))) := by
  refine CI_start (own := RX5) (by decide) rfl rfl (Nat.le_of_ble_eq_true rfl) ?_
  intro p e s m args below meth c Q A ls hC hl hP hD hA hS hend
  have hl : lv_has ls 3 [(0, .ref (h 0)), (1, .int (iI room)), (2, .int (iI what))] := hl
  obtain ⟨H, hH⟩ : ∃ H : Heap, H = s.heap := ⟨_, rfl⟩
  have hS : va_S A s.heap H [] := by rw [hH]; exact hS
  rw [← hH] at hP
  obtain ⟨locs, hlocs⟩ : ∃ locs : List Loc, locs = [] := ⟨_, rfl⟩
  rw [← hlocs] at hS
  suffices hgo : W p l e r5_room0 s m args below meth c H locs 0 0 Q (F0 m 0 ls []) by rw [← hH, ← hlocs]; exact hgo
  clear hH hlocs
  refine x_al hC hl 0 dX5_room0_0 rfl rfl ?_
  refine x_get5 (v := .ref (h 1)) hC hP 0 rfl 1 (by decide) tb_620 rfl rfl dX5_room0_1 ?_
  refine x_ic hC dX5_room0_4 ?_
  refine x_ic hC dX5_room0_5 ?_
  refine x_il hC hl 1 dX5_room0_6 rfl rfl ?_
  refine x_imul hC dX5_room0_7 ?_
  refine x_iadd hC dX5_room0_8 ?_
  refine x_il hC hl 2 dX5_room0_9 rfl rfl ?_
  refine x_iadd hC dX5_room0_10 ?_
  refine x_iald hC hP 1 rfl (by omega) (by decide) dX5_room0_11 ?_
  exact x_retI (congrArg iI (by first | rfl | omega | grind : mS ((5 + (3 * room)) + what) = mS (5 + 3 * room + what))) hend hP hD hS dX5_room0_12
abbrev r5_isTalk : Room := { frames := 1, cells := 0, slots := 0, locals := 22 }
set_option maxHeartbeats 4000000 in
set_option maxRecDepth 100000 in
theorem k5_isTalk (l : Launch) (D : va_G) (cs : Nat → ClassId) (h : Nat → Nat) (mF : Int → Int) (mS : Int → Int) (mA : Int → Int) (mV : Int → Int) (mT : Int → Int) (mB : Int → Int) (talk : Int) (hI : IM mS) (r1 : -2147483648 ≤ talk ∧ talk ≤ 2147483647) : CI l D cs yX5_isTalk cX5_isTalk 2 .boolean r5_isTalk 0 0 [.ref (h 0), .int (iI talk)] (wM h cs mF mS mA mV mT mB) (wM h cs mF mS mA mV mT mB) (iI (b2p (mTalkP mS talk))) := by
  refine CI_start (own := RX5) (by decide) rfl b2p_nar (Nat.le_of_ble_eq_true rfl) ?_
  intro p e s m args below meth c Q A ls hC hl hP hD hA hS hend
  have hl : lv_has ls 2 [(0, .ref (h 0)), (1, .int (iI talk))] := hl
  obtain ⟨H, hH⟩ : ∃ H : Heap, H = s.heap := ⟨_, rfl⟩
  have hS : va_S A s.heap H [] := by rw [hH]; exact hS
  rw [← hH] at hP
  obtain ⟨locs, hlocs⟩ : ∃ locs : List Loc, locs = [] := ⟨_, rfl⟩
  rw [← hlocs] at hS
  suffices hgo : W p l e r5_isTalk s m args below meth c H locs 0 0 Q (F0 m 0 ls []) by rw [← hH, ← hlocs]; exact hgo
  clear hH hlocs
  obtain ⟨z0, z1, -⟩ := id hI
  refine x_il hC hl 1 dX5_isTalk_0 rfl rfl ?_
  refine x_ic hC dX5_isTalk_1 ?_
  refine x_al hC hl 0 dX5_isTalk_2 rfl rfl ?_
  refine x_get5 (v := .ref (h 1)) hC hP 0 rfl 1 (by decide) tb_620 rfl rfl dX5_isTalk_3 ?_
  refine x_ic hC dX5_isTalk_6 ?_
  refine x_iald hC hP 1 rfl (by omega) (by decide) dX5_isTalk_7 ?_
  refine x_ic hC dX5_isTalk_8 ?_
  refine x_isub hC dX5_isTalk_9 ?_
  refine x_sI (As := [.int (iI talk), .int (iI 0), .int (iI ((mS 1) - 1))]) hC (k5_in l D cs talk 0 ((mS 1) - 1) (by first | assumption | omega) (by first | assumption | omega) (by first | assumption | omega)) lk5_30 (sub_none hP hD hS hA) hP hS rfl hl.1 rfl (Nat.le_of_ble_eq_true rfl) ⟨rfl, rfl⟩ ⟨Nat.le_of_ble_eq_true rfl, Nat.le_of_ble_eq_true rfl⟩ ⟨Nat.le_of_ble_eq_true rfl, Nat.le_of_ble_eq_true rfl⟩ dX5_isTalk_10 (fun H locs hP hD hS hHs => ?_)
  refine x_if_eq_b hC 30 dX5_isTalk_13 (by decide) (fun c_13 => ?_) (fun c_13 => ?_)
  · refine x_ic hC dX5_isTalk_30 ?_
    exact x_retI (congrArg iI (b2p_f (by unfold mTalkP; omega)).symm) hend hP hD hS dX5_isTalk_31
  · refine x_al hC hl 0 dX5_isTalk_16 rfl rfl ?_
    refine x_il hC hl 1 dX5_isTalk_17 rfl rfl ?_
    refine x_ic hC dX5_isTalk_18 ?_
    refine x_vI (As := [.int (iI talk), .int (iI 3)]) hC (k5_of l D cs h mF mS mA mV mT mB talk 3 (by first | assumption | omega) (by first | assumption | omega) (by first | assumption | omega)) lk5_34 (q0 := 0) (ci := 5) rfl rfl rfl (sub_all hP hD hS hA) hP hS rfl hl.1 rfl (Nat.le_of_ble_eq_true rfl) ⟨rfl, rfl⟩ ⟨Nat.le_of_ble_eq_true rfl, Nat.le_of_ble_eq_true rfl⟩ ⟨Nat.le_of_ble_eq_true rfl, Nat.le_of_ble_eq_true rfl⟩ dX5_isTalk_19 (fun H locs hP hD hS hHs => ?_)
    have q_19 := imB (S := mS) (by assumption) (29 + 4 * talk + 3) (by omega)
    refine x_ic hC dX5_isTalk_22 ?_
    refine x_ic_eq hC 30 dX5_isTalk_23 (by decide) (by omega) (by omega) (fun c_23 => ?_) (fun c_23 => ?_)
    · refine x_ic hC dX5_isTalk_30 ?_
      exact x_retI (congrArg iI (b2p_f (by unfold mTalkP; omega)).symm) hend hP hD hS dX5_isTalk_31
    · refine x_ic hC dX5_isTalk_26 ?_
      refine x_goto hC 31 dX5_isTalk_27 (by decide) ?_
      exact x_retI (congrArg iI (b2p_t (by unfold mTalkP; omega)).symm) hend hP hD hS dX5_isTalk_31
abbrev r5_isOpen : Room := { frames := 1, cells := 0, slots := 0, locals := 22 }
set_option maxHeartbeats 4000000 in
set_option maxRecDepth 100000 in
theorem k5_isOpen (l : Launch) (D : va_G) (cs : Nat → ClassId) (h : Nat → Nat) (mF : Int → Int) (mS : Int → Int) (mA : Int → Int) (mV : Int → Int) (mT : Int → Int) (mB : Int → Int) (room : Int) (hI : IM mS) (h1 : 0 ≤ room ∧ room < 8) : CI l D cs yX5_isOpen cX5_isOpen 2 .boolean r5_isOpen 0 0 [.ref (h 0), .int (iI room)] (wM h cs mF mS mA mV mT mB) (wM h cs mF mS mA mV mT mB) (iI (b2p (mS (5 + 3 * room + 2) = 1))) := by
  refine CI_start (own := RX5) (by decide) rfl b2p_nar (Nat.le_of_ble_eq_true rfl) ?_
  intro p e s m args below meth c Q A ls hC hl hP hD hA hS hend
  have hl : lv_has ls 2 [(0, .ref (h 0)), (1, .int (iI room))] := hl
  obtain ⟨H, hH⟩ : ∃ H : Heap, H = s.heap := ⟨_, rfl⟩
  have hS : va_S A s.heap H [] := by rw [hH]; exact hS
  rw [← hH] at hP
  obtain ⟨locs, hlocs⟩ : ∃ locs : List Loc, locs = [] := ⟨_, rfl⟩
  rw [← hlocs] at hS
  suffices hgo : W p l e r5_isOpen s m args below meth c H locs 0 0 Q (F0 m 0 ls []) by rw [← hH, ← hlocs]; exact hgo
  clear hH hlocs
  refine x_al hC hl 0 dX5_isOpen_0 rfl rfl ?_
  refine x_il hC hl 1 dX5_isOpen_1 rfl rfl ?_
  refine x_ic hC dX5_isOpen_2 ?_
  refine x_vI (As := [.int (iI room), .int (iI 2)]) hC (k5_room0 l D cs h mF mS mA mV mT mB room 2 (by first | assumption | omega) (by first | assumption | omega) (by first | assumption | omega)) lk5_38 (q0 := 0) (ci := 5) rfl rfl rfl (sub_all hP hD hS hA) hP hS rfl hl.1 rfl (Nat.le_of_ble_eq_true rfl) ⟨rfl, rfl⟩ ⟨Nat.le_of_ble_eq_true rfl, Nat.le_of_ble_eq_true rfl⟩ ⟨Nat.le_of_ble_eq_true rfl, Nat.le_of_ble_eq_true rfl⟩ dX5_isOpen_3 (fun H locs hP hD hS hHs => ?_)
  have q_3 := imB (S := mS) (by assumption) (5 + 3 * room + 2) (by omega)
  refine x_ic hC dX5_isOpen_6 ?_
  refine x_ic_ne hC 14 dX5_isOpen_7 (by decide) (by omega) (by omega) (fun c_7 => ?_) (fun c_7 => ?_)
  · refine x_ic hC dX5_isOpen_14 ?_
    exact x_retI (congrArg iI (b2p_f (by omega)).symm) hend hP hD hS dX5_isOpen_15
  · refine x_ic hC dX5_isOpen_10 ?_
    refine x_goto hC 15 dX5_isOpen_11 (by decide) ?_
    exact x_retI (congrArg iI (b2p_t (by omega)).symm) hend hP hD hS dX5_isOpen_15
abbrev r5_talkAt : Room := { frames := 1, cells := 0, slots := 0, locals := 22 }
set_option maxHeartbeats 4000000 in
set_option maxRecDepth 100000 in
theorem k5_talkAt (l : Launch) (D : va_G) (cs : Nat → ClassId) (h : Nat → Nat) (mF : Int → Int) (mS : Int → Int) (mA : Int → Int) (mV : Int → Int) (mT : Int → Int) (mB : Int → Int) (room : Int) (hour : Int) (hI : IM mS) (h1 : 0 ≤ room ∧ room < 8) (h2 : 0 ≤ hour ∧ hour < 48) : CI l D cs yX5_talkAt cX5_talkAt 4 .int r5_talkAt 0 0 [.ref (h 0), .int (iI room), .int (iI hour)] (wM h cs mF mS mA mV mT mB) (wM h cs mF mS mA mV mT mB) (iI (mTalkAt mS room hour)) := by
  refine CI_start (own := RX5) (by decide) rfl rfl (Nat.le_of_ble_eq_true rfl) ?_
  intro p e s m args below meth c Q A ls hC hl hP hD hA hS hend
  have hl : lv_has ls 4 [(0, .ref (h 0)), (1, .int (iI room)), (2, .int (iI hour))] := hl
  obtain ⟨H, hH⟩ : ∃ H : Heap, H = s.heap := ⟨_, rfl⟩
  have hS : va_S A s.heap H [] := by rw [hH]; exact hS
  rw [← hH] at hP
  obtain ⟨locs, hlocs⟩ : ∃ locs : List Loc, locs = [] := ⟨_, rfl⟩
  rw [← hlocs] at hS
  suffices hgo : W p l e r5_talkAt s m args below meth c H locs 0 0 Q (F0 m 0 ls []) by rw [← hH, ← hlocs]; exact hgo
  clear hH hlocs
  obtain ⟨z0, z1, -⟩ := id hI
  refine x_ic hC dX5_talkAt_0 ?_
  refine x_is hC [(3, .int (iI 0)), (0, .ref (h 0)), (1, .int (iI room)), (2, .int (iI hour))] hl dX5_talkAt_1 rfl (by decide) rfl (fun ls hl => ?_)
  have loop_2 : ∀ (n : Nat) (i : Int), (hi0 : 0 ≤ i) → (hiN : i ≤ mS 1) → (hf : fstI (fun t => mS (29 + 4 * t + 3) = room ∧ mS (29 + 4 * t + 0) ≤ hour ∧ hour ≤ mS (29 + 4 * t + 1) - 1) (-1000004) (mS 1 - i).toNat i = mTalkAt mS room hour) → ((mS 1) - i) < (n : Int) → ∀ (H : Heap) (locs : List Loc) (ls : Array Slot), va_P D vwCl (wM h cs mF mS mA mV mT mB) H → va_D A (wM h cs mF mS mA mV mT mB) → va_S A s.heap H locs → lv_has ls 4 [(3, .int (iI i)), (0, .ref (h 0)), (1, .int (iI room)), (2, .int (iI hour))] → W p l e r5_talkAt s m args below meth c H locs 0 0 Q (F0 m 2 ls []) := by
    intro n
    induction n with
    | zero =>
      intro i hi0 hiN hf hnn
      exfalso; omega
    | succ n ih_2 =>
      intro i hi0 hiN hf hnn H locs ls hP hD hS hl
      refine x_il hC hl 0 dX5_talkAt_2 rfl rfl ?_
      refine x_al hC hl 1 dX5_talkAt_3 rfl rfl ?_
      refine x_get5 (v := .ref (h 1)) hC hP 0 rfl 1 (by decide) tb_620 rfl rfl dX5_talkAt_4 ?_
      refine x_ic hC dX5_talkAt_7 ?_
      refine x_iald hC hP 1 rfl (by omega) (by decide) dX5_talkAt_8 ?_
      refine x_ic_ge hC 51 dX5_talkAt_9 (by decide) (by omega) (by omega) (fun c_9 => ?_) (fun c_9 => ?_)
      · obtain rfl : i = mS 1 := by omega
        refine x_ldc hC (-1000004) tb_836 (by decide) dX5_talkAt_51 ?_
        exact x_retI (congrArg iI (by exact (fstI_e (by omega)).symm.trans hf : (-1000004) = mTalkAt mS room hour)) hend hP hD hS dX5_talkAt_53
      · refine x_al hC hl 1 dX5_talkAt_12 rfl rfl ?_
        refine x_il hC hl 0 dX5_talkAt_13 rfl rfl ?_
        refine x_ic hC dX5_talkAt_14 ?_
        refine x_vI (As := [.int (iI i), .int (iI 3)]) hC (k5_of l D cs h mF mS mA mV mT mB i 3 (by first | assumption | omega) (by first | assumption | omega) (by first | assumption | omega)) lk5_34 (q0 := 0) (ci := 5) rfl rfl rfl (sub_all hP hD hS hA) hP hS rfl hl.1 rfl (Nat.le_of_ble_eq_true rfl) ⟨rfl, rfl⟩ ⟨Nat.le_of_ble_eq_true rfl, Nat.le_of_ble_eq_true rfl⟩ ⟨Nat.le_of_ble_eq_true rfl, Nat.le_of_ble_eq_true rfl⟩ dX5_talkAt_15 (fun H locs hP hD hS hHs => ?_)
        have q_15 := imB (S := mS) (by assumption) (29 + 4 * i + 3) (by omega)
        refine x_il hC hl 2 dX5_talkAt_18 rfl rfl ?_
        refine x_ic_ne hC 45 dX5_talkAt_19 (by decide) (by omega) (by omega) (fun c_19 => ?_) (fun c_19 => ?_)
        · refine x_iinc hC [(3, .int (iI (i + 1))), (0, .ref (h 0)), (1, .int (iI room)), (2, .int (iI hour))] 0 hl dX5_talkAt_45 rfl (by decide) rfl (fun ls hl => ?_)
          refine x_goto hC 2 dX5_talkAt_48 (by decide) ?_
          have hl := lv_sub (l' := [(3, .int (iI (i + 1))), (0, .ref (h 0)), (1, .int (iI room)), (2, .int (iI hour))]) hl [0, 1, 2, 3] rfl
          exact ih_2 (i + 1) (by omega) (by omega) ((fstI_f (by omega) (by omega)).symm.trans hf) (by omega) H locs ls hP hD hS hl
        · refine x_il hC hl 3 dX5_talkAt_22 rfl rfl ?_
          refine x_al hC hl 1 dX5_talkAt_23 rfl rfl ?_
          refine x_il hC hl 0 dX5_talkAt_24 rfl rfl ?_
          refine x_ic hC dX5_talkAt_25 ?_
          refine x_vI (As := [.int (iI i), .int (iI 0)]) hC (k5_of l D cs h mF mS mA mV mT mB i 0 (by first | assumption | omega) (by first | assumption | omega) (by first | assumption | omega)) lk5_34 (q0 := 0) (ci := 5) rfl rfl rfl (sub_all hP hD hS hA) hP hS rfl hl.1 rfl (Nat.le_of_ble_eq_true rfl) ⟨rfl, rfl⟩ ⟨Nat.le_of_ble_eq_true rfl, Nat.le_of_ble_eq_true rfl⟩ ⟨Nat.le_of_ble_eq_true rfl, Nat.le_of_ble_eq_true rfl⟩ dX5_talkAt_26 (fun H locs hP hD hS hHs => ?_)
          have q_26 := imB (S := mS) (by assumption) (29 + 4 * i + 0) (by omega)
          refine x_al hC hl 1 dX5_talkAt_29 rfl rfl ?_
          refine x_il hC hl 0 dX5_talkAt_30 rfl rfl ?_
          refine x_ic hC dX5_talkAt_31 ?_
          refine x_vI (As := [.int (iI i), .int (iI 1)]) hC (k5_of l D cs h mF mS mA mV mT mB i 1 (by first | assumption | omega) (by first | assumption | omega) (by first | assumption | omega)) lk5_34 (q0 := 0) (ci := 5) rfl rfl rfl (sub_all hP hD hS hA) hP hS rfl hl.1 rfl (Nat.le_of_ble_eq_true rfl) ⟨rfl, rfl⟩ ⟨Nat.le_of_ble_eq_true rfl, Nat.le_of_ble_eq_true rfl⟩ ⟨Nat.le_of_ble_eq_true rfl, Nat.le_of_ble_eq_true rfl⟩ dX5_talkAt_32 (fun H locs hP hD hS hHs => ?_)
          have q_32 := imB (S := mS) (by assumption) (29 + 4 * i + 1) (by omega)
          refine x_ic hC dX5_talkAt_35 ?_
          refine x_isub hC dX5_talkAt_36 ?_
          refine x_sI (As := [.int (iI hour), .int (iI (mS (29 + 4 * i + 0))), .int (iI ((mS (29 + 4 * i + 1)) - 1))]) hC (k5_in l D cs hour (mS (29 + 4 * i + 0)) ((mS (29 + 4 * i + 1)) - 1) (by first | assumption | omega) (by first | assumption | omega) (by first | assumption | omega)) lk5_30 (sub_none hP hD hS hA) hP hS rfl hl.1 rfl (Nat.le_of_ble_eq_true rfl) ⟨rfl, rfl⟩ ⟨Nat.le_of_ble_eq_true rfl, Nat.le_of_ble_eq_true rfl⟩ ⟨Nat.le_of_ble_eq_true rfl, Nat.le_of_ble_eq_true rfl⟩ dX5_talkAt_37 (fun H locs hP hD hS hHs => ?_)
          refine x_if_eq_b hC 45 dX5_talkAt_40 (by decide) (fun c_40 => ?_) (fun c_40 => ?_)
          · refine x_iinc hC [(3, .int (iI (i + 1))), (0, .ref (h 0)), (1, .int (iI room)), (2, .int (iI hour))] 0 hl dX5_talkAt_45 rfl (by decide) rfl (fun ls hl => ?_)
            refine x_goto hC 2 dX5_talkAt_48 (by decide) ?_
            have hl := lv_sub (l' := [(3, .int (iI (i + 1))), (0, .ref (h 0)), (1, .int (iI room)), (2, .int (iI hour))]) hl [0, 1, 2, 3] rfl
            exact ih_2 (i + 1) (by omega) (by omega) ((fstI_f (by omega) (by omega)).symm.trans hf) (by omega) H locs ls hP hD hS hl
          · refine x_il hC hl 0 dX5_talkAt_43 rfl rfl ?_
            exact x_retI (congrArg iI (by exact (fstI_t (by omega) (by omega)).symm.trans hf : i = mTalkAt mS room hour)) hend hP hD hS dX5_talkAt_44
  have hl := lv_sub (l' := [(3, .int (iI 0)), (0, .ref (h 0)), (1, .int (iI room)), (2, .int (iI hour))]) hl [0, 1, 2, 3] rfl
  exact loop_2 (Int.toNat ((mS 1) - 0) + 1) 0 (by omega) (by omega) rfl (by omega) H locs ls hP hD hS hl
abbrev r5_canBe : Room := { frames := 1, cells := 0, slots := 0, locals := 22 }
set_option maxHeartbeats 4000000 in
set_option maxRecDepth 100000 in
theorem k5_canBe (l : Launch) (D : va_G) (cs : Nat → ClassId) (h : Nat → Nat) (mF : Int → Int) (mS : Int → Int) (mA : Int → Int) (mV : Int → Int) (mT : Int → Int) (mB : Int → Int) (room : Int) (first : Int) (en : Int) (size : Int) (but : Int) (hI : IM mS) (h1 : 0 ≤ room ∧ room < 8) (r2 : -1 ≤ first ∧ first ≤ 99) (r3 : -1 ≤ en ∧ en ≤ 99) (r4 : -1 ≤ size ∧ size ≤ 99) (r5 : -1 ≤ but ∧ but ≤ 20) : CI l D cs yX5_canBe cX5_canBe 8 .boolean r5_canBe 0 0 [.ref (h 0), .int (iI room), .int (iI first), .int (iI en), .int (iI size), .int (iI but)] (wM h cs mF mS mA mV mT mB) (wM h cs mF mS mA mV mT mB) (iI (b2p (mCan mS room first en size but))) := by
  refine CI_start (own := RX5) (by decide) rfl b2p_nar (Nat.le_of_ble_eq_true rfl) ?_
  intro p e s m args below meth c Q A ls hC hl hP hD hA hS hend
  have hl : lv_has ls 8 [(0, .ref (h 0)), (1, .int (iI room)), (2, .int (iI first)), (3, .int (iI en)), (4, .int (iI size)), (5, .int (iI but))] := hl
  obtain ⟨H, hH⟩ : ∃ H : Heap, H = s.heap := ⟨_, rfl⟩
  have hS : va_S A s.heap H [] := by rw [hH]; exact hS
  rw [← hH] at hP
  obtain ⟨locs, hlocs⟩ : ∃ locs : List Loc, locs = [] := ⟨_, rfl⟩
  rw [← hlocs] at hS
  suffices hgo : W p l e r5_canBe s m args below meth c H locs 0 0 Q (F0 m 0 ls []) by rw [← hH, ← hlocs]; exact hgo
  clear hH hlocs
  obtain ⟨z0, z1, -⟩ := id hI
  refine x_al hC hl 0 dX5_canBe_0 rfl rfl ?_
  refine x_il hC hl 1 dX5_canBe_1 rfl rfl ?_
  refine x_ic hC dX5_canBe_2 ?_
  refine x_vI (As := [.int (iI room), .int (iI 0)]) hC (k5_room0 l D cs h mF mS mA mV mT mB room 0 (by first | assumption | omega) (by first | assumption | omega) (by first | assumption | omega)) lk5_38 (q0 := 0) (ci := 5) rfl rfl rfl (sub_all hP hD hS hA) hP hS rfl hl.1 rfl (Nat.le_of_ble_eq_true rfl) ⟨rfl, rfl⟩ ⟨Nat.le_of_ble_eq_true rfl, Nat.le_of_ble_eq_true rfl⟩ ⟨Nat.le_of_ble_eq_true rfl, Nat.le_of_ble_eq_true rfl⟩ dX5_canBe_3 (fun H locs hP hD hS hHs => ?_)
  have q_3 := imB (S := mS) (by assumption) (5 + 3 * room + 0) (by omega)
  refine x_ilw hC hl 4 dX5_canBe_6 rfl ?_
  refine x_ic_lt hC 15 dX5_canBe_8 (by decide) (by omega) (by omega) (fun c_8 => ?_) (fun c_8 => ?_)
  · refine x_ic hC dX5_canBe_15 ?_
    refine x_isw hC [(6, .int (iI 0)), (0, .ref (h 0)), (1, .int (iI room)), (2, .int (iI first)), (3, .int (iI en)), (4, .int (iI size)), (5, .int (iI but))] hl dX5_canBe_16 (by decide) rfl (fun ls hl => ?_)
    refine x_ic hC dX5_canBe_18 ?_
    refine x_isw hC [(7, .int (iI 0)), (6, .int (iI 0)), (0, .ref (h 0)), (1, .int (iI room)), (2, .int (iI first)), (3, .int (iI en)), (4, .int (iI size)), (5, .int (iI but))] hl dX5_canBe_19 (by decide) rfl (fun ls hl => ?_)
    have loop_21 : ∀ (n : Nat) (i : Int), (hi0 : 0 ≤ i) → (hiN : i ≤ mS 1) → ((mS 1) - i) < (n : Int) → ∀ (H : Heap) (locs : List Loc) (ls : Array Slot), va_P D vwCl (wM h cs mF mS mA mV mT mB) H → va_D A (wM h cs mF mS mA mV mT mB) → va_S A s.heap H locs → lv_has ls 8 [(7, .int (iI i)), (6, .int (iI (b2p (size ≤ mS (5 + 3 * room + 0) ∧ ∀ t, 0 ≤ t → t < i → (t = but ∨ ¬ mS (29 + 4 * t + 3) = room ∨ en ≤ mS (29 + 4 * t + 0) ∨ mS (29 + 4 * t + 1) ≤ first))))), (0, .ref (h 0)), (1, .int (iI room)), (2, .int (iI first)), (3, .int (iI en)), (4, .int (iI size)), (5, .int (iI but))] → W p l e r5_canBe s m args below meth c H locs 0 0 Q (F0 m 21 ls []) := by
      intro n
      induction n with
      | zero =>
        intro i hi0 hiN hnn
        exfalso; omega
      | succ n ih_21 =>
        intro i hi0 hiN hnn H locs ls hP hD hS hl
        refine x_ilw hC hl 0 dX5_canBe_21 rfl ?_
        refine x_al hC hl 2 dX5_canBe_23 rfl rfl ?_
        refine x_get5 (v := .ref (h 1)) hC hP 0 rfl 1 (by decide) tb_620 rfl rfl dX5_canBe_24 ?_
        refine x_ic hC dX5_canBe_27 ?_
        refine x_iald hC hP 1 rfl (by omega) (by decide) dX5_canBe_28 ?_
        refine x_ic_ge hC 90 dX5_canBe_29 (by decide) (by omega) (by omega) (fun c_29 => ?_) (fun c_29 => ?_)
        · obtain rfl : i = mS 1 := by omega
          refine x_ilw hC hl 1 dX5_canBe_90 rfl ?_
          exact x_retI (congrArg iI (b2p_c (by exact Iff.rfl))) hend hP hD hS dX5_canBe_92
        · refine x_ilw hC hl 1 dX5_canBe_32 rfl ?_
          refine x_if_eq_b hC 81 dX5_canBe_34 (by decide) (fun c_34 => ?_) (fun c_34 => ?_)
          · refine x_ic hC dX5_canBe_81 ?_
            refine x_isw hC [(6, .int (iI 0)), (7, .int (iI i)), (0, .ref (h 0)), (1, .int (iI room)), (2, .int (iI first)), (3, .int (iI en)), (4, .int (iI size)), (5, .int (iI but))] hl dX5_canBe_82 (by decide) rfl (fun ls hl => ?_)
            refine x_iinc hC [(7, .int (iI (i + 1))), (6, .int (iI 0)), (0, .ref (h 0)), (1, .int (iI room)), (2, .int (iI first)), (3, .int (iI en)), (4, .int (iI size)), (5, .int (iI but))] 1 hl dX5_canBe_84 rfl (by decide) rfl (fun ls hl => ?_)
            refine x_goto hC 21 dX5_canBe_87 (by decide) ?_
            have hl : lv_has ls 8 [(7, .int (iI (i + 1))), (6, .int (iI (b2p (size ≤ mS (5 + 3 * room + 0) ∧ ∀ t, 0 ≤ t → t < (i + 1) → (t = but ∨ ¬ mS (29 + 4 * t + 3) = room ∨ en ≤ mS (29 + 4 * t + 0) ∨ mS (29 + 4 * t + 1) ≤ first))))), (0, .ref (h 0)), (1, .int (iI room)), (2, .int (iI first)), (3, .int (iI en)), (4, .int (iI size)), (5, .int (iI but))] := lvE (lv_sub (l' := [(7, .int (iI (i + 1))), (6, .int (iI 0)), (0, .ref (h 0)), (1, .int (iI room)), (2, .int (iI first)), (3, .int (iI en)), (4, .int (iI size)), (5, .int (iI but))]) hl [0, 1, 2, 3, 4, 5, 6, 7] rfl) (lcE rfl (lcE (congrArg (fun z => Value.int (iI z)) (by first | exact (b2p_t (by grind)).symm | exact (b2p_f (by grind)).symm : 0 = b2p (size ≤ mS (5 + 3 * room + 0) ∧ ∀ t, 0 ≤ t → t < (i + 1) → (t = but ∨ ¬ mS (29 + 4 * t + 3) = room ∨ en ≤ mS (29 + 4 * t + 0) ∨ mS (29 + 4 * t + 1) ≤ first)))) (lcE rfl (lcE rfl (lcE rfl (lcE rfl (lcE rfl (lcE rfl (rfl)))))))))
            exact ih_21 (i + 1) (by omega) (by omega) (by omega) H locs ls hP hD hS hl
          · refine x_ilw hC hl 0 dX5_canBe_37 rfl ?_
            refine x_ilw hC hl 7 dX5_canBe_39 rfl ?_
            refine x_ic_eq hC 77 dX5_canBe_41 (by decide) (by omega) (by omega) (fun c_41 => ?_) (fun c_41 => ?_)
            · refine x_ic hC dX5_canBe_77 ?_
              refine x_goto hC 82 dX5_canBe_78 (by decide) ?_
              refine x_isw hC [(6, .int (iI 1)), (7, .int (iI i)), (0, .ref (h 0)), (1, .int (iI room)), (2, .int (iI first)), (3, .int (iI en)), (4, .int (iI size)), (5, .int (iI but))] hl dX5_canBe_82 (by decide) rfl (fun ls hl => ?_)
              refine x_iinc hC [(7, .int (iI (i + 1))), (6, .int (iI 1)), (0, .ref (h 0)), (1, .int (iI room)), (2, .int (iI first)), (3, .int (iI en)), (4, .int (iI size)), (5, .int (iI but))] 1 hl dX5_canBe_84 rfl (by decide) rfl (fun ls hl => ?_)
              refine x_goto hC 21 dX5_canBe_87 (by decide) ?_
              have hl : lv_has ls 8 [(7, .int (iI (i + 1))), (6, .int (iI (b2p (size ≤ mS (5 + 3 * room + 0) ∧ ∀ t, 0 ≤ t → t < (i + 1) → (t = but ∨ ¬ mS (29 + 4 * t + 3) = room ∨ en ≤ mS (29 + 4 * t + 0) ∨ mS (29 + 4 * t + 1) ≤ first))))), (0, .ref (h 0)), (1, .int (iI room)), (2, .int (iI first)), (3, .int (iI en)), (4, .int (iI size)), (5, .int (iI but))] := lvE (lv_sub (l' := [(7, .int (iI (i + 1))), (6, .int (iI 1)), (0, .ref (h 0)), (1, .int (iI room)), (2, .int (iI first)), (3, .int (iI en)), (4, .int (iI size)), (5, .int (iI but))]) hl [0, 1, 2, 3, 4, 5, 6, 7] rfl) (lcE rfl (lcE (congrArg (fun z => Value.int (iI z)) (by first | exact (b2p_t (by grind)).symm | exact (b2p_f (by grind)).symm : 1 = b2p (size ≤ mS (5 + 3 * room + 0) ∧ ∀ t, 0 ≤ t → t < (i + 1) → (t = but ∨ ¬ mS (29 + 4 * t + 3) = room ∨ en ≤ mS (29 + 4 * t + 0) ∨ mS (29 + 4 * t + 1) ≤ first)))) (lcE rfl (lcE rfl (lcE rfl (lcE rfl (lcE rfl (lcE rfl (rfl)))))))))
              exact ih_21 (i + 1) (by omega) (by omega) (by omega) H locs ls hP hD hS hl
            · refine x_al hC hl 2 dX5_canBe_44 rfl rfl ?_
              refine x_ilw hC hl 0 dX5_canBe_45 rfl ?_
              refine x_ic hC dX5_canBe_47 ?_
              refine x_vI (As := [.int (iI i), .int (iI 3)]) hC (k5_of l D cs h mF mS mA mV mT mB i 3 (by first | assumption | omega) (by first | assumption | omega) (by first | assumption | omega)) lk5_34 (q0 := 0) (ci := 5) rfl rfl rfl (sub_all hP hD hS hA) hP hS rfl hl.1 rfl (Nat.le_of_ble_eq_true rfl) ⟨rfl, rfl⟩ ⟨Nat.le_of_ble_eq_true rfl, Nat.le_of_ble_eq_true rfl⟩ ⟨Nat.le_of_ble_eq_true rfl, Nat.le_of_ble_eq_true rfl⟩ dX5_canBe_48 (fun H locs hP hD hS hHs => ?_)
              have q_48 := imB (S := mS) (by assumption) (29 + 4 * i + 3) (by omega)
              refine x_il hC hl 3 dX5_canBe_51 rfl rfl ?_
              refine x_ic_ne hC 77 dX5_canBe_52 (by decide) (by omega) (by omega) (fun c_52 => ?_) (fun c_52 => ?_)
              · refine x_ic hC dX5_canBe_77 ?_
                refine x_goto hC 82 dX5_canBe_78 (by decide) ?_
                refine x_isw hC [(6, .int (iI 1)), (7, .int (iI i)), (0, .ref (h 0)), (1, .int (iI room)), (2, .int (iI first)), (3, .int (iI en)), (4, .int (iI size)), (5, .int (iI but))] hl dX5_canBe_82 (by decide) rfl (fun ls hl => ?_)
                refine x_iinc hC [(7, .int (iI (i + 1))), (6, .int (iI 1)), (0, .ref (h 0)), (1, .int (iI room)), (2, .int (iI first)), (3, .int (iI en)), (4, .int (iI size)), (5, .int (iI but))] 1 hl dX5_canBe_84 rfl (by decide) rfl (fun ls hl => ?_)
                refine x_goto hC 21 dX5_canBe_87 (by decide) ?_
                have hl : lv_has ls 8 [(7, .int (iI (i + 1))), (6, .int (iI (b2p (size ≤ mS (5 + 3 * room + 0) ∧ ∀ t, 0 ≤ t → t < (i + 1) → (t = but ∨ ¬ mS (29 + 4 * t + 3) = room ∨ en ≤ mS (29 + 4 * t + 0) ∨ mS (29 + 4 * t + 1) ≤ first))))), (0, .ref (h 0)), (1, .int (iI room)), (2, .int (iI first)), (3, .int (iI en)), (4, .int (iI size)), (5, .int (iI but))] := lvE (lv_sub (l' := [(7, .int (iI (i + 1))), (6, .int (iI 1)), (0, .ref (h 0)), (1, .int (iI room)), (2, .int (iI first)), (3, .int (iI en)), (4, .int (iI size)), (5, .int (iI but))]) hl [0, 1, 2, 3, 4, 5, 6, 7] rfl) (lcE rfl (lcE (congrArg (fun z => Value.int (iI z)) (by first | exact (b2p_t (by grind)).symm | exact (b2p_f (by grind)).symm : 1 = b2p (size ≤ mS (5 + 3 * room + 0) ∧ ∀ t, 0 ≤ t → t < (i + 1) → (t = but ∨ ¬ mS (29 + 4 * t + 3) = room ∨ en ≤ mS (29 + 4 * t + 0) ∨ mS (29 + 4 * t + 1) ≤ first)))) (lcE rfl (lcE rfl (lcE rfl (lcE rfl (lcE rfl (lcE rfl (rfl)))))))))
                exact ih_21 (i + 1) (by omega) (by omega) (by omega) H locs ls hP hD hS hl
              · refine x_al hC hl 2 dX5_canBe_55 rfl rfl ?_
                refine x_ilw hC hl 0 dX5_canBe_56 rfl ?_
                refine x_ic hC dX5_canBe_58 ?_
                refine x_vI (As := [.int (iI i), .int (iI 0)]) hC (k5_of l D cs h mF mS mA mV mT mB i 0 (by first | assumption | omega) (by first | assumption | omega) (by first | assumption | omega)) lk5_34 (q0 := 0) (ci := 5) rfl rfl rfl (sub_all hP hD hS hA) hP hS rfl hl.1 rfl (Nat.le_of_ble_eq_true rfl) ⟨rfl, rfl⟩ ⟨Nat.le_of_ble_eq_true rfl, Nat.le_of_ble_eq_true rfl⟩ ⟨Nat.le_of_ble_eq_true rfl, Nat.le_of_ble_eq_true rfl⟩ dX5_canBe_59 (fun H locs hP hD hS hHs => ?_)
                have q_59 := imB (S := mS) (by assumption) (29 + 4 * i + 0) (by omega)
                refine x_il hC hl 5 dX5_canBe_62 rfl rfl ?_
                refine x_ic_ge hC 77 dX5_canBe_63 (by decide) (by omega) (by omega) (fun c_63 => ?_) (fun c_63 => ?_)
                · refine x_ic hC dX5_canBe_77 ?_
                  refine x_goto hC 82 dX5_canBe_78 (by decide) ?_
                  refine x_isw hC [(6, .int (iI 1)), (7, .int (iI i)), (0, .ref (h 0)), (1, .int (iI room)), (2, .int (iI first)), (3, .int (iI en)), (4, .int (iI size)), (5, .int (iI but))] hl dX5_canBe_82 (by decide) rfl (fun ls hl => ?_)
                  refine x_iinc hC [(7, .int (iI (i + 1))), (6, .int (iI 1)), (0, .ref (h 0)), (1, .int (iI room)), (2, .int (iI first)), (3, .int (iI en)), (4, .int (iI size)), (5, .int (iI but))] 1 hl dX5_canBe_84 rfl (by decide) rfl (fun ls hl => ?_)
                  refine x_goto hC 21 dX5_canBe_87 (by decide) ?_
                  have hl : lv_has ls 8 [(7, .int (iI (i + 1))), (6, .int (iI (b2p (size ≤ mS (5 + 3 * room + 0) ∧ ∀ t, 0 ≤ t → t < (i + 1) → (t = but ∨ ¬ mS (29 + 4 * t + 3) = room ∨ en ≤ mS (29 + 4 * t + 0) ∨ mS (29 + 4 * t + 1) ≤ first))))), (0, .ref (h 0)), (1, .int (iI room)), (2, .int (iI first)), (3, .int (iI en)), (4, .int (iI size)), (5, .int (iI but))] := lvE (lv_sub (l' := [(7, .int (iI (i + 1))), (6, .int (iI 1)), (0, .ref (h 0)), (1, .int (iI room)), (2, .int (iI first)), (3, .int (iI en)), (4, .int (iI size)), (5, .int (iI but))]) hl [0, 1, 2, 3, 4, 5, 6, 7] rfl) (lcE rfl (lcE (congrArg (fun z => Value.int (iI z)) (by first | exact (b2p_t (by grind)).symm | exact (b2p_f (by grind)).symm : 1 = b2p (size ≤ mS (5 + 3 * room + 0) ∧ ∀ t, 0 ≤ t → t < (i + 1) → (t = but ∨ ¬ mS (29 + 4 * t + 3) = room ∨ en ≤ mS (29 + 4 * t + 0) ∨ mS (29 + 4 * t + 1) ≤ first)))) (lcE rfl (lcE rfl (lcE rfl (lcE rfl (lcE rfl (lcE rfl (rfl)))))))))
                  exact ih_21 (i + 1) (by omega) (by omega) (by omega) H locs ls hP hD hS hl
                · refine x_al hC hl 2 dX5_canBe_66 rfl rfl ?_
                  refine x_ilw hC hl 0 dX5_canBe_67 rfl ?_
                  refine x_ic hC dX5_canBe_69 ?_
                  refine x_vI (As := [.int (iI i), .int (iI 1)]) hC (k5_of l D cs h mF mS mA mV mT mB i 1 (by first | assumption | omega) (by first | assumption | omega) (by first | assumption | omega)) lk5_34 (q0 := 0) (ci := 5) rfl rfl rfl (sub_all hP hD hS hA) hP hS rfl hl.1 rfl (Nat.le_of_ble_eq_true rfl) ⟨rfl, rfl⟩ ⟨Nat.le_of_ble_eq_true rfl, Nat.le_of_ble_eq_true rfl⟩ ⟨Nat.le_of_ble_eq_true rfl, Nat.le_of_ble_eq_true rfl⟩ dX5_canBe_70 (fun H locs hP hD hS hHs => ?_)
                  have q_70 := imB (S := mS) (by assumption) (29 + 4 * i + 1) (by omega)
                  refine x_il hC hl 4 dX5_canBe_73 rfl rfl ?_
                  refine x_ic_gt hC 81 dX5_canBe_74 (by decide) (by omega) (by omega) (fun c_74 => ?_) (fun c_74 => ?_)
                  · refine x_ic hC dX5_canBe_81 ?_
                    refine x_isw hC [(6, .int (iI 0)), (7, .int (iI i)), (0, .ref (h 0)), (1, .int (iI room)), (2, .int (iI first)), (3, .int (iI en)), (4, .int (iI size)), (5, .int (iI but))] hl dX5_canBe_82 (by decide) rfl (fun ls hl => ?_)
                    refine x_iinc hC [(7, .int (iI (i + 1))), (6, .int (iI 0)), (0, .ref (h 0)), (1, .int (iI room)), (2, .int (iI first)), (3, .int (iI en)), (4, .int (iI size)), (5, .int (iI but))] 1 hl dX5_canBe_84 rfl (by decide) rfl (fun ls hl => ?_)
                    refine x_goto hC 21 dX5_canBe_87 (by decide) ?_
                    have hl : lv_has ls 8 [(7, .int (iI (i + 1))), (6, .int (iI (b2p (size ≤ mS (5 + 3 * room + 0) ∧ ∀ t, 0 ≤ t → t < (i + 1) → (t = but ∨ ¬ mS (29 + 4 * t + 3) = room ∨ en ≤ mS (29 + 4 * t + 0) ∨ mS (29 + 4 * t + 1) ≤ first))))), (0, .ref (h 0)), (1, .int (iI room)), (2, .int (iI first)), (3, .int (iI en)), (4, .int (iI size)), (5, .int (iI but))] := lvE (lv_sub (l' := [(7, .int (iI (i + 1))), (6, .int (iI 0)), (0, .ref (h 0)), (1, .int (iI room)), (2, .int (iI first)), (3, .int (iI en)), (4, .int (iI size)), (5, .int (iI but))]) hl [0, 1, 2, 3, 4, 5, 6, 7] rfl) (lcE rfl (lcE (congrArg (fun z => Value.int (iI z)) (by first | exact (b2p_t (by grind)).symm | exact (b2p_f (by grind)).symm : 0 = b2p (size ≤ mS (5 + 3 * room + 0) ∧ ∀ t, 0 ≤ t → t < (i + 1) → (t = but ∨ ¬ mS (29 + 4 * t + 3) = room ∨ en ≤ mS (29 + 4 * t + 0) ∨ mS (29 + 4 * t + 1) ≤ first)))) (lcE rfl (lcE rfl (lcE rfl (lcE rfl (lcE rfl (lcE rfl (rfl)))))))))
                    exact ih_21 (i + 1) (by omega) (by omega) (by omega) H locs ls hP hD hS hl
                  · refine x_ic hC dX5_canBe_77 ?_
                    refine x_goto hC 82 dX5_canBe_78 (by decide) ?_
                    refine x_isw hC [(6, .int (iI 1)), (7, .int (iI i)), (0, .ref (h 0)), (1, .int (iI room)), (2, .int (iI first)), (3, .int (iI en)), (4, .int (iI size)), (5, .int (iI but))] hl dX5_canBe_82 (by decide) rfl (fun ls hl => ?_)
                    refine x_iinc hC [(7, .int (iI (i + 1))), (6, .int (iI 1)), (0, .ref (h 0)), (1, .int (iI room)), (2, .int (iI first)), (3, .int (iI en)), (4, .int (iI size)), (5, .int (iI but))] 1 hl dX5_canBe_84 rfl (by decide) rfl (fun ls hl => ?_)
                    refine x_goto hC 21 dX5_canBe_87 (by decide) ?_
                    have hl : lv_has ls 8 [(7, .int (iI (i + 1))), (6, .int (iI (b2p (size ≤ mS (5 + 3 * room + 0) ∧ ∀ t, 0 ≤ t → t < (i + 1) → (t = but ∨ ¬ mS (29 + 4 * t + 3) = room ∨ en ≤ mS (29 + 4 * t + 0) ∨ mS (29 + 4 * t + 1) ≤ first))))), (0, .ref (h 0)), (1, .int (iI room)), (2, .int (iI first)), (3, .int (iI en)), (4, .int (iI size)), (5, .int (iI but))] := lvE (lv_sub (l' := [(7, .int (iI (i + 1))), (6, .int (iI 1)), (0, .ref (h 0)), (1, .int (iI room)), (2, .int (iI first)), (3, .int (iI en)), (4, .int (iI size)), (5, .int (iI but))]) hl [0, 1, 2, 3, 4, 5, 6, 7] rfl) (lcE rfl (lcE (congrArg (fun z => Value.int (iI z)) (by first | exact (b2p_t (by grind)).symm | exact (b2p_f (by grind)).symm : 1 = b2p (size ≤ mS (5 + 3 * room + 0) ∧ ∀ t, 0 ≤ t → t < (i + 1) → (t = but ∨ ¬ mS (29 + 4 * t + 3) = room ∨ en ≤ mS (29 + 4 * t + 0) ∨ mS (29 + 4 * t + 1) ≤ first)))) (lcE rfl (lcE rfl (lcE rfl (lcE rfl (lcE rfl (lcE rfl (rfl)))))))))
                    exact ih_21 (i + 1) (by omega) (by omega) (by omega) H locs ls hP hD hS hl
    have hl : lv_has ls 8 [(7, .int (iI 0)), (6, .int (iI (b2p (size ≤ mS (5 + 3 * room + 0) ∧ ∀ t, 0 ≤ t → t < 0 → (t = but ∨ ¬ mS (29 + 4 * t + 3) = room ∨ en ≤ mS (29 + 4 * t + 0) ∨ mS (29 + 4 * t + 1) ≤ first))))), (0, .ref (h 0)), (1, .int (iI room)), (2, .int (iI first)), (3, .int (iI en)), (4, .int (iI size)), (5, .int (iI but))] := lvE (lv_sub (l' := [(7, .int (iI 0)), (6, .int (iI 0)), (0, .ref (h 0)), (1, .int (iI room)), (2, .int (iI first)), (3, .int (iI en)), (4, .int (iI size)), (5, .int (iI but))]) hl [0, 1, 2, 3, 4, 5, 6, 7] rfl) (lcE rfl (lcE (congrArg (fun z => Value.int (iI z)) (by first | exact (b2p_t ⟨by omega, fun t h1 h2 => by omega⟩).symm | exact (b2p_f (fun h => by omega)).symm : 0 = b2p (size ≤ mS (5 + 3 * room + 0) ∧ ∀ t, 0 ≤ t → t < 0 → (t = but ∨ ¬ mS (29 + 4 * t + 3) = room ∨ en ≤ mS (29 + 4 * t + 0) ∨ mS (29 + 4 * t + 1) ≤ first)))) (lcE rfl (lcE rfl (lcE rfl (lcE rfl (lcE rfl (lcE rfl (rfl)))))))))
    exact loop_21 (Int.toNat ((mS 1) - 0) + 1) 0 (by omega) (by omega) (by omega) H locs ls hP hD hS hl
  · refine x_ic hC dX5_canBe_11 ?_
    refine x_goto hC 16 dX5_canBe_12 (by decide) ?_
    refine x_isw hC [(6, .int (iI 1)), (0, .ref (h 0)), (1, .int (iI room)), (2, .int (iI first)), (3, .int (iI en)), (4, .int (iI size)), (5, .int (iI but))] hl dX5_canBe_16 (by decide) rfl (fun ls hl => ?_)
    refine x_ic hC dX5_canBe_18 ?_
    refine x_isw hC [(7, .int (iI 0)), (6, .int (iI 1)), (0, .ref (h 0)), (1, .int (iI room)), (2, .int (iI first)), (3, .int (iI en)), (4, .int (iI size)), (5, .int (iI but))] hl dX5_canBe_19 (by decide) rfl (fun ls hl => ?_)
    have loop_21_2 : ∀ (n : Nat) (i : Int), (hi0 : 0 ≤ i) → (hiN : i ≤ mS 1) → ((mS 1) - i) < (n : Int) → ∀ (H : Heap) (locs : List Loc) (ls : Array Slot), va_P D vwCl (wM h cs mF mS mA mV mT mB) H → va_D A (wM h cs mF mS mA mV mT mB) → va_S A s.heap H locs → lv_has ls 8 [(7, .int (iI i)), (6, .int (iI (b2p (size ≤ mS (5 + 3 * room + 0) ∧ ∀ t, 0 ≤ t → t < i → (t = but ∨ ¬ mS (29 + 4 * t + 3) = room ∨ en ≤ mS (29 + 4 * t + 0) ∨ mS (29 + 4 * t + 1) ≤ first))))), (0, .ref (h 0)), (1, .int (iI room)), (2, .int (iI first)), (3, .int (iI en)), (4, .int (iI size)), (5, .int (iI but))] → W p l e r5_canBe s m args below meth c H locs 0 0 Q (F0 m 21 ls []) := by
      intro n
      induction n with
      | zero =>
        intro i hi0 hiN hnn
        exfalso; omega
      | succ n ih_21 =>
        intro i hi0 hiN hnn H locs ls hP hD hS hl
        refine x_ilw hC hl 0 dX5_canBe_21 rfl ?_
        refine x_al hC hl 2 dX5_canBe_23 rfl rfl ?_
        refine x_get5 (v := .ref (h 1)) hC hP 0 rfl 1 (by decide) tb_620 rfl rfl dX5_canBe_24 ?_
        refine x_ic hC dX5_canBe_27 ?_
        refine x_iald hC hP 1 rfl (by omega) (by decide) dX5_canBe_28 ?_
        refine x_ic_ge hC 90 dX5_canBe_29 (by decide) (by omega) (by omega) (fun c_29 => ?_) (fun c_29 => ?_)
        · obtain rfl : i = mS 1 := by omega
          refine x_ilw hC hl 1 dX5_canBe_90 rfl ?_
          exact x_retI (congrArg iI (b2p_c (by exact Iff.rfl))) hend hP hD hS dX5_canBe_92
        · refine x_ilw hC hl 1 dX5_canBe_32 rfl ?_
          refine x_if_eq_b hC 81 dX5_canBe_34 (by decide) (fun c_34 => ?_) (fun c_34 => ?_)
          · refine x_ic hC dX5_canBe_81 ?_
            refine x_isw hC [(6, .int (iI 0)), (7, .int (iI i)), (0, .ref (h 0)), (1, .int (iI room)), (2, .int (iI first)), (3, .int (iI en)), (4, .int (iI size)), (5, .int (iI but))] hl dX5_canBe_82 (by decide) rfl (fun ls hl => ?_)
            refine x_iinc hC [(7, .int (iI (i + 1))), (6, .int (iI 0)), (0, .ref (h 0)), (1, .int (iI room)), (2, .int (iI first)), (3, .int (iI en)), (4, .int (iI size)), (5, .int (iI but))] 1 hl dX5_canBe_84 rfl (by decide) rfl (fun ls hl => ?_)
            refine x_goto hC 21 dX5_canBe_87 (by decide) ?_
            have hl : lv_has ls 8 [(7, .int (iI (i + 1))), (6, .int (iI (b2p (size ≤ mS (5 + 3 * room + 0) ∧ ∀ t, 0 ≤ t → t < (i + 1) → (t = but ∨ ¬ mS (29 + 4 * t + 3) = room ∨ en ≤ mS (29 + 4 * t + 0) ∨ mS (29 + 4 * t + 1) ≤ first))))), (0, .ref (h 0)), (1, .int (iI room)), (2, .int (iI first)), (3, .int (iI en)), (4, .int (iI size)), (5, .int (iI but))] := lvE (lv_sub (l' := [(7, .int (iI (i + 1))), (6, .int (iI 0)), (0, .ref (h 0)), (1, .int (iI room)), (2, .int (iI first)), (3, .int (iI en)), (4, .int (iI size)), (5, .int (iI but))]) hl [0, 1, 2, 3, 4, 5, 6, 7] rfl) (lcE rfl (lcE (congrArg (fun z => Value.int (iI z)) (by first | exact (b2p_t (by grind)).symm | exact (b2p_f (by grind)).symm : 0 = b2p (size ≤ mS (5 + 3 * room + 0) ∧ ∀ t, 0 ≤ t → t < (i + 1) → (t = but ∨ ¬ mS (29 + 4 * t + 3) = room ∨ en ≤ mS (29 + 4 * t + 0) ∨ mS (29 + 4 * t + 1) ≤ first)))) (lcE rfl (lcE rfl (lcE rfl (lcE rfl (lcE rfl (lcE rfl (rfl)))))))))
            exact ih_21 (i + 1) (by omega) (by omega) (by omega) H locs ls hP hD hS hl
          · refine x_ilw hC hl 0 dX5_canBe_37 rfl ?_
            refine x_ilw hC hl 7 dX5_canBe_39 rfl ?_
            refine x_ic_eq hC 77 dX5_canBe_41 (by decide) (by omega) (by omega) (fun c_41 => ?_) (fun c_41 => ?_)
            · refine x_ic hC dX5_canBe_77 ?_
              refine x_goto hC 82 dX5_canBe_78 (by decide) ?_
              refine x_isw hC [(6, .int (iI 1)), (7, .int (iI i)), (0, .ref (h 0)), (1, .int (iI room)), (2, .int (iI first)), (3, .int (iI en)), (4, .int (iI size)), (5, .int (iI but))] hl dX5_canBe_82 (by decide) rfl (fun ls hl => ?_)
              refine x_iinc hC [(7, .int (iI (i + 1))), (6, .int (iI 1)), (0, .ref (h 0)), (1, .int (iI room)), (2, .int (iI first)), (3, .int (iI en)), (4, .int (iI size)), (5, .int (iI but))] 1 hl dX5_canBe_84 rfl (by decide) rfl (fun ls hl => ?_)
              refine x_goto hC 21 dX5_canBe_87 (by decide) ?_
              have hl : lv_has ls 8 [(7, .int (iI (i + 1))), (6, .int (iI (b2p (size ≤ mS (5 + 3 * room + 0) ∧ ∀ t, 0 ≤ t → t < (i + 1) → (t = but ∨ ¬ mS (29 + 4 * t + 3) = room ∨ en ≤ mS (29 + 4 * t + 0) ∨ mS (29 + 4 * t + 1) ≤ first))))), (0, .ref (h 0)), (1, .int (iI room)), (2, .int (iI first)), (3, .int (iI en)), (4, .int (iI size)), (5, .int (iI but))] := lvE (lv_sub (l' := [(7, .int (iI (i + 1))), (6, .int (iI 1)), (0, .ref (h 0)), (1, .int (iI room)), (2, .int (iI first)), (3, .int (iI en)), (4, .int (iI size)), (5, .int (iI but))]) hl [0, 1, 2, 3, 4, 5, 6, 7] rfl) (lcE rfl (lcE (congrArg (fun z => Value.int (iI z)) (by first | exact (b2p_t (by grind)).symm | exact (b2p_f (by grind)).symm : 1 = b2p (size ≤ mS (5 + 3 * room + 0) ∧ ∀ t, 0 ≤ t → t < (i + 1) → (t = but ∨ ¬ mS (29 + 4 * t + 3) = room ∨ en ≤ mS (29 + 4 * t + 0) ∨ mS (29 + 4 * t + 1) ≤ first)))) (lcE rfl (lcE rfl (lcE rfl (lcE rfl (lcE rfl (lcE rfl (rfl)))))))))
              exact ih_21 (i + 1) (by omega) (by omega) (by omega) H locs ls hP hD hS hl
            · refine x_al hC hl 2 dX5_canBe_44 rfl rfl ?_
              refine x_ilw hC hl 0 dX5_canBe_45 rfl ?_
              refine x_ic hC dX5_canBe_47 ?_
              refine x_vI (As := [.int (iI i), .int (iI 3)]) hC (k5_of l D cs h mF mS mA mV mT mB i 3 (by first | assumption | omega) (by first | assumption | omega) (by first | assumption | omega)) lk5_34 (q0 := 0) (ci := 5) rfl rfl rfl (sub_all hP hD hS hA) hP hS rfl hl.1 rfl (Nat.le_of_ble_eq_true rfl) ⟨rfl, rfl⟩ ⟨Nat.le_of_ble_eq_true rfl, Nat.le_of_ble_eq_true rfl⟩ ⟨Nat.le_of_ble_eq_true rfl, Nat.le_of_ble_eq_true rfl⟩ dX5_canBe_48 (fun H locs hP hD hS hHs => ?_)
              have q_48_2 := imB (S := mS) (by assumption) (29 + 4 * i + 3) (by omega)
              refine x_il hC hl 3 dX5_canBe_51 rfl rfl ?_
              refine x_ic_ne hC 77 dX5_canBe_52 (by decide) (by omega) (by omega) (fun c_52 => ?_) (fun c_52 => ?_)
              · refine x_ic hC dX5_canBe_77 ?_
                refine x_goto hC 82 dX5_canBe_78 (by decide) ?_
                refine x_isw hC [(6, .int (iI 1)), (7, .int (iI i)), (0, .ref (h 0)), (1, .int (iI room)), (2, .int (iI first)), (3, .int (iI en)), (4, .int (iI size)), (5, .int (iI but))] hl dX5_canBe_82 (by decide) rfl (fun ls hl => ?_)
                refine x_iinc hC [(7, .int (iI (i + 1))), (6, .int (iI 1)), (0, .ref (h 0)), (1, .int (iI room)), (2, .int (iI first)), (3, .int (iI en)), (4, .int (iI size)), (5, .int (iI but))] 1 hl dX5_canBe_84 rfl (by decide) rfl (fun ls hl => ?_)
                refine x_goto hC 21 dX5_canBe_87 (by decide) ?_
                have hl : lv_has ls 8 [(7, .int (iI (i + 1))), (6, .int (iI (b2p (size ≤ mS (5 + 3 * room + 0) ∧ ∀ t, 0 ≤ t → t < (i + 1) → (t = but ∨ ¬ mS (29 + 4 * t + 3) = room ∨ en ≤ mS (29 + 4 * t + 0) ∨ mS (29 + 4 * t + 1) ≤ first))))), (0, .ref (h 0)), (1, .int (iI room)), (2, .int (iI first)), (3, .int (iI en)), (4, .int (iI size)), (5, .int (iI but))] := lvE (lv_sub (l' := [(7, .int (iI (i + 1))), (6, .int (iI 1)), (0, .ref (h 0)), (1, .int (iI room)), (2, .int (iI first)), (3, .int (iI en)), (4, .int (iI size)), (5, .int (iI but))]) hl [0, 1, 2, 3, 4, 5, 6, 7] rfl) (lcE rfl (lcE (congrArg (fun z => Value.int (iI z)) (by first | exact (b2p_t (by grind)).symm | exact (b2p_f (by grind)).symm : 1 = b2p (size ≤ mS (5 + 3 * room + 0) ∧ ∀ t, 0 ≤ t → t < (i + 1) → (t = but ∨ ¬ mS (29 + 4 * t + 3) = room ∨ en ≤ mS (29 + 4 * t + 0) ∨ mS (29 + 4 * t + 1) ≤ first)))) (lcE rfl (lcE rfl (lcE rfl (lcE rfl (lcE rfl (lcE rfl (rfl)))))))))
                exact ih_21 (i + 1) (by omega) (by omega) (by omega) H locs ls hP hD hS hl
              · refine x_al hC hl 2 dX5_canBe_55 rfl rfl ?_
                refine x_ilw hC hl 0 dX5_canBe_56 rfl ?_
                refine x_ic hC dX5_canBe_58 ?_
                refine x_vI (As := [.int (iI i), .int (iI 0)]) hC (k5_of l D cs h mF mS mA mV mT mB i 0 (by first | assumption | omega) (by first | assumption | omega) (by first | assumption | omega)) lk5_34 (q0 := 0) (ci := 5) rfl rfl rfl (sub_all hP hD hS hA) hP hS rfl hl.1 rfl (Nat.le_of_ble_eq_true rfl) ⟨rfl, rfl⟩ ⟨Nat.le_of_ble_eq_true rfl, Nat.le_of_ble_eq_true rfl⟩ ⟨Nat.le_of_ble_eq_true rfl, Nat.le_of_ble_eq_true rfl⟩ dX5_canBe_59 (fun H locs hP hD hS hHs => ?_)
                have q_59_2 := imB (S := mS) (by assumption) (29 + 4 * i + 0) (by omega)
                refine x_il hC hl 5 dX5_canBe_62 rfl rfl ?_
                refine x_ic_ge hC 77 dX5_canBe_63 (by decide) (by omega) (by omega) (fun c_63 => ?_) (fun c_63 => ?_)
                · refine x_ic hC dX5_canBe_77 ?_
                  refine x_goto hC 82 dX5_canBe_78 (by decide) ?_
                  refine x_isw hC [(6, .int (iI 1)), (7, .int (iI i)), (0, .ref (h 0)), (1, .int (iI room)), (2, .int (iI first)), (3, .int (iI en)), (4, .int (iI size)), (5, .int (iI but))] hl dX5_canBe_82 (by decide) rfl (fun ls hl => ?_)
                  refine x_iinc hC [(7, .int (iI (i + 1))), (6, .int (iI 1)), (0, .ref (h 0)), (1, .int (iI room)), (2, .int (iI first)), (3, .int (iI en)), (4, .int (iI size)), (5, .int (iI but))] 1 hl dX5_canBe_84 rfl (by decide) rfl (fun ls hl => ?_)
                  refine x_goto hC 21 dX5_canBe_87 (by decide) ?_
                  have hl : lv_has ls 8 [(7, .int (iI (i + 1))), (6, .int (iI (b2p (size ≤ mS (5 + 3 * room + 0) ∧ ∀ t, 0 ≤ t → t < (i + 1) → (t = but ∨ ¬ mS (29 + 4 * t + 3) = room ∨ en ≤ mS (29 + 4 * t + 0) ∨ mS (29 + 4 * t + 1) ≤ first))))), (0, .ref (h 0)), (1, .int (iI room)), (2, .int (iI first)), (3, .int (iI en)), (4, .int (iI size)), (5, .int (iI but))] := lvE (lv_sub (l' := [(7, .int (iI (i + 1))), (6, .int (iI 1)), (0, .ref (h 0)), (1, .int (iI room)), (2, .int (iI first)), (3, .int (iI en)), (4, .int (iI size)), (5, .int (iI but))]) hl [0, 1, 2, 3, 4, 5, 6, 7] rfl) (lcE rfl (lcE (congrArg (fun z => Value.int (iI z)) (by first | exact (b2p_t (by grind)).symm | exact (b2p_f (by grind)).symm : 1 = b2p (size ≤ mS (5 + 3 * room + 0) ∧ ∀ t, 0 ≤ t → t < (i + 1) → (t = but ∨ ¬ mS (29 + 4 * t + 3) = room ∨ en ≤ mS (29 + 4 * t + 0) ∨ mS (29 + 4 * t + 1) ≤ first)))) (lcE rfl (lcE rfl (lcE rfl (lcE rfl (lcE rfl (lcE rfl (rfl)))))))))
                  exact ih_21 (i + 1) (by omega) (by omega) (by omega) H locs ls hP hD hS hl
                · refine x_al hC hl 2 dX5_canBe_66 rfl rfl ?_
                  refine x_ilw hC hl 0 dX5_canBe_67 rfl ?_
                  refine x_ic hC dX5_canBe_69 ?_
                  refine x_vI (As := [.int (iI i), .int (iI 1)]) hC (k5_of l D cs h mF mS mA mV mT mB i 1 (by first | assumption | omega) (by first | assumption | omega) (by first | assumption | omega)) lk5_34 (q0 := 0) (ci := 5) rfl rfl rfl (sub_all hP hD hS hA) hP hS rfl hl.1 rfl (Nat.le_of_ble_eq_true rfl) ⟨rfl, rfl⟩ ⟨Nat.le_of_ble_eq_true rfl, Nat.le_of_ble_eq_true rfl⟩ ⟨Nat.le_of_ble_eq_true rfl, Nat.le_of_ble_eq_true rfl⟩ dX5_canBe_70 (fun H locs hP hD hS hHs => ?_)
                  have q_70_2 := imB (S := mS) (by assumption) (29 + 4 * i + 1) (by omega)
                  refine x_il hC hl 4 dX5_canBe_73 rfl rfl ?_
                  refine x_ic_gt hC 81 dX5_canBe_74 (by decide) (by omega) (by omega) (fun c_74 => ?_) (fun c_74 => ?_)
                  · refine x_ic hC dX5_canBe_81 ?_
                    refine x_isw hC [(6, .int (iI 0)), (7, .int (iI i)), (0, .ref (h 0)), (1, .int (iI room)), (2, .int (iI first)), (3, .int (iI en)), (4, .int (iI size)), (5, .int (iI but))] hl dX5_canBe_82 (by decide) rfl (fun ls hl => ?_)
                    refine x_iinc hC [(7, .int (iI (i + 1))), (6, .int (iI 0)), (0, .ref (h 0)), (1, .int (iI room)), (2, .int (iI first)), (3, .int (iI en)), (4, .int (iI size)), (5, .int (iI but))] 1 hl dX5_canBe_84 rfl (by decide) rfl (fun ls hl => ?_)
                    refine x_goto hC 21 dX5_canBe_87 (by decide) ?_
                    have hl : lv_has ls 8 [(7, .int (iI (i + 1))), (6, .int (iI (b2p (size ≤ mS (5 + 3 * room + 0) ∧ ∀ t, 0 ≤ t → t < (i + 1) → (t = but ∨ ¬ mS (29 + 4 * t + 3) = room ∨ en ≤ mS (29 + 4 * t + 0) ∨ mS (29 + 4 * t + 1) ≤ first))))), (0, .ref (h 0)), (1, .int (iI room)), (2, .int (iI first)), (3, .int (iI en)), (4, .int (iI size)), (5, .int (iI but))] := lvE (lv_sub (l' := [(7, .int (iI (i + 1))), (6, .int (iI 0)), (0, .ref (h 0)), (1, .int (iI room)), (2, .int (iI first)), (3, .int (iI en)), (4, .int (iI size)), (5, .int (iI but))]) hl [0, 1, 2, 3, 4, 5, 6, 7] rfl) (lcE rfl (lcE (congrArg (fun z => Value.int (iI z)) (by first | exact (b2p_t (by grind)).symm | exact (b2p_f (by grind)).symm : 0 = b2p (size ≤ mS (5 + 3 * room + 0) ∧ ∀ t, 0 ≤ t → t < (i + 1) → (t = but ∨ ¬ mS (29 + 4 * t + 3) = room ∨ en ≤ mS (29 + 4 * t + 0) ∨ mS (29 + 4 * t + 1) ≤ first)))) (lcE rfl (lcE rfl (lcE rfl (lcE rfl (lcE rfl (lcE rfl (rfl)))))))))
                    exact ih_21 (i + 1) (by omega) (by omega) (by omega) H locs ls hP hD hS hl
                  · refine x_ic hC dX5_canBe_77 ?_
                    refine x_goto hC 82 dX5_canBe_78 (by decide) ?_
                    refine x_isw hC [(6, .int (iI 1)), (7, .int (iI i)), (0, .ref (h 0)), (1, .int (iI room)), (2, .int (iI first)), (3, .int (iI en)), (4, .int (iI size)), (5, .int (iI but))] hl dX5_canBe_82 (by decide) rfl (fun ls hl => ?_)
                    refine x_iinc hC [(7, .int (iI (i + 1))), (6, .int (iI 1)), (0, .ref (h 0)), (1, .int (iI room)), (2, .int (iI first)), (3, .int (iI en)), (4, .int (iI size)), (5, .int (iI but))] 1 hl dX5_canBe_84 rfl (by decide) rfl (fun ls hl => ?_)
                    refine x_goto hC 21 dX5_canBe_87 (by decide) ?_
                    have hl : lv_has ls 8 [(7, .int (iI (i + 1))), (6, .int (iI (b2p (size ≤ mS (5 + 3 * room + 0) ∧ ∀ t, 0 ≤ t → t < (i + 1) → (t = but ∨ ¬ mS (29 + 4 * t + 3) = room ∨ en ≤ mS (29 + 4 * t + 0) ∨ mS (29 + 4 * t + 1) ≤ first))))), (0, .ref (h 0)), (1, .int (iI room)), (2, .int (iI first)), (3, .int (iI en)), (4, .int (iI size)), (5, .int (iI but))] := lvE (lv_sub (l' := [(7, .int (iI (i + 1))), (6, .int (iI 1)), (0, .ref (h 0)), (1, .int (iI room)), (2, .int (iI first)), (3, .int (iI en)), (4, .int (iI size)), (5, .int (iI but))]) hl [0, 1, 2, 3, 4, 5, 6, 7] rfl) (lcE rfl (lcE (congrArg (fun z => Value.int (iI z)) (by first | exact (b2p_t (by grind)).symm | exact (b2p_f (by grind)).symm : 1 = b2p (size ≤ mS (5 + 3 * room + 0) ∧ ∀ t, 0 ≤ t → t < (i + 1) → (t = but ∨ ¬ mS (29 + 4 * t + 3) = room ∨ en ≤ mS (29 + 4 * t + 0) ∨ mS (29 + 4 * t + 1) ≤ first)))) (lcE rfl (lcE rfl (lcE rfl (lcE rfl (lcE rfl (lcE rfl (rfl)))))))))
                    exact ih_21 (i + 1) (by omega) (by omega) (by omega) H locs ls hP hD hS hl
    have hl : lv_has ls 8 [(7, .int (iI 0)), (6, .int (iI (b2p (size ≤ mS (5 + 3 * room + 0) ∧ ∀ t, 0 ≤ t → t < 0 → (t = but ∨ ¬ mS (29 + 4 * t + 3) = room ∨ en ≤ mS (29 + 4 * t + 0) ∨ mS (29 + 4 * t + 1) ≤ first))))), (0, .ref (h 0)), (1, .int (iI room)), (2, .int (iI first)), (3, .int (iI en)), (4, .int (iI size)), (5, .int (iI but))] := lvE (lv_sub (l' := [(7, .int (iI 0)), (6, .int (iI 1)), (0, .ref (h 0)), (1, .int (iI room)), (2, .int (iI first)), (3, .int (iI en)), (4, .int (iI size)), (5, .int (iI but))]) hl [0, 1, 2, 3, 4, 5, 6, 7] rfl) (lcE rfl (lcE (congrArg (fun z => Value.int (iI z)) (by first | exact (b2p_t ⟨by omega, fun t h1 h2 => by omega⟩).symm | exact (b2p_f (fun h => by omega)).symm : 1 = b2p (size ≤ mS (5 + 3 * room + 0) ∧ ∀ t, 0 ≤ t → t < 0 → (t = but ∨ ¬ mS (29 + 4 * t + 3) = room ∨ en ≤ mS (29 + 4 * t + 0) ∨ mS (29 + 4 * t + 1) ≤ first)))) (lcE rfl (lcE rfl (lcE rfl (lcE rfl (lcE rfl (lcE rfl (rfl)))))))))
    exact loop_21_2 (Int.toNat ((mS 1) - 0) + 1) 0 (by omega) (by omega) (by omega) H locs ls hP hD hS hl
