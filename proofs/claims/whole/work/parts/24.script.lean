theorem lk3_30 : LkV RX3 30 yX2_read cX2_read 7 (some .boolean) 3 := ⟨tb_562, tb_559, tb_560, tb_561, tb_75, by decide +kernel⟩
theorem lk3_34 : LkV RX3 34 yX2_next cX2_next 1 (some .int) 0 := ⟨tb_586, tb_583, tb_584, tb_585, tb_75, by decide +kernel⟩
theorem lk3_38 : LkV RX3 38 yX3_stopAt cX3_stopAt 4 (some .boolean) 3 := ⟨tb_590, tb_587, tb_589, tb_27, tb_74, by decide +kernel⟩
theorem lk3_42 : LkV RX3 42 yX2_doOn cX2_doOn 2 (some .int) 1 := ⟨tb_594, tb_591, tb_592, tb_593, tb_75, by decide +kernel⟩
abbrev r3_size : Room := { frames := 0, cells := 0, slots := 0, locals := 0 }
set_option maxHeartbeats 4000000 in
set_option maxRecDepth 100000 in
theorem k3_size (l : Launch) (D : va_G) (cs : Nat → ClassId) (hs : Nat → Nat) (hg : Nat → Nat) (ho : Nat → Nat) (sG : Int → Int)  : CI l D cs yX3_size cX3_size 1 .int r3_size 0 0 [.ref (hs 0)] (wS hs hg ho sG) (wS hs hg ho sG) (iI ((sG 2))) := by
  refine CI_start (own := RX3) (by decide) rfl rfl (Nat.le_of_ble_eq_true rfl) ?_
  intro p e s m args below meth c Q A ls hC hl hP hD hA hS hend
  have hl : lv_has ls 1 [(0, .ref (hs 0))] := hl
  obtain ⟨H, hH⟩ : ∃ H : Heap, H = s.heap := ⟨_, rfl⟩
  have hS : va_S A s.heap H [] := by rw [hH]; exact hS
  rw [← hH] at hP
  obtain ⟨locs, hlocs⟩ : ∃ locs : List Loc, locs = [] := ⟨_, rfl⟩
  rw [← hlocs] at hS
  suffices hgo : W p l e r3_size s m args below meth c H locs 0 0 Q (F0 m 0 ls []) by rw [← hH, ← hlocs]; exact hgo
  clear hH hlocs
  refine x_al hC hl 0 dX3_size_0 rfl rfl ?_
  refine x_get3 (v := .int (iI (sG 2))) hC hP 0 rfl 2 (by decide) tb_181 rfl rfl dX3_size_1 ?_
  exact x_retI (rfl) hend hP hD hS dX3_size_4
abbrev r3_clear : Room := { frames := 0, cells := 0, slots := 0, locals := 0 }
set_option maxHeartbeats 4000000 in
set_option maxRecDepth 100000 in
theorem k3_clear (l : Launch) (D : va_G) (cs : Nat → ClassId) (hs : Nat → Nat) (hg : Nat → Nat) (ho : Nat → Nat) (sG : Int → Int)  : CI l D cs yX3_clear cX3_clear 2 .int r3_clear 0 0 [.ref (hs 0)] (wS hs hg ho sG) (wS hs hg ho (u1 sG 2 0)) (iI ((sG 2))) := by
  refine CI_start (own := RX3) (by decide) rfl rfl (Nat.le_of_ble_eq_true rfl) ?_
  intro p e s m args below meth c Q A ls hC hl hP hD hA hS hend
  have hl : lv_has ls 2 [(0, .ref (hs 0))] := hl
  obtain ⟨H, hH⟩ : ∃ H : Heap, H = s.heap := ⟨_, rfl⟩
  have hS : va_S A s.heap H [] := by rw [hH]; exact hS
  rw [← hH] at hP
  obtain ⟨locs, hlocs⟩ : ∃ locs : List Loc, locs = [] := ⟨_, rfl⟩
  rw [← hlocs] at hS
  suffices hgo : W p l e r3_clear s m args below meth c H locs 0 0 Q (F0 m 0 ls []) by rw [← hH, ← hlocs]; exact hgo
  clear hH hlocs
  refine x_al hC hl 0 dX3_clear_0 rfl rfl ?_
  refine x_get3 (v := .int (iI (sG 2))) hC hP 0 rfl 2 (by decide) tb_181 rfl rfl dX3_clear_1 ?_
  refine x_is hC [(1, .int (iI (sG 2))), (0, .ref (hs 0))] hl dX3_clear_4 rfl (by decide) rfl (fun ls hl => ?_)
  refine x_al hC hl 1 dX3_clear_5 rfl rfl ?_
  refine x_ic hC dX3_clear_6 ?_
  refine x_put3_2 hC hP hD hS 0 rfl tb_181 dX3_clear_7 (fun H locs hP hD hS => ?_)
  have hP : va_P D vwCl (wS hs hg ho (u1 sG 2 0)) H := hP
  have hD : va_D A (wS hs hg ho (u1 sG 2 0)) := hD
  refine x_il hC hl 0 dX3_clear_10 rfl rfl ?_
  exact x_retI (rfl) hend hP hD hS dX3_clear_11
abbrev r3_ordersDone : Room := { frames := 0, cells := 0, slots := 0, locals := 0 }
set_option maxHeartbeats 4000000 in
set_option maxRecDepth 100000 in
theorem k3_ordersDone (l : Launch) (D : va_G) (cs : Nat → ClassId) (hs : Nat → Nat) (hg : Nat → Nat) (ho : Nat → Nat) (sG : Int → Int)  : CI l D cs yX3_ordersDone cX3_ordersDone 1 .int r3_ordersDone 0 0 [.ref (hs 0)] (wS hs hg ho sG) (wS hs hg ho sG) (iI ((sG 3))) := by
  refine CI_start (own := RX3) (by decide) rfl rfl (Nat.le_of_ble_eq_true rfl) ?_
  intro p e s m args below meth c Q A ls hC hl hP hD hA hS hend
  have hl : lv_has ls 1 [(0, .ref (hs 0))] := hl
  obtain ⟨H, hH⟩ : ∃ H : Heap, H = s.heap := ⟨_, rfl⟩
  have hS : va_S A s.heap H [] := by rw [hH]; exact hS
  rw [← hH] at hP
  obtain ⟨locs, hlocs⟩ : ∃ locs : List Loc, locs = [] := ⟨_, rfl⟩
  rw [← hlocs] at hS
  suffices hgo : W p l e r3_ordersDone s m args below meth c H locs 0 0 Q (F0 m 0 ls []) by rw [← hH, ← hlocs]; exact hgo
  clear hH hlocs
  refine x_al hC hl 0 dX3_ordersDone_0 rfl rfl ?_
  refine x_get3 (v := .int (iI (sG 3))) hC hP 0 rfl 3 (by decide) tb_182 rfl rfl dX3_ordersDone_1 ?_
  exact x_retI (rfl) hend hP hD hS dX3_ordersDone_4
abbrev r3_stopAt : Room := { frames := 0, cells := 0, slots := 0, locals := 0 }
set_option maxHeartbeats 4000000 in
set_option maxRecDepth 100000 in
theorem k3_stopAt (l : Launch) (D : va_G) (cs : Nat → ClassId) (hs : Nat → Nat) (hg : Nat → Nat) (ho : Nat → Nat) (sG : Int → Int) (p0 : Int) (r0 : Int) (c0 : Int)  : CI l D cs yX3_stopAt cX3_stopAt 4 .boolean r3_stopAt 0 0 [.ref (hs 0), .int (iI p0), .int (iI r0), .int (iI c0)] (wS hs hg ho sG) (wS hs hg ho (u1 (u1 (u1 sG 4 p0) 5 r0) 6 c0)) (iI (0)) := by
  refine CI_start (own := RX3) (by decide) rfl rfl (Nat.le_of_ble_eq_true rfl) ?_
  intro p e s m args below meth c Q A ls hC hl hP hD hA hS hend
  have hl : lv_has ls 4 [(0, .ref (hs 0)), (1, .int (iI p0)), (2, .int (iI r0)), (3, .int (iI c0))] := hl
  obtain ⟨H, hH⟩ : ∃ H : Heap, H = s.heap := ⟨_, rfl⟩
  have hS : va_S A s.heap H [] := by rw [hH]; exact hS
  rw [← hH] at hP
  obtain ⟨locs, hlocs⟩ : ∃ locs : List Loc, locs = [] := ⟨_, rfl⟩
  rw [← hlocs] at hS
  suffices hgo : W p l e r3_stopAt s m args below meth c H locs 0 0 Q (F0 m 0 ls []) by rw [← hH, ← hlocs]; exact hgo
  clear hH hlocs
  refine x_al hC hl 0 dX3_stopAt_0 rfl rfl ?_
  refine x_il hC hl 1 dX3_stopAt_1 rfl rfl ?_
  refine x_put3_4 hC hP hD hS 0 rfl tb_183 dX3_stopAt_2 (fun H locs hP hD hS => ?_)
  have hP : va_P D vwCl (wS hs hg ho (u1 sG 4 p0)) H := hP
  have hD : va_D A (wS hs hg ho (u1 sG 4 p0)) := hD
  refine x_al hC hl 0 dX3_stopAt_5 rfl rfl ?_
  refine x_il hC hl 2 dX3_stopAt_6 rfl rfl ?_
  refine x_put3_5 hC hP hD hS 0 rfl tb_184 dX3_stopAt_7 (fun H locs hP hD hS => ?_)
  have hP : va_P D vwCl (wS hs hg ho (u1 (u1 sG 4 p0) 5 r0)) H := hP
  have hD : va_D A (wS hs hg ho (u1 (u1 sG 4 p0) 5 r0)) := hD
  refine x_al hC hl 0 dX3_stopAt_10 rfl rfl ?_
  refine x_il hC hl 3 dX3_stopAt_11 rfl rfl ?_
  refine x_put3_6 hC hP hD hS 0 rfl tb_185 dX3_stopAt_12 (fun H locs hP hD hS => ?_)
  have hP : va_P D vwCl (wS hs hg ho (u1 (u1 (u1 sG 4 p0) 5 r0) 6 c0)) H := hP
  have hD : va_D A (wS hs hg ho (u1 (u1 (u1 sG 4 p0) 5 r0) 6 c0)) := hD
  refine x_ic hC dX3_stopAt_15 ?_
  exact x_retI (rfl) hend hP hD hS dX3_stopAt_16
abbrev r3_ofFault : Room := { frames := 0, cells := 0, slots := 0, locals := 0 }
set_option maxHeartbeats 4000000 in
set_option maxRecDepth 100000 in
theorem k3_ofFault (l : Launch) (D : va_G) (cs : Nat → ClassId) (hs : Nat → Nat) (hg : Nat → Nat) (ho : Nat → Nat) (sG : Int → Int) (what : Int) (g_what : -2147483648 ≤ what ∧ what ≤ 2147483647) : CI l D cs yX3_ofFault cX3_ofFault 2 .int r3_ofFault 0 0 [.ref (hs 0), .int (iI what)] (wS hs hg ho sG) (wS hs hg ho sG) (iI (iif (what = 0) ((sG 4)) (iif (what = 1) ((sG 5)) ((sG 6))))) := by
  refine CI_start (own := RX3) (by decide) rfl rfl (Nat.le_of_ble_eq_true rfl) ?_
  intro p e s m args below meth c Q A ls hC hl hP hD hA hS hend
  have hl : lv_has ls 2 [(0, .ref (hs 0)), (1, .int (iI what))] := hl
  obtain ⟨H, hH⟩ : ∃ H : Heap, H = s.heap := ⟨_, rfl⟩
  have hS : va_S A s.heap H [] := by rw [hH]; exact hS
  rw [← hH] at hP
  obtain ⟨locs, hlocs⟩ : ∃ locs : List Loc, locs = [] := ⟨_, rfl⟩
  rw [← hlocs] at hS
  suffices hgo : W p l e r3_ofFault s m args below meth c H locs 0 0 Q (F0 m 0 ls []) by rw [← hH, ← hlocs]; exact hgo
  clear hH hlocs
  refine x_il hC hl 1 dX3_ofFault_0 rfl rfl ?_
  by_cases c_1_0 : what = 0
  · refine x_look (off := 27) hC 28 dX3_ofFault_1 rfl (by rw [c_1_0]; omega) (by rw [c_1_0]; first | done | rfl) (by decide) ?_
    refine x_al hC hl 0 dX3_ofFault_28 rfl rfl ?_
    refine x_get3 (v := .int (iI (sG 4))) hC hP 0 rfl 4 (by decide) tb_183 rfl rfl dX3_ofFault_29 ?_
    exact x_retI (congrArg iI (by first | (rw [iif_t (by omega)]; done) | (rw [iif_f (by omega), iif_t (by omega)]; done) | (rw [iif_f (by omega), iif_f (by omega)]; done) : sG 4 = iif (what = 0) ((sG 4)) (iif (what = 1) ((sG 5)) ((sG 6))))) hend hP hD hS dX3_ofFault_32
  by_cases c_1_1 : what = 1
  · refine x_look (off := 32) hC 33 dX3_ofFault_1 rfl (by rw [c_1_1]; omega) (by rw [c_1_1]; first | done | rfl) (by decide) ?_
    refine x_al hC hl 0 dX3_ofFault_33 rfl rfl ?_
    refine x_get3 (v := .int (iI (sG 5))) hC hP 0 rfl 5 (by decide) tb_184 rfl rfl dX3_ofFault_34 ?_
    exact x_retI (congrArg iI (by first | (rw [iif_t (by omega)]; done) | (rw [iif_f (by omega), iif_t (by omega)]; done) | (rw [iif_f (by omega), iif_f (by omega)]; done) : sG 5 = iif (what = 0) ((sG 4)) (iif (what = 1) ((sG 5)) ((sG 6))))) hend hP hD hS dX3_ofFault_37
  refine x_look (off := 37) hC 38 dX3_ofFault_1 rfl (by omega) (by simp [Op.lookupswitch.offset]; grind) (by decide) ?_
  refine x_al hC hl 0 dX3_ofFault_38 rfl rfl ?_
  refine x_get3 (v := .int (iI (sG 6))) hC hP 0 rfl 6 (by decide) tb_185 rfl rfl dX3_ofFault_39 ?_
  exact x_retI (congrArg iI (by first | (rw [iif_t (by omega)]; done) | (rw [iif_f (by omega), iif_t (by omega)]; done) | (rw [iif_f (by omega), iif_f (by omega)]; done) : sG 6 = iif (what = 0) ((sG 4)) (iif (what = 1) ((sG 5)) ((sG 6))))) hend hP hD hS dX3_ofFault_42
abbrev r3_append : Room := { frames := 0, cells := 0, slots := 0, locals := 0 }
set_option maxHeartbeats 4000000 in
set_option maxRecDepth 100000 in
theorem k3_append (l : Launch) (D : va_G) (cs : Nat → ClassId) (hs : Nat → Nat) (hg : Nat → Nat) (ho : Nat → Nat) (sG : Int → Int) (gT : Int → Int) (sign : Int) (hl2 : 0 ≤ (sG 2) ∧ (sG 2) ≤ 60) (hsg : 0 ≤ sign ∧ sign ≤ 127) : CI l D cs yX3_append cX3_append 2 .int r3_append 0 0 [.ref (hs 0), .int (iI sign)] (wS hs hg ho sG ++ (wG hg cs gT)) (wS hs hg ho (iif ((sG 2) < 60) (u1 sG 2 ((sG 2) + 1)) sG) ++ (wG hg cs (iif ((sG 2) < 60) (u1 gT ((sG 2)) sign) gT))) (iI (iif ((sG 2) < 60) ((sG 2) + 1) (-1000003))) := by
  refine CI_start (own := RX3) (by decide) rfl rfl (Nat.le_of_ble_eq_true rfl) ?_
  intro p e s m args below meth c Q A ls hC hl hP hD hA hS hend
  have hl : lv_has ls 2 [(0, .ref (hs 0)), (1, .int (iI sign))] := hl
  obtain ⟨H, hH⟩ : ∃ H : Heap, H = s.heap := ⟨_, rfl⟩
  have hS : va_S A s.heap H [] := by rw [hH]; exact hS
  rw [← hH] at hP
  obtain ⟨locs, hlocs⟩ : ∃ locs : List Loc, locs = [] := ⟨_, rfl⟩
  rw [← hlocs] at hS
  suffices hgo : W p l e r3_append s m args below meth c H locs 0 0 Q (F0 m 0 ls []) by rw [← hH, ← hlocs]; exact hgo
  clear hH hlocs
  refine x_al hC hl 0 dX3_append_0 rfl rfl ?_
  refine x_get3 (v := .int (iI (sG 2))) hC hP 0 rfl 2 (by decide) tb_181 rfl rfl dX3_append_1 ?_
  refine x_bi hC dX3_append_4 (by decide) ?_
  refine x_ic_lt hC 12 dX3_append_6 (by decide) (by omega) (by omega) (fun c_6 => ?_) (fun c_6 => ?_)
  · refine x_al hC hl 0 dX3_append_12 rfl rfl ?_
    refine x_get3 (v := .ref (hg 0)) hC hP 0 rfl 0 (by decide) tb_179 rfl rfl dX3_append_13 ?_
    refine x_al hC hl 0 dX3_append_16 rfl rfl ?_
    refine x_get3 (v := .int (iI (sG 2))) hC hP 0 rfl 2 (by decide) tb_181 rfl rfl dX3_append_17 ?_
    refine x_il hC hl 1 dX3_append_20 rfl rfl ?_
    refine x_cast hC hP hD hS 1 rfl (by omega) (by decide) (zCh sign hsg).2.1 dX3_append_21 (fun H locs hP hD hS => ?_)
    have hP : va_P D vwCl (wS hs hg ho sG ++ (wG hg cs (u1 gT (sG 2) sign))) H := hP
    have hD : va_D A (wS hs hg ho sG ++ (wG hg cs (u1 gT (sG 2) sign))) := hD
    refine x_al hC hl 0 dX3_append_22 rfl rfl ?_
    refine x_dup hC dX3_append_23 rfl ?_
    refine x_get3 (v := .int (iI (sG 2))) hC hP 0 rfl 2 (by decide) tb_181 rfl rfl dX3_append_24 ?_
    refine x_ic hC dX3_append_27 ?_
    refine x_iadd hC dX3_append_28 ?_
    refine x_put3_2 hC hP hD hS 0 rfl tb_181 dX3_append_29 (fun H locs hP hD hS => ?_)
    have hP : va_P D vwCl (wS hs hg ho (u1 sG 2 ((sG 2) + 1)) ++ (wG hg cs (u1 gT (sG 2) sign))) H := hP
    have hD : va_D A (wS hs hg ho (u1 sG 2 ((sG 2) + 1)) ++ (wG hg cs (u1 gT (sG 2) sign))) := hD
    refine x_al hC hl 0 dX3_append_32 rfl rfl ?_
    refine x_get3 (v := .int (iI ((sG 2) + 1))) hC hP 0 rfl 2 (by decide) tb_181 rfl rfl dX3_append_33 ?_
    have ew : (wS hs hg ho (u1 sG 2 ((sG 2) + 1)) ++ (wG hg cs (u1 gT (sG 2) sign))) = (wS hs hg ho (iif ((sG 2) < 60) (u1 sG 2 ((sG 2) + 1)) sG) ++ (wG hg cs (iif ((sG 2) < 60) (u1 gT ((sG 2)) sign) gT))) := (appc (wSc (by first | exact (iif_t (by omega)).symm | exact (iif_f (by omega)).symm : u1 sG 2 ((sG 2) + 1) = iif ((sG 2) < 60) (u1 sG 2 ((sG 2) + 1)) sG)) (wGc (by first | exact (iif_t (by omega)).symm | exact (iif_f (by omega)).symm : u1 gT (sG 2) sign = iif ((sG 2) < 60) (u1 gT ((sG 2)) sign) gT)))
    have hP := vPe hP ew
    have hD := vDe hD ew
    exact x_retI (congrArg iI (by first | exact (iif_t (by omega)).symm | exact (iif_f (by omega)).symm : (sG 2) + 1 = iif ((sG 2) < 60) ((sG 2) + 1) (-1000003))) hend hP hD hS dX3_append_36
  · refine x_ldc hC (-1000003) tb_542 (by decide) dX3_append_9 ?_
    have ew_2 : (wS hs hg ho sG ++ (wG hg cs gT)) = (wS hs hg ho (iif ((sG 2) < 60) (u1 sG 2 ((sG 2) + 1)) sG) ++ (wG hg cs (iif ((sG 2) < 60) (u1 gT ((sG 2)) sign) gT))) := (appc (wSc (by first | exact (iif_t (by omega)).symm | exact (iif_f (by omega)).symm : sG = iif ((sG 2) < 60) (u1 sG 2 ((sG 2) + 1)) sG)) (wGc (by first | exact (iif_t (by omega)).symm | exact (iif_f (by omega)).symm : gT = iif ((sG 2) < 60) (u1 gT ((sG 2)) sign) gT)))
    have hP := vPe hP ew_2
    have hD := vDe hD ew_2
    exact x_retI (congrArg iI (by first | exact (iif_t (by omega)).symm | exact (iif_f (by omega)).symm : (-1000003) = iif ((sG 2) < 60) ((sG 2) + 1) (-1000003))) hend hP hD hS dX3_append_11
abbrev r3_runOn : Room := { frames := 5, cells := 0, slots := 0, locals := 123 }
set_option maxHeartbeats 4000000 in
set_option maxRecDepth 100000 in
theorem k3_runOn (l : Launch) (D : va_G) (cs : Nat → ClassId) (hs : Nat → Nat) (ho : Nat → Nat) (hg : Nat → Nat) (h : Nat → Nat) (sG : Int → Int) (oG : Int → Int) (oN : Int → Int) (gT : Int → Int) (bO : Nat → Bool) (bG : Int → Int) (bF : Int → Int) (bE : Int → Int) (bZ : Int → Int) (bP : Int → Int) (bR : Int → Int) (bC : Int → Int) (bT : Int → Nat → Bool) (hT : IT gT) (hl2 : 0 ≤ (sG 2) ∧ (sG 2) ≤ 60) (hB : IBG bG bF bE bZ bP bR bC) : CI l D cs yX3_runOn cX3_runOn 4 .boolean r3_runOn 0 0 [.ref (hs 0), .ref (h 0)] (wS hs hg ho sG ++ (wO ho cs oG oN ++ (wG hg cs gT ++ (wB h cs bO bG bF bE bZ bP bR bC bT)))) (wS hs hg ho ((cRun gT ((sG 2)) 62 0 (u1 sG 3 0) oG oN bO bG bF bE bZ bP bR bC bT).2.1) ++ (wO ho cs ((cRun gT ((sG 2)) 62 0 (u1 sG 3 0) oG oN bO bG bF bE bZ bP bR bC bT).2.2.1) ((cRun gT ((sG 2)) 62 0 (u1 sG 3 0) oG oN bO bG bF bE bZ bP bR bC bT).2.2.2.1) ++ (wG hg cs gT ++ (wB h cs ((cRun gT ((sG 2)) 62 0 (u1 sG 3 0) oG oN bO bG bF bE bZ bP bR bC bT).2.2.2.2.1) ((cRun gT ((sG 2)) 62 0 (u1 sG 3 0) oG oN bO bG bF bE bZ bP bR bC bT).2.2.2.2.2.1) ((cRun gT ((sG 2)) 62 0 (u1 sG 3 0) oG oN bO bG bF bE bZ bP bR bC bT).2.2.2.2.2.2.1) ((cRun gT ((sG 2)) 62 0 (u1 sG 3 0) oG oN bO bG bF bE bZ bP bR bC bT).2.2.2.2.2.2.2.1) ((cRun gT ((sG 2)) 62 0 (u1 sG 3 0) oG oN bO bG bF bE bZ bP bR bC bT).2.2.2.2.2.2.2.2.1) ((cRun gT ((sG 2)) 62 0 (u1 sG 3 0) oG oN bO bG bF bE bZ bP bR bC bT).2.2.2.2.2.2.2.2.2.1) ((cRun gT ((sG 2)) 62 0 (u1 sG 3 0) oG oN bO bG bF bE bZ bP bR bC bT).2.2.2.2.2.2.2.2.2.2.1) ((cRun gT ((sG 2)) 62 0 (u1 sG 3 0) oG oN bO bG bF bE bZ bP bR bC bT).2.2.2.2.2.2.2.2.2.2.2.1) ((cRun gT ((sG 2)) 62 0 (u1 sG 3 0) oG oN bO bG bF bE bZ bP bR bC bT).2.2.2.2.2.2.2.2.2.2.2.2))))) (iI (b2p (cRun gT ((sG 2)) 62 0 (u1 sG 3 0) oG oN bO bG bF bE bZ bP bR bC bT).1)) := by
  refine CI_start (own := RX3) (by decide) rfl b2p_nar (Nat.le_of_ble_eq_true rfl) ?_
  intro p e s m args below meth c Q A ls hC hl hP hD hA hS hend
  have hl : lv_has ls 4 [(0, .ref (hs 0)), (1, .ref (h 0))] := hl
  obtain ⟨H, hH⟩ : ∃ H : Heap, H = s.heap := ⟨_, rfl⟩
  have hS : va_S A s.heap H [] := by rw [hH]; exact hS
  rw [← hH] at hP
  obtain ⟨locs, hlocs⟩ : ∃ locs : List Loc, locs = [] := ⟨_, rfl⟩
  rw [← hlocs] at hS
  suffices hgo : W p l e r3_runOn s m args below meth c H locs 0 0 Q (F0 m 0 ls []) by rw [← hH, ← hlocs]; exact hgo
  clear hH hlocs
  refine x_ic hC dX3_runOn_0 ?_
  refine x_is hC [(2, .int (iI 0)), (0, .ref (hs 0)), (1, .ref (h 0))] hl dX3_runOn_1 rfl (by decide) rfl (fun ls hl => ?_)
  refine x_al hC hl 1 dX3_runOn_2 rfl rfl ?_
  refine x_ic hC dX3_runOn_3 ?_
  refine x_put3_3 hC hP hD hS 0 rfl tb_182 dX3_runOn_4 (fun H locs hP hD hS => ?_)
  have hP : va_P D vwCl (wS hs hg ho (u1 sG 3 0) ++ (wO ho cs oG oN ++ (wG hg cs gT ++ (wB h cs bO bG bF bE bZ bP bR bC bT)))) H := hP
  have hD : va_D A (wS hs hg ho (u1 sG 3 0) ++ (wO ho cs oG oN ++ (wG hg cs gT ++ (wB h cs bO bG bF bE bZ bP bR bC bT)))) := hD
  have loop_7 : ∀ (n : Nat) (i : Int) (k : Nat) (xs : Int → Int) (xo : Int → Int) (xN : Int → Int) (xO : Nat → Bool) (xG : Int → Int) (xF : Int → Int) (xE : Int → Int) (xZ : Int → Int) (xP : Int → Int) (xR : Int → Int) (xC : Int → Int) (xT : Int → Nat → Bool), (hi0 : 0 ≤ i) → (hi6 : i ≤ 60) → (hx2 : xs 2 = sG 2) → (hx3 : 0 ≤ xs 3 ∧ xs 3 ≤ i) → (hI : IBG xG xF xE xZ xP xR xC) → (hk : 60 - i < (k : Int)) → (hf : cRun gT (sG 2) k i xs xo xN xO xG xF xE xZ xP xR xC xT = cRun gT (sG 2) 62 0 (u1 sG 3 0) oG oN bO bG bF bE bZ bP bR bC bT) → (61 - i) < (n : Int) → ∀ (H : Heap) (locs : List Loc) (ls : Array Slot), va_P D vwCl (wS hs hg ho xs ++ (wO ho cs xo xN ++ (wG hg cs gT ++ (wB h cs xO xG xF xE xZ xP xR xC xT)))) H → va_D A (wS hs hg ho xs ++ (wO ho cs xo xN ++ (wG hg cs gT ++ (wB h cs xO xG xF xE xZ xP xR xC xT)))) → va_S A s.heap H locs → lv_has ls 4 [(2, .int (iI i)), (0, .ref (hs 0)), (1, .ref (h 0))] → W p l e r3_runOn s m args below meth c H locs 0 0 Q (F0 m 7 ls []) := by
    intro n
    induction n with
    | zero =>
      intro i k xs xo xN xO xG xF xE xZ xP xR xC xT hi0 hi6 hx2 hx3 hI hk hf hnn
      exfalso; omega
    | succ n ih_7 =>
      intro i k xs xo xN xO xG xF xE xZ xP xR xC xT hi0 hi6 hx2 hx3 hI hk hf hnn H locs ls hP hD hS hl
      refine x_al hC hl 1 dX3_runOn_7 rfl rfl ?_
      refine x_get3 (v := .int (iI (xs 3))) hC hP 0 rfl 3 (by decide) tb_182 rfl rfl dX3_runOn_8 ?_
      refine x_bi hC dX3_runOn_11 (by decide) ?_
      refine x_ic_ge hC 101 dX3_runOn_13 (by decide) (by omega) (by omega) (fun c_13 => ?_) (fun c_13 => ?_)
      · have hX := (cRun_e (k := k) (by omega)).symm.trans hf
        refine x_ic hC dX3_runOn_101 ?_
        have ew : (wS hs hg ho xs ++ (wO ho cs xo xN ++ (wG hg cs gT ++ (wB h cs xO xG xF xE xZ xP xR xC xT)))) = (wS hs hg ho ((cRun gT ((sG 2)) 62 0 (u1 sG 3 0) oG oN bO bG bF bE bZ bP bR bC bT).2.1) ++ (wO ho cs ((cRun gT ((sG 2)) 62 0 (u1 sG 3 0) oG oN bO bG bF bE bZ bP bR bC bT).2.2.1) ((cRun gT ((sG 2)) 62 0 (u1 sG 3 0) oG oN bO bG bF bE bZ bP bR bC bT).2.2.2.1) ++ (wG hg cs gT ++ (wB h cs ((cRun gT ((sG 2)) 62 0 (u1 sG 3 0) oG oN bO bG bF bE bZ bP bR bC bT).2.2.2.2.1) ((cRun gT ((sG 2)) 62 0 (u1 sG 3 0) oG oN bO bG bF bE bZ bP bR bC bT).2.2.2.2.2.1) ((cRun gT ((sG 2)) 62 0 (u1 sG 3 0) oG oN bO bG bF bE bZ bP bR bC bT).2.2.2.2.2.2.1) ((cRun gT ((sG 2)) 62 0 (u1 sG 3 0) oG oN bO bG bF bE bZ bP bR bC bT).2.2.2.2.2.2.2.1) ((cRun gT ((sG 2)) 62 0 (u1 sG 3 0) oG oN bO bG bF bE bZ bP bR bC bT).2.2.2.2.2.2.2.2.1) ((cRun gT ((sG 2)) 62 0 (u1 sG 3 0) oG oN bO bG bF bE bZ bP bR bC bT).2.2.2.2.2.2.2.2.2.1) ((cRun gT ((sG 2)) 62 0 (u1 sG 3 0) oG oN bO bG bF bE bZ bP bR bC bT).2.2.2.2.2.2.2.2.2.2.1) ((cRun gT ((sG 2)) 62 0 (u1 sG 3 0) oG oN bO bG bF bE bZ bP bR bC bT).2.2.2.2.2.2.2.2.2.2.2.1) ((cRun gT ((sG 2)) 62 0 (u1 sG 3 0) oG oN bO bG bF bE bZ bP bR bC bT).2.2.2.2.2.2.2.2.2.2.2.2))))) := (appc (wSc (by rw [← hX] : xs = (cRun gT ((sG 2)) 62 0 (u1 sG 3 0) oG oN bO bG bF bE bZ bP bR bC bT).2.1)) (appc (wOc (by rw [← hX] : xo = (cRun gT ((sG 2)) 62 0 (u1 sG 3 0) oG oN bO bG bF bE bZ bP bR bC bT).2.2.1) (by rw [← hX] : xN = (cRun gT ((sG 2)) 62 0 (u1 sG 3 0) oG oN bO bG bF bE bZ bP bR bC bT).2.2.2.1)) (appc rfl (wBc (by rw [← hX] : xO = (cRun gT ((sG 2)) 62 0 (u1 sG 3 0) oG oN bO bG bF bE bZ bP bR bC bT).2.2.2.2.1) (by rw [← hX] : xG = (cRun gT ((sG 2)) 62 0 (u1 sG 3 0) oG oN bO bG bF bE bZ bP bR bC bT).2.2.2.2.2.1) (by rw [← hX] : xF = (cRun gT ((sG 2)) 62 0 (u1 sG 3 0) oG oN bO bG bF bE bZ bP bR bC bT).2.2.2.2.2.2.1) (by rw [← hX] : xE = (cRun gT ((sG 2)) 62 0 (u1 sG 3 0) oG oN bO bG bF bE bZ bP bR bC bT).2.2.2.2.2.2.2.1) (by rw [← hX] : xZ = (cRun gT ((sG 2)) 62 0 (u1 sG 3 0) oG oN bO bG bF bE bZ bP bR bC bT).2.2.2.2.2.2.2.2.1) (by rw [← hX] : xP = (cRun gT ((sG 2)) 62 0 (u1 sG 3 0) oG oN bO bG bF bE bZ bP bR bC bT).2.2.2.2.2.2.2.2.2.1) (by rw [← hX] : xR = (cRun gT ((sG 2)) 62 0 (u1 sG 3 0) oG oN bO bG bF bE bZ bP bR bC bT).2.2.2.2.2.2.2.2.2.2.1) (by rw [← hX] : xC = (cRun gT ((sG 2)) 62 0 (u1 sG 3 0) oG oN bO bG bF bE bZ bP bR bC bT).2.2.2.2.2.2.2.2.2.2.2.1) (by rw [← hX] : xT = (cRun gT ((sG 2)) 62 0 (u1 sG 3 0) oG oN bO bG bF bE bZ bP bR bC bT).2.2.2.2.2.2.2.2.2.2.2.2)))))
        have hP := vPe hP ew
        have hD := vDe hD ew
        exact x_retI (congrArg iI (b2p_t (by rw [← hX]; trivial)).symm) hend hP hD hS dX3_runOn_102
      · refine x_il hC hl 0 dX3_runOn_16 rfl rfl ?_
        refine x_al hC hl 1 dX3_runOn_17 rfl rfl ?_
        refine x_get3 (v := .int (iI (xs 2))) hC hP 0 rfl 2 (by decide) tb_181 rfl rfl dX3_runOn_18 ?_
        refine x_top (iI (sG 2)) (congrArg iI (by exact hx2 : xs 2 = sG 2)) ?_
        refine x_ic_ge hC 101 dX3_runOn_21 (by decide) (by omega) (by omega) (fun c_21 => ?_) (fun c_21 => ?_)
        · have hX := (cRun_e (k := k) (by omega)).symm.trans hf
          refine x_ic hC dX3_runOn_101 ?_
          have ew_2 : (wS hs hg ho xs ++ (wO ho cs xo xN ++ (wG hg cs gT ++ (wB h cs xO xG xF xE xZ xP xR xC xT)))) = (wS hs hg ho ((cRun gT ((sG 2)) 62 0 (u1 sG 3 0) oG oN bO bG bF bE bZ bP bR bC bT).2.1) ++ (wO ho cs ((cRun gT ((sG 2)) 62 0 (u1 sG 3 0) oG oN bO bG bF bE bZ bP bR bC bT).2.2.1) ((cRun gT ((sG 2)) 62 0 (u1 sG 3 0) oG oN bO bG bF bE bZ bP bR bC bT).2.2.2.1) ++ (wG hg cs gT ++ (wB h cs ((cRun gT ((sG 2)) 62 0 (u1 sG 3 0) oG oN bO bG bF bE bZ bP bR bC bT).2.2.2.2.1) ((cRun gT ((sG 2)) 62 0 (u1 sG 3 0) oG oN bO bG bF bE bZ bP bR bC bT).2.2.2.2.2.1) ((cRun gT ((sG 2)) 62 0 (u1 sG 3 0) oG oN bO bG bF bE bZ bP bR bC bT).2.2.2.2.2.2.1) ((cRun gT ((sG 2)) 62 0 (u1 sG 3 0) oG oN bO bG bF bE bZ bP bR bC bT).2.2.2.2.2.2.2.1) ((cRun gT ((sG 2)) 62 0 (u1 sG 3 0) oG oN bO bG bF bE bZ bP bR bC bT).2.2.2.2.2.2.2.2.1) ((cRun gT ((sG 2)) 62 0 (u1 sG 3 0) oG oN bO bG bF bE bZ bP bR bC bT).2.2.2.2.2.2.2.2.2.1) ((cRun gT ((sG 2)) 62 0 (u1 sG 3 0) oG oN bO bG bF bE bZ bP bR bC bT).2.2.2.2.2.2.2.2.2.2.1) ((cRun gT ((sG 2)) 62 0 (u1 sG 3 0) oG oN bO bG bF bE bZ bP bR bC bT).2.2.2.2.2.2.2.2.2.2.2.1) ((cRun gT ((sG 2)) 62 0 (u1 sG 3 0) oG oN bO bG bF bE bZ bP bR bC bT).2.2.2.2.2.2.2.2.2.2.2.2))))) := (appc (wSc (by rw [← hX] : xs = (cRun gT ((sG 2)) 62 0 (u1 sG 3 0) oG oN bO bG bF bE bZ bP bR bC bT).2.1)) (appc (wOc (by rw [← hX] : xo = (cRun gT ((sG 2)) 62 0 (u1 sG 3 0) oG oN bO bG bF bE bZ bP bR bC bT).2.2.1) (by rw [← hX] : xN = (cRun gT ((sG 2)) 62 0 (u1 sG 3 0) oG oN bO bG bF bE bZ bP bR bC bT).2.2.2.1)) (appc rfl (wBc (by rw [← hX] : xO = (cRun gT ((sG 2)) 62 0 (u1 sG 3 0) oG oN bO bG bF bE bZ bP bR bC bT).2.2.2.2.1) (by rw [← hX] : xG = (cRun gT ((sG 2)) 62 0 (u1 sG 3 0) oG oN bO bG bF bE bZ bP bR bC bT).2.2.2.2.2.1) (by rw [← hX] : xF = (cRun gT ((sG 2)) 62 0 (u1 sG 3 0) oG oN bO bG bF bE bZ bP bR bC bT).2.2.2.2.2.2.1) (by rw [← hX] : xE = (cRun gT ((sG 2)) 62 0 (u1 sG 3 0) oG oN bO bG bF bE bZ bP bR bC bT).2.2.2.2.2.2.2.1) (by rw [← hX] : xZ = (cRun gT ((sG 2)) 62 0 (u1 sG 3 0) oG oN bO bG bF bE bZ bP bR bC bT).2.2.2.2.2.2.2.2.1) (by rw [← hX] : xP = (cRun gT ((sG 2)) 62 0 (u1 sG 3 0) oG oN bO bG bF bE bZ bP bR bC bT).2.2.2.2.2.2.2.2.2.1) (by rw [← hX] : xR = (cRun gT ((sG 2)) 62 0 (u1 sG 3 0) oG oN bO bG bF bE bZ bP bR bC bT).2.2.2.2.2.2.2.2.2.2.1) (by rw [← hX] : xC = (cRun gT ((sG 2)) 62 0 (u1 sG 3 0) oG oN bO bG bF bE bZ bP bR bC bT).2.2.2.2.2.2.2.2.2.2.2.1) (by rw [← hX] : xT = (cRun gT ((sG 2)) 62 0 (u1 sG 3 0) oG oN bO bG bF bE bZ bP bR bC bT).2.2.2.2.2.2.2.2.2.2.2.2)))))
          have hP := vPe hP ew_2
          have hD := vDe hD ew_2
          exact x_retI (congrArg iI (b2p_t (by rw [← hX]; trivial)).symm) hend hP hD hS dX3_runOn_102
        · have qi : i < sG 2 := by omega
          obtain ⟨k2, hk2⟩ : ∃ k2, k = k2 + 1 := ⟨k - 1, by omega⟩
          rw [hk2] at hf
          refine x_al hC hl 1 dX3_runOn_24 rfl rfl ?_
          refine x_get3 (v := .ref (ho 0)) hC hP 0 rfl 1 (by decide) tb_180 rfl rfl dX3_runOn_25 ?_
          refine x_al hC hl 1 dX3_runOn_28 rfl rfl ?_
          refine x_get3 (v := .ref (hg 0)) hC hP 0 rfl 0 (by decide) tb_179 rfl rfl dX3_runOn_29 ?_
          refine x_al hC hl 1 dX3_runOn_32 rfl rfl ?_
          refine x_get3 (v := .int (iI (xs 2))) hC hP 0 rfl 2 (by decide) tb_181 rfl rfl dX3_runOn_33 ?_
          refine x_top (iI (sG 2)) (congrArg iI (by exact hx2 : xs 2 = sG 2)) ?_
          refine x_il hC hl 0 dX3_runOn_36 rfl rfl ?_
          refine x_vI (As := [.ref (hg 0), .int (iI (sG 2)), .int (iI i)]) hC (k2_read l D cs ho hg xo xN gT (sG 2) i (by first | assumption | omega) (hl2) (⟨hi0, qi⟩)) lk3_30 (q0 := 1) (ci := 2) rfl rfl rfl (sub_par0 (ws' := wS hs hg ho xs ++ (wO ho cs (u1 (u1 xo 1 (mSg gT i (sG 2))) 2 (cRd gT xN i (sG 2)).2.1) ((cRd gT xN i (sG 2)).2.2) ++ (wG hg cs gT ++ (wB h cs xO xG xF xE xZ xP xR xC xT)))) [1, 2, 3] [0, 4, 5, 6, 7, 8, 9, 10, 11] hP hD hS hA rfl rfl (by decide) rfl rfl rfl) hP hS rfl hl.1 rfl (Nat.le_of_ble_eq_true rfl) ⟨rfl, rfl⟩ ⟨Nat.le_of_ble_eq_true rfl, Nat.le_of_ble_eq_true rfl⟩ ⟨Nat.le_of_ble_eq_true rfl, Nat.le_of_ble_eq_true rfl⟩ dX3_runOn_37 (fun H locs hP hD hS hHs => ?_)
          have hP : va_P D vwCl (wS hs hg ho xs ++ (wO ho cs (u1 (u1 xo 1 (mSg gT i (sG 2))) 2 (cRd gT xN i (sG 2)).2.1) ((cRd gT xN i (sG 2)).2.2) ++ (wG hg cs gT ++ (wB h cs xO xG xF xE xZ xP xR xC xT)))) H := hP
          have hD : va_D A (wS hs hg ho xs ++ (wO ho cs (u1 (u1 xo 1 (mSg gT i (sG 2))) 2 (cRd gT xN i (sG 2)).2.1) ((cRd gT xN i (sG 2)).2.2) ++ (wG hg cs gT ++ (wB h cs xO xG xF xE xZ xP xR xC xT)))) := hD
          refine x_if_ne_b hC 59 dX3_runOn_40 (by decide) (fun c_40 => ?_) (fun c_40 => ?_)
          · have qk := cRd_ok c_40
            have qr := cRd_rg (T := gT) (N := xN) (a := i) (n := sG 2) ⟨hi0, qi⟩ hl2.2
            have qra := qr.2 c_40
            have qb := hT i hi0 (by omega)
            have qsg := mSg_rg (T := gT) hT (a := i) (n := sG 2) hi0 hl2.2
            have qdv := dV_rg (T := xT) (O := xO) hI (mSg gT i (sG 2)) ((cRd gT xN i (sG 2)).2.2 0) ((cRd gT xN i (sG 2)).2.2 1) ((cRd gT xN i (sG 2)).2.2 2)
            refine x_al hC hl 1 dX3_runOn_59 rfl rfl ?_
            refine x_get3 (v := .ref (ho 0)) hC hP 0 rfl 1 (by decide) tb_180 rfl rfl dX3_runOn_60 ?_
            refine x_al hC hl 2 dX3_runOn_63 rfl rfl ?_
            refine x_vI (As := [.ref (h 0)]) (val := iI (dV xO xG xF xE xZ xP xR xC xT ((mSg gT i (sG 2))) (((cRd gT xN i (sG 2)).2.2) 0) (((cRd gT xN i (sG 2)).2.2) 1) (((cRd gT xN i (sG 2)).2.2) 2))) hC (k2_doOn l D cs ho h (u1 (u1 xo 1 (mSg gT i (sG 2))) 2 (cRd gT xN i (sG 2)).2.1) ((cRd gT xN i (sG 2)).2.2) xO xG xF xE xZ xP xR xC xT (hI) ((by show -2147483648 ≤ (mSg gT i (sG 2)) ∧ (mSg gT i (sG 2)) ≤ 2147483647; omega)) (qk.1) (qk.2.2)) lk3_42 (q0 := 1) (ci := 2) rfl rfl rfl (sub_par0 (ws' := wS hs hg ho xs ++ (wO ho cs (u1 (u1 xo 1 (mSg gT i (sG 2))) 2 (cRd gT xN i (sG 2)).2.1) ((cRd gT xN i (sG 2)).2.2) ++ (wG hg cs gT ++ (wB h cs (dO xO xG xF xE xZ xP xR xC xT ((mSg gT i (sG 2))) (((cRd gT xN i (sG 2)).2.2) 0) (((cRd gT xN i (sG 2)).2.2) 1) (((cRd gT xN i (sG 2)).2.2) 2)) (dG xO xG xF xE xZ xP xR xC xT ((mSg gT i (sG 2))) (((cRd gT xN i (sG 2)).2.2) 0) (((cRd gT xN i (sG 2)).2.2) 1) (((cRd gT xN i (sG 2)).2.2) 2)) (dF xO xG xF xE xZ xP xR xC xT ((mSg gT i (sG 2))) (((cRd gT xN i (sG 2)).2.2) 0) (((cRd gT xN i (sG 2)).2.2) 1) (((cRd gT xN i (sG 2)).2.2) 2)) (dE xO xG xF xE xZ xP xR xC xT ((mSg gT i (sG 2))) (((cRd gT xN i (sG 2)).2.2) 0) (((cRd gT xN i (sG 2)).2.2) 1) (((cRd gT xN i (sG 2)).2.2) 2)) (dZ xO xG xF xE xZ xP xR xC xT ((mSg gT i (sG 2))) (((cRd gT xN i (sG 2)).2.2) 0) (((cRd gT xN i (sG 2)).2.2) 1) (((cRd gT xN i (sG 2)).2.2) 2)) (dP xO xG xF xE xZ xP xR xC xT ((mSg gT i (sG 2))) (((cRd gT xN i (sG 2)).2.2) 0) (((cRd gT xN i (sG 2)).2.2) 1) (((cRd gT xN i (sG 2)).2.2) 2)) (dR xO xG xF xE xZ xP xR xC xT ((mSg gT i (sG 2))) (((cRd gT xN i (sG 2)).2.2) 0) (((cRd gT xN i (sG 2)).2.2) 1) (((cRd gT xN i (sG 2)).2.2) 2)) (dC xO xG xF xE xZ xP xR xC xT ((mSg gT i (sG 2))) (((cRd gT xN i (sG 2)).2.2) 0) (((cRd gT xN i (sG 2)).2.2) 1) (((cRd gT xN i (sG 2)).2.2) 2)) (dT xO xG xF xE xZ xP xR xC xT ((mSg gT i (sG 2))) (((cRd gT xN i (sG 2)).2.2) 0) (((cRd gT xN i (sG 2)).2.2) 1) (((cRd gT xN i (sG 2)).2.2) 2)))))) [1, 2, 4, 5, 6, 7, 8, 9, 10, 11] [0, 3] hP hD hS hA rfl rfl (by decide) rfl rfl rfl) hP hS rfl hl.1 rfl (Nat.le_of_ble_eq_true rfl) ⟨rfl, rfl⟩ ⟨Nat.le_of_ble_eq_true rfl, Nat.le_of_ble_eq_true rfl⟩ ⟨Nat.le_of_ble_eq_true rfl, Nat.le_of_ble_eq_true rfl⟩ dX3_runOn_64 (fun H locs hP hD hS hHs => ?_)
            have hP : va_P D vwCl (wS hs hg ho xs ++ (wO ho cs (u1 (u1 xo 1 (mSg gT i (sG 2))) 2 (cRd gT xN i (sG 2)).2.1) ((cRd gT xN i (sG 2)).2.2) ++ (wG hg cs gT ++ (wB h cs (dO xO xG xF xE xZ xP xR xC xT ((mSg gT i (sG 2))) (((cRd gT xN i (sG 2)).2.2) 0) (((cRd gT xN i (sG 2)).2.2) 1) (((cRd gT xN i (sG 2)).2.2) 2)) (dG xO xG xF xE xZ xP xR xC xT ((mSg gT i (sG 2))) (((cRd gT xN i (sG 2)).2.2) 0) (((cRd gT xN i (sG 2)).2.2) 1) (((cRd gT xN i (sG 2)).2.2) 2)) (dF xO xG xF xE xZ xP xR xC xT ((mSg gT i (sG 2))) (((cRd gT xN i (sG 2)).2.2) 0) (((cRd gT xN i (sG 2)).2.2) 1) (((cRd gT xN i (sG 2)).2.2) 2)) (dE xO xG xF xE xZ xP xR xC xT ((mSg gT i (sG 2))) (((cRd gT xN i (sG 2)).2.2) 0) (((cRd gT xN i (sG 2)).2.2) 1) (((cRd gT xN i (sG 2)).2.2) 2)) (dZ xO xG xF xE xZ xP xR xC xT ((mSg gT i (sG 2))) (((cRd gT xN i (sG 2)).2.2) 0) (((cRd gT xN i (sG 2)).2.2) 1) (((cRd gT xN i (sG 2)).2.2) 2)) (dP xO xG xF xE xZ xP xR xC xT ((mSg gT i (sG 2))) (((cRd gT xN i (sG 2)).2.2) 0) (((cRd gT xN i (sG 2)).2.2) 1) (((cRd gT xN i (sG 2)).2.2) 2)) (dR xO xG xF xE xZ xP xR xC xT ((mSg gT i (sG 2))) (((cRd gT xN i (sG 2)).2.2) 0) (((cRd gT xN i (sG 2)).2.2) 1) (((cRd gT xN i (sG 2)).2.2) 2)) (dC xO xG xF xE xZ xP xR xC xT ((mSg gT i (sG 2))) (((cRd gT xN i (sG 2)).2.2) 0) (((cRd gT xN i (sG 2)).2.2) 1) (((cRd gT xN i (sG 2)).2.2) 2)) (dT xO xG xF xE xZ xP xR xC xT ((mSg gT i (sG 2))) (((cRd gT xN i (sG 2)).2.2) 0) (((cRd gT xN i (sG 2)).2.2) 1) (((cRd gT xN i (sG 2)).2.2) 2)))))) H := hP
            have hD : va_D A (wS hs hg ho xs ++ (wO ho cs (u1 (u1 xo 1 (mSg gT i (sG 2))) 2 (cRd gT xN i (sG 2)).2.1) ((cRd gT xN i (sG 2)).2.2) ++ (wG hg cs gT ++ (wB h cs (dO xO xG xF xE xZ xP xR xC xT ((mSg gT i (sG 2))) (((cRd gT xN i (sG 2)).2.2) 0) (((cRd gT xN i (sG 2)).2.2) 1) (((cRd gT xN i (sG 2)).2.2) 2)) (dG xO xG xF xE xZ xP xR xC xT ((mSg gT i (sG 2))) (((cRd gT xN i (sG 2)).2.2) 0) (((cRd gT xN i (sG 2)).2.2) 1) (((cRd gT xN i (sG 2)).2.2) 2)) (dF xO xG xF xE xZ xP xR xC xT ((mSg gT i (sG 2))) (((cRd gT xN i (sG 2)).2.2) 0) (((cRd gT xN i (sG 2)).2.2) 1) (((cRd gT xN i (sG 2)).2.2) 2)) (dE xO xG xF xE xZ xP xR xC xT ((mSg gT i (sG 2))) (((cRd gT xN i (sG 2)).2.2) 0) (((cRd gT xN i (sG 2)).2.2) 1) (((cRd gT xN i (sG 2)).2.2) 2)) (dZ xO xG xF xE xZ xP xR xC xT ((mSg gT i (sG 2))) (((cRd gT xN i (sG 2)).2.2) 0) (((cRd gT xN i (sG 2)).2.2) 1) (((cRd gT xN i (sG 2)).2.2) 2)) (dP xO xG xF xE xZ xP xR xC xT ((mSg gT i (sG 2))) (((cRd gT xN i (sG 2)).2.2) 0) (((cRd gT xN i (sG 2)).2.2) 1) (((cRd gT xN i (sG 2)).2.2) 2)) (dR xO xG xF xE xZ xP xR xC xT ((mSg gT i (sG 2))) (((cRd gT xN i (sG 2)).2.2) 0) (((cRd gT xN i (sG 2)).2.2) 1) (((cRd gT xN i (sG 2)).2.2) 2)) (dC xO xG xF xE xZ xP xR xC xT ((mSg gT i (sG 2))) (((cRd gT xN i (sG 2)).2.2) 0) (((cRd gT xN i (sG 2)).2.2) 1) (((cRd gT xN i (sG 2)).2.2) 2)) (dT xO xG xF xE xZ xP xR xC xT ((mSg gT i (sG 2))) (((cRd gT xN i (sG 2)).2.2) 0) (((cRd gT xN i (sG 2)).2.2) 1) (((cRd gT xN i (sG 2)).2.2) 2)))))) := hD
            refine x_is hC [(3, .int (iI (dV xO xG xF xE xZ xP xR xC xT ((mSg gT i (sG 2))) (((cRd gT xN i (sG 2)).2.2) 0) (((cRd gT xN i (sG 2)).2.2) 1) (((cRd gT xN i (sG 2)).2.2) 2)))), (2, .int (iI i)), (0, .ref (hs 0)), (1, .ref (h 0))] hl dX3_runOn_67 rfl (by decide) rfl (fun ls hl => ?_)
            refine x_il hC hl 0 dX3_runOn_68 rfl rfl ?_
            refine x_if_ge hC 80 dX3_runOn_69 (by decide) (by omega) (fun c_69 => ?_) (fun c_69 => ?_)
            · refine x_al hC hl 2 dX3_runOn_80 rfl rfl ?_
              refine x_dup hC dX3_runOn_81 rfl ?_
              refine x_get3 (v := .int (iI (xs 3))) hC hP 0 rfl 3 (by decide) tb_182 rfl rfl dX3_runOn_82 ?_
              refine x_ic hC dX3_runOn_85 ?_
              refine x_iadd hC dX3_runOn_86 ?_
              refine x_put3_3 hC hP hD hS 0 rfl tb_182 dX3_runOn_87 (fun H locs hP hD hS => ?_)
              have hP : va_P D vwCl (wS hs hg ho (u1 xs 3 ((xs 3) + 1)) ++ (wO ho cs (u1 (u1 xo 1 (mSg gT i (sG 2))) 2 (cRd gT xN i (sG 2)).2.1) ((cRd gT xN i (sG 2)).2.2) ++ (wG hg cs gT ++ (wB h cs (dO xO xG xF xE xZ xP xR xC xT ((mSg gT i (sG 2))) (((cRd gT xN i (sG 2)).2.2) 0) (((cRd gT xN i (sG 2)).2.2) 1) (((cRd gT xN i (sG 2)).2.2) 2)) (dG xO xG xF xE xZ xP xR xC xT ((mSg gT i (sG 2))) (((cRd gT xN i (sG 2)).2.2) 0) (((cRd gT xN i (sG 2)).2.2) 1) (((cRd gT xN i (sG 2)).2.2) 2)) (dF xO xG xF xE xZ xP xR xC xT ((mSg gT i (sG 2))) (((cRd gT xN i (sG 2)).2.2) 0) (((cRd gT xN i (sG 2)).2.2) 1) (((cRd gT xN i (sG 2)).2.2) 2)) (dE xO xG xF xE xZ xP xR xC xT ((mSg gT i (sG 2))) (((cRd gT xN i (sG 2)).2.2) 0) (((cRd gT xN i (sG 2)).2.2) 1) (((cRd gT xN i (sG 2)).2.2) 2)) (dZ xO xG xF xE xZ xP xR xC xT ((mSg gT i (sG 2))) (((cRd gT xN i (sG 2)).2.2) 0) (((cRd gT xN i (sG 2)).2.2) 1) (((cRd gT xN i (sG 2)).2.2) 2)) (dP xO xG xF xE xZ xP xR xC xT ((mSg gT i (sG 2))) (((cRd gT xN i (sG 2)).2.2) 0) (((cRd gT xN i (sG 2)).2.2) 1) (((cRd gT xN i (sG 2)).2.2) 2)) (dR xO xG xF xE xZ xP xR xC xT ((mSg gT i (sG 2))) (((cRd gT xN i (sG 2)).2.2) 0) (((cRd gT xN i (sG 2)).2.2) 1) (((cRd gT xN i (sG 2)).2.2) 2)) (dC xO xG xF xE xZ xP xR xC xT ((mSg gT i (sG 2))) (((cRd gT xN i (sG 2)).2.2) 0) (((cRd gT xN i (sG 2)).2.2) 1) (((cRd gT xN i (sG 2)).2.2) 2)) (dT xO xG xF xE xZ xP xR xC xT ((mSg gT i (sG 2))) (((cRd gT xN i (sG 2)).2.2) 0) (((cRd gT xN i (sG 2)).2.2) 1) (((cRd gT xN i (sG 2)).2.2) 2)))))) H := hP
              have hD : va_D A (wS hs hg ho (u1 xs 3 ((xs 3) + 1)) ++ (wO ho cs (u1 (u1 xo 1 (mSg gT i (sG 2))) 2 (cRd gT xN i (sG 2)).2.1) ((cRd gT xN i (sG 2)).2.2) ++ (wG hg cs gT ++ (wB h cs (dO xO xG xF xE xZ xP xR xC xT ((mSg gT i (sG 2))) (((cRd gT xN i (sG 2)).2.2) 0) (((cRd gT xN i (sG 2)).2.2) 1) (((cRd gT xN i (sG 2)).2.2) 2)) (dG xO xG xF xE xZ xP xR xC xT ((mSg gT i (sG 2))) (((cRd gT xN i (sG 2)).2.2) 0) (((cRd gT xN i (sG 2)).2.2) 1) (((cRd gT xN i (sG 2)).2.2) 2)) (dF xO xG xF xE xZ xP xR xC xT ((mSg gT i (sG 2))) (((cRd gT xN i (sG 2)).2.2) 0) (((cRd gT xN i (sG 2)).2.2) 1) (((cRd gT xN i (sG 2)).2.2) 2)) (dE xO xG xF xE xZ xP xR xC xT ((mSg gT i (sG 2))) (((cRd gT xN i (sG 2)).2.2) 0) (((cRd gT xN i (sG 2)).2.2) 1) (((cRd gT xN i (sG 2)).2.2) 2)) (dZ xO xG xF xE xZ xP xR xC xT ((mSg gT i (sG 2))) (((cRd gT xN i (sG 2)).2.2) 0) (((cRd gT xN i (sG 2)).2.2) 1) (((cRd gT xN i (sG 2)).2.2) 2)) (dP xO xG xF xE xZ xP xR xC xT ((mSg gT i (sG 2))) (((cRd gT xN i (sG 2)).2.2) 0) (((cRd gT xN i (sG 2)).2.2) 1) (((cRd gT xN i (sG 2)).2.2) 2)) (dR xO xG xF xE xZ xP xR xC xT ((mSg gT i (sG 2))) (((cRd gT xN i (sG 2)).2.2) 0) (((cRd gT xN i (sG 2)).2.2) 1) (((cRd gT xN i (sG 2)).2.2) 2)) (dC xO xG xF xE xZ xP xR xC xT ((mSg gT i (sG 2))) (((cRd gT xN i (sG 2)).2.2) 0) (((cRd gT xN i (sG 2)).2.2) 1) (((cRd gT xN i (sG 2)).2.2) 2)) (dT xO xG xF xE xZ xP xR xC xT ((mSg gT i (sG 2))) (((cRd gT xN i (sG 2)).2.2) 0) (((cRd gT xN i (sG 2)).2.2) 1) (((cRd gT xN i (sG 2)).2.2) 2)))))) := hD
              refine x_al hC hl 2 dX3_runOn_90 rfl rfl ?_
              refine x_get3 (v := .ref (ho 0)) hC hP 0 rfl 1 (by decide) tb_180 rfl rfl dX3_runOn_91 ?_
              refine x_vI (As := []) (val := iI ((cRd gT xN i (sG 2)).2.1)) hC (k2_next l D cs ho (u1 (u1 xo 1 (mSg gT i (sG 2))) 2 (cRd gT xN i (sG 2)).2.1) ((cRd gT xN i (sG 2)).2.2) ) lk3_34 (q0 := 1) (ci := 2) rfl rfl rfl (sub_par0 (ws' := wS hs hg ho (u1 xs 3 ((xs 3) + 1)) ++ (wO ho cs (u1 (u1 xo 1 (mSg gT i (sG 2))) 2 (cRd gT xN i (sG 2)).2.1) ((cRd gT xN i (sG 2)).2.2) ++ (wG hg cs gT ++ (wB h cs (dO xO xG xF xE xZ xP xR xC xT ((mSg gT i (sG 2))) (((cRd gT xN i (sG 2)).2.2) 0) (((cRd gT xN i (sG 2)).2.2) 1) (((cRd gT xN i (sG 2)).2.2) 2)) (dG xO xG xF xE xZ xP xR xC xT ((mSg gT i (sG 2))) (((cRd gT xN i (sG 2)).2.2) 0) (((cRd gT xN i (sG 2)).2.2) 1) (((cRd gT xN i (sG 2)).2.2) 2)) (dF xO xG xF xE xZ xP xR xC xT ((mSg gT i (sG 2))) (((cRd gT xN i (sG 2)).2.2) 0) (((cRd gT xN i (sG 2)).2.2) 1) (((cRd gT xN i (sG 2)).2.2) 2)) (dE xO xG xF xE xZ xP xR xC xT ((mSg gT i (sG 2))) (((cRd gT xN i (sG 2)).2.2) 0) (((cRd gT xN i (sG 2)).2.2) 1) (((cRd gT xN i (sG 2)).2.2) 2)) (dZ xO xG xF xE xZ xP xR xC xT ((mSg gT i (sG 2))) (((cRd gT xN i (sG 2)).2.2) 0) (((cRd gT xN i (sG 2)).2.2) 1) (((cRd gT xN i (sG 2)).2.2) 2)) (dP xO xG xF xE xZ xP xR xC xT ((mSg gT i (sG 2))) (((cRd gT xN i (sG 2)).2.2) 0) (((cRd gT xN i (sG 2)).2.2) 1) (((cRd gT xN i (sG 2)).2.2) 2)) (dR xO xG xF xE xZ xP xR xC xT ((mSg gT i (sG 2))) (((cRd gT xN i (sG 2)).2.2) 0) (((cRd gT xN i (sG 2)).2.2) 1) (((cRd gT xN i (sG 2)).2.2) 2)) (dC xO xG xF xE xZ xP xR xC xT ((mSg gT i (sG 2))) (((cRd gT xN i (sG 2)).2.2) 0) (((cRd gT xN i (sG 2)).2.2) 1) (((cRd gT xN i (sG 2)).2.2) 2)) (dT xO xG xF xE xZ xP xR xC xT ((mSg gT i (sG 2))) (((cRd gT xN i (sG 2)).2.2) 0) (((cRd gT xN i (sG 2)).2.2) 1) (((cRd gT xN i (sG 2)).2.2) 2)))))) [1, 2] [0, 3, 4, 5, 6, 7, 8, 9, 10, 11] hP hD hS hA rfl rfl (by decide) rfl rfl rfl) hP hS rfl hl.1 rfl (Nat.le_of_ble_eq_true rfl) ⟨rfl, rfl⟩ ⟨Nat.le_of_ble_eq_true rfl, Nat.le_of_ble_eq_true rfl⟩ ⟨Nat.le_of_ble_eq_true rfl, Nat.le_of_ble_eq_true rfl⟩ dX3_runOn_94 (fun H locs hP hD hS hHs => ?_)
              refine x_is hC [(2, .int (iI ((cRd gT xN i (sG 2)).2.1))), (3, .int (iI (dV xO xG xF xE xZ xP xR xC xT ((mSg gT i (sG 2))) (((cRd gT xN i (sG 2)).2.2) 0) (((cRd gT xN i (sG 2)).2.2) 1) (((cRd gT xN i (sG 2)).2.2) 2)))), (0, .ref (hs 0)), (1, .ref (h 0))] hl dX3_runOn_97 rfl (by decide) rfl (fun ls hl => ?_)
              refine x_goto hC 7 dX3_runOn_98 (by decide) ?_
              have hl := lv_sub (l' := [(2, .int (iI ((cRd gT xN i (sG 2)).2.1))), (0, .ref (hs 0)), (1, .ref (h 0))]) hl [0, 2, 3] rfl
              exact ih_7 ((cRd gT xN i (sG 2)).2.1) k2 (u1 xs 3 ((xs 3) + 1)) (u1 (u1 xo 1 (mSg gT i (sG 2))) 2 (cRd gT xN i (sG 2)).2.1) ((cRd gT xN i (sG 2)).2.2) (dO xO xG xF xE xZ xP xR xC xT ((mSg gT i (sG 2))) (((cRd gT xN i (sG 2)).2.2) 0) (((cRd gT xN i (sG 2)).2.2) 1) (((cRd gT xN i (sG 2)).2.2) 2)) (dG xO xG xF xE xZ xP xR xC xT ((mSg gT i (sG 2))) (((cRd gT xN i (sG 2)).2.2) 0) (((cRd gT xN i (sG 2)).2.2) 1) (((cRd gT xN i (sG 2)).2.2) 2)) (dF xO xG xF xE xZ xP xR xC xT ((mSg gT i (sG 2))) (((cRd gT xN i (sG 2)).2.2) 0) (((cRd gT xN i (sG 2)).2.2) 1) (((cRd gT xN i (sG 2)).2.2) 2)) (dE xO xG xF xE xZ xP xR xC xT ((mSg gT i (sG 2))) (((cRd gT xN i (sG 2)).2.2) 0) (((cRd gT xN i (sG 2)).2.2) 1) (((cRd gT xN i (sG 2)).2.2) 2)) (dZ xO xG xF xE xZ xP xR xC xT ((mSg gT i (sG 2))) (((cRd gT xN i (sG 2)).2.2) 0) (((cRd gT xN i (sG 2)).2.2) 1) (((cRd gT xN i (sG 2)).2.2) 2)) (dP xO xG xF xE xZ xP xR xC xT ((mSg gT i (sG 2))) (((cRd gT xN i (sG 2)).2.2) 0) (((cRd gT xN i (sG 2)).2.2) 1) (((cRd gT xN i (sG 2)).2.2) 2)) (dR xO xG xF xE xZ xP xR xC xT ((mSg gT i (sG 2))) (((cRd gT xN i (sG 2)).2.2) 0) (((cRd gT xN i (sG 2)).2.2) 1) (((cRd gT xN i (sG 2)).2.2) 2)) (dC xO xG xF xE xZ xP xR xC xT ((mSg gT i (sG 2))) (((cRd gT xN i (sG 2)).2.2) 0) (((cRd gT xN i (sG 2)).2.2) 1) (((cRd gT xN i (sG 2)).2.2) 2)) (dT xO xG xF xE xZ xP xR xC xT ((mSg gT i (sG 2))) (((cRd gT xN i (sG 2)).2.2) 0) (((cRd gT xN i (sG 2)).2.2) 1) (((cRd gT xN i (sG 2)).2.2) 2)) (by omega) (by omega) (by show (xs 2) = sG 2; omega) (by show 0 ≤ ((xs 3) + 1) ∧ ((xs 3) + 1) ≤ ((cRd gT xN i (sG 2)).2.1); omega) (IBG_do hI _ _ _ _) (by omega) ((cRun_s (by omega) c_40 (by omega)).symm.trans hf) (by omega) H locs ls hP hD hS hl
            · have hX := (cRun_f (k := k2) qi c_40 (by omega)).symm.trans hf
              refine x_al hC hl 2 dX3_runOn_72 rfl rfl ?_
              refine x_il hC hl 1 dX3_runOn_73 rfl rfl ?_
              refine x_ic hC dX3_runOn_74 ?_
              refine x_il hC hl 0 dX3_runOn_75 rfl rfl ?_
              refine x_vI (As := [.int (iI i), .int (iI 2), .int (iI (dV xO xG xF xE xZ xP xR xC xT ((mSg gT i (sG 2))) (((cRd gT xN i (sG 2)).2.2) 0) (((cRd gT xN i (sG 2)).2.2) 1) (((cRd gT xN i (sG 2)).2.2) 2)))]) hC (k3_stopAt l D cs hs hg ho xs i 2 (dV xO xG xF xE xZ xP xR xC xT ((mSg gT i (sG 2))) (((cRd gT xN i (sG 2)).2.2) 0) (((cRd gT xN i (sG 2)).2.2) 1) (((cRd gT xN i (sG 2)).2.2) 2)) ) lk3_38 (q0 := 0) (ci := 3) rfl rfl rfl (sub_par0 (ws' := wS hs hg ho (u1 (u1 (u1 xs 4 i) 5 2) 6 (dV xO xG xF xE xZ xP xR xC xT ((mSg gT i (sG 2))) (((cRd gT xN i (sG 2)).2.2) 0) (((cRd gT xN i (sG 2)).2.2) 1) (((cRd gT xN i (sG 2)).2.2) 2))) ++ (wO ho cs (u1 (u1 xo 1 (mSg gT i (sG 2))) 2 (cRd gT xN i (sG 2)).2.1) ((cRd gT xN i (sG 2)).2.2) ++ (wG hg cs gT ++ (wB h cs (dO xO xG xF xE xZ xP xR xC xT ((mSg gT i (sG 2))) (((cRd gT xN i (sG 2)).2.2) 0) (((cRd gT xN i (sG 2)).2.2) 1) (((cRd gT xN i (sG 2)).2.2) 2)) (dG xO xG xF xE xZ xP xR xC xT ((mSg gT i (sG 2))) (((cRd gT xN i (sG 2)).2.2) 0) (((cRd gT xN i (sG 2)).2.2) 1) (((cRd gT xN i (sG 2)).2.2) 2)) (dF xO xG xF xE xZ xP xR xC xT ((mSg gT i (sG 2))) (((cRd gT xN i (sG 2)).2.2) 0) (((cRd gT xN i (sG 2)).2.2) 1) (((cRd gT xN i (sG 2)).2.2) 2)) (dE xO xG xF xE xZ xP xR xC xT ((mSg gT i (sG 2))) (((cRd gT xN i (sG 2)).2.2) 0) (((cRd gT xN i (sG 2)).2.2) 1) (((cRd gT xN i (sG 2)).2.2) 2)) (dZ xO xG xF xE xZ xP xR xC xT ((mSg gT i (sG 2))) (((cRd gT xN i (sG 2)).2.2) 0) (((cRd gT xN i (sG 2)).2.2) 1) (((cRd gT xN i (sG 2)).2.2) 2)) (dP xO xG xF xE xZ xP xR xC xT ((mSg gT i (sG 2))) (((cRd gT xN i (sG 2)).2.2) 0) (((cRd gT xN i (sG 2)).2.2) 1) (((cRd gT xN i (sG 2)).2.2) 2)) (dR xO xG xF xE xZ xP xR xC xT ((mSg gT i (sG 2))) (((cRd gT xN i (sG 2)).2.2) 0) (((cRd gT xN i (sG 2)).2.2) 1) (((cRd gT xN i (sG 2)).2.2) 2)) (dC xO xG xF xE xZ xP xR xC xT ((mSg gT i (sG 2))) (((cRd gT xN i (sG 2)).2.2) 0) (((cRd gT xN i (sG 2)).2.2) 1) (((cRd gT xN i (sG 2)).2.2) 2)) (dT xO xG xF xE xZ xP xR xC xT ((mSg gT i (sG 2))) (((cRd gT xN i (sG 2)).2.2) 0) (((cRd gT xN i (sG 2)).2.2) 1) (((cRd gT xN i (sG 2)).2.2) 2)))))) [0] [1, 2, 3, 4, 5, 6, 7, 8, 9, 10, 11] hP hD hS hA rfl rfl (by decide) rfl rfl rfl) hP hS rfl hl.1 rfl (Nat.le_of_ble_eq_true rfl) ⟨rfl, rfl⟩ ⟨Nat.le_of_ble_eq_true rfl, Nat.le_of_ble_eq_true rfl⟩ ⟨Nat.le_of_ble_eq_true rfl, Nat.le_of_ble_eq_true rfl⟩ dX3_runOn_76 (fun H locs hP hD hS hHs => ?_)
              have hP : va_P D vwCl (wS hs hg ho (u1 (u1 (u1 xs 4 i) 5 2) 6 (dV xO xG xF xE xZ xP xR xC xT ((mSg gT i (sG 2))) (((cRd gT xN i (sG 2)).2.2) 0) (((cRd gT xN i (sG 2)).2.2) 1) (((cRd gT xN i (sG 2)).2.2) 2))) ++ (wO ho cs (u1 (u1 xo 1 (mSg gT i (sG 2))) 2 (cRd gT xN i (sG 2)).2.1) ((cRd gT xN i (sG 2)).2.2) ++ (wG hg cs gT ++ (wB h cs (dO xO xG xF xE xZ xP xR xC xT ((mSg gT i (sG 2))) (((cRd gT xN i (sG 2)).2.2) 0) (((cRd gT xN i (sG 2)).2.2) 1) (((cRd gT xN i (sG 2)).2.2) 2)) (dG xO xG xF xE xZ xP xR xC xT ((mSg gT i (sG 2))) (((cRd gT xN i (sG 2)).2.2) 0) (((cRd gT xN i (sG 2)).2.2) 1) (((cRd gT xN i (sG 2)).2.2) 2)) (dF xO xG xF xE xZ xP xR xC xT ((mSg gT i (sG 2))) (((cRd gT xN i (sG 2)).2.2) 0) (((cRd gT xN i (sG 2)).2.2) 1) (((cRd gT xN i (sG 2)).2.2) 2)) (dE xO xG xF xE xZ xP xR xC xT ((mSg gT i (sG 2))) (((cRd gT xN i (sG 2)).2.2) 0) (((cRd gT xN i (sG 2)).2.2) 1) (((cRd gT xN i (sG 2)).2.2) 2)) (dZ xO xG xF xE xZ xP xR xC xT ((mSg gT i (sG 2))) (((cRd gT xN i (sG 2)).2.2) 0) (((cRd gT xN i (sG 2)).2.2) 1) (((cRd gT xN i (sG 2)).2.2) 2)) (dP xO xG xF xE xZ xP xR xC xT ((mSg gT i (sG 2))) (((cRd gT xN i (sG 2)).2.2) 0) (((cRd gT xN i (sG 2)).2.2) 1) (((cRd gT xN i (sG 2)).2.2) 2)) (dR xO xG xF xE xZ xP xR xC xT ((mSg gT i (sG 2))) (((cRd gT xN i (sG 2)).2.2) 0) (((cRd gT xN i (sG 2)).2.2) 1) (((cRd gT xN i (sG 2)).2.2) 2)) (dC xO xG xF xE xZ xP xR xC xT ((mSg gT i (sG 2))) (((cRd gT xN i (sG 2)).2.2) 0) (((cRd gT xN i (sG 2)).2.2) 1) (((cRd gT xN i (sG 2)).2.2) 2)) (dT xO xG xF xE xZ xP xR xC xT ((mSg gT i (sG 2))) (((cRd gT xN i (sG 2)).2.2) 0) (((cRd gT xN i (sG 2)).2.2) 1) (((cRd gT xN i (sG 2)).2.2) 2)))))) H := hP
              have hD : va_D A (wS hs hg ho (u1 (u1 (u1 xs 4 i) 5 2) 6 (dV xO xG xF xE xZ xP xR xC xT ((mSg gT i (sG 2))) (((cRd gT xN i (sG 2)).2.2) 0) (((cRd gT xN i (sG 2)).2.2) 1) (((cRd gT xN i (sG 2)).2.2) 2))) ++ (wO ho cs (u1 (u1 xo 1 (mSg gT i (sG 2))) 2 (cRd gT xN i (sG 2)).2.1) ((cRd gT xN i (sG 2)).2.2) ++ (wG hg cs gT ++ (wB h cs (dO xO xG xF xE xZ xP xR xC xT ((mSg gT i (sG 2))) (((cRd gT xN i (sG 2)).2.2) 0) (((cRd gT xN i (sG 2)).2.2) 1) (((cRd gT xN i (sG 2)).2.2) 2)) (dG xO xG xF xE xZ xP xR xC xT ((mSg gT i (sG 2))) (((cRd gT xN i (sG 2)).2.2) 0) (((cRd gT xN i (sG 2)).2.2) 1) (((cRd gT xN i (sG 2)).2.2) 2)) (dF xO xG xF xE xZ xP xR xC xT ((mSg gT i (sG 2))) (((cRd gT xN i (sG 2)).2.2) 0) (((cRd gT xN i (sG 2)).2.2) 1) (((cRd gT xN i (sG 2)).2.2) 2)) (dE xO xG xF xE xZ xP xR xC xT ((mSg gT i (sG 2))) (((cRd gT xN i (sG 2)).2.2) 0) (((cRd gT xN i (sG 2)).2.2) 1) (((cRd gT xN i (sG 2)).2.2) 2)) (dZ xO xG xF xE xZ xP xR xC xT ((mSg gT i (sG 2))) (((cRd gT xN i (sG 2)).2.2) 0) (((cRd gT xN i (sG 2)).2.2) 1) (((cRd gT xN i (sG 2)).2.2) 2)) (dP xO xG xF xE xZ xP xR xC xT ((mSg gT i (sG 2))) (((cRd gT xN i (sG 2)).2.2) 0) (((cRd gT xN i (sG 2)).2.2) 1) (((cRd gT xN i (sG 2)).2.2) 2)) (dR xO xG xF xE xZ xP xR xC xT ((mSg gT i (sG 2))) (((cRd gT xN i (sG 2)).2.2) 0) (((cRd gT xN i (sG 2)).2.2) 1) (((cRd gT xN i (sG 2)).2.2) 2)) (dC xO xG xF xE xZ xP xR xC xT ((mSg gT i (sG 2))) (((cRd gT xN i (sG 2)).2.2) 0) (((cRd gT xN i (sG 2)).2.2) 1) (((cRd gT xN i (sG 2)).2.2) 2)) (dT xO xG xF xE xZ xP xR xC xT ((mSg gT i (sG 2))) (((cRd gT xN i (sG 2)).2.2) 0) (((cRd gT xN i (sG 2)).2.2) 1) (((cRd gT xN i (sG 2)).2.2) 2)))))) := hD
              have ew_3 : (wS hs hg ho (u1 (u1 (u1 xs 4 i) 5 2) 6 (dV xO xG xF xE xZ xP xR xC xT ((mSg gT i (sG 2))) (((cRd gT xN i (sG 2)).2.2) 0) (((cRd gT xN i (sG 2)).2.2) 1) (((cRd gT xN i (sG 2)).2.2) 2))) ++ (wO ho cs (u1 (u1 xo 1 (mSg gT i (sG 2))) 2 (cRd gT xN i (sG 2)).2.1) ((cRd gT xN i (sG 2)).2.2) ++ (wG hg cs gT ++ (wB h cs (dO xO xG xF xE xZ xP xR xC xT ((mSg gT i (sG 2))) (((cRd gT xN i (sG 2)).2.2) 0) (((cRd gT xN i (sG 2)).2.2) 1) (((cRd gT xN i (sG 2)).2.2) 2)) (dG xO xG xF xE xZ xP xR xC xT ((mSg gT i (sG 2))) (((cRd gT xN i (sG 2)).2.2) 0) (((cRd gT xN i (sG 2)).2.2) 1) (((cRd gT xN i (sG 2)).2.2) 2)) (dF xO xG xF xE xZ xP xR xC xT ((mSg gT i (sG 2))) (((cRd gT xN i (sG 2)).2.2) 0) (((cRd gT xN i (sG 2)).2.2) 1) (((cRd gT xN i (sG 2)).2.2) 2)) (dE xO xG xF xE xZ xP xR xC xT ((mSg gT i (sG 2))) (((cRd gT xN i (sG 2)).2.2) 0) (((cRd gT xN i (sG 2)).2.2) 1) (((cRd gT xN i (sG 2)).2.2) 2)) (dZ xO xG xF xE xZ xP xR xC xT ((mSg gT i (sG 2))) (((cRd gT xN i (sG 2)).2.2) 0) (((cRd gT xN i (sG 2)).2.2) 1) (((cRd gT xN i (sG 2)).2.2) 2)) (dP xO xG xF xE xZ xP xR xC xT ((mSg gT i (sG 2))) (((cRd gT xN i (sG 2)).2.2) 0) (((cRd gT xN i (sG 2)).2.2) 1) (((cRd gT xN i (sG 2)).2.2) 2)) (dR xO xG xF xE xZ xP xR xC xT ((mSg gT i (sG 2))) (((cRd gT xN i (sG 2)).2.2) 0) (((cRd gT xN i (sG 2)).2.2) 1) (((cRd gT xN i (sG 2)).2.2) 2)) (dC xO xG xF xE xZ xP xR xC xT ((mSg gT i (sG 2))) (((cRd gT xN i (sG 2)).2.2) 0) (((cRd gT xN i (sG 2)).2.2) 1) (((cRd gT xN i (sG 2)).2.2) 2)) (dT xO xG xF xE xZ xP xR xC xT ((mSg gT i (sG 2))) (((cRd gT xN i (sG 2)).2.2) 0) (((cRd gT xN i (sG 2)).2.2) 1) (((cRd gT xN i (sG 2)).2.2) 2)))))) = (wS hs hg ho ((cRun gT ((sG 2)) 62 0 (u1 sG 3 0) oG oN bO bG bF bE bZ bP bR bC bT).2.1) ++ (wO ho cs ((cRun gT ((sG 2)) 62 0 (u1 sG 3 0) oG oN bO bG bF bE bZ bP bR bC bT).2.2.1) ((cRun gT ((sG 2)) 62 0 (u1 sG 3 0) oG oN bO bG bF bE bZ bP bR bC bT).2.2.2.1) ++ (wG hg cs gT ++ (wB h cs ((cRun gT ((sG 2)) 62 0 (u1 sG 3 0) oG oN bO bG bF bE bZ bP bR bC bT).2.2.2.2.1) ((cRun gT ((sG 2)) 62 0 (u1 sG 3 0) oG oN bO bG bF bE bZ bP bR bC bT).2.2.2.2.2.1) ((cRun gT ((sG 2)) 62 0 (u1 sG 3 0) oG oN bO bG bF bE bZ bP bR bC bT).2.2.2.2.2.2.1) ((cRun gT ((sG 2)) 62 0 (u1 sG 3 0) oG oN bO bG bF bE bZ bP bR bC bT).2.2.2.2.2.2.2.1) ((cRun gT ((sG 2)) 62 0 (u1 sG 3 0) oG oN bO bG bF bE bZ bP bR bC bT).2.2.2.2.2.2.2.2.1) ((cRun gT ((sG 2)) 62 0 (u1 sG 3 0) oG oN bO bG bF bE bZ bP bR bC bT).2.2.2.2.2.2.2.2.2.1) ((cRun gT ((sG 2)) 62 0 (u1 sG 3 0) oG oN bO bG bF bE bZ bP bR bC bT).2.2.2.2.2.2.2.2.2.2.1) ((cRun gT ((sG 2)) 62 0 (u1 sG 3 0) oG oN bO bG bF bE bZ bP bR bC bT).2.2.2.2.2.2.2.2.2.2.2.1) ((cRun gT ((sG 2)) 62 0 (u1 sG 3 0) oG oN bO bG bF bE bZ bP bR bC bT).2.2.2.2.2.2.2.2.2.2.2.2))))) := (appc (wSc (by rw [← hX] : u1 (u1 (u1 xs 4 i) 5 2) 6 (dV xO xG xF xE xZ xP xR xC xT ((mSg gT i (sG 2))) (((cRd gT xN i (sG 2)).2.2) 0) (((cRd gT xN i (sG 2)).2.2) 1) (((cRd gT xN i (sG 2)).2.2) 2)) = (cRun gT ((sG 2)) 62 0 (u1 sG 3 0) oG oN bO bG bF bE bZ bP bR bC bT).2.1)) (appc (wOc (by rw [← hX] : u1 (u1 xo 1 (mSg gT i (sG 2))) 2 (cRd gT xN i (sG 2)).2.1 = (cRun gT ((sG 2)) 62 0 (u1 sG 3 0) oG oN bO bG bF bE bZ bP bR bC bT).2.2.1) (by rw [← hX] : (cRd gT xN i (sG 2)).2.2 = (cRun gT ((sG 2)) 62 0 (u1 sG 3 0) oG oN bO bG bF bE bZ bP bR bC bT).2.2.2.1)) (appc rfl (wBc (by rw [← hX] : dO xO xG xF xE xZ xP xR xC xT ((mSg gT i (sG 2))) (((cRd gT xN i (sG 2)).2.2) 0) (((cRd gT xN i (sG 2)).2.2) 1) (((cRd gT xN i (sG 2)).2.2) 2) = (cRun gT ((sG 2)) 62 0 (u1 sG 3 0) oG oN bO bG bF bE bZ bP bR bC bT).2.2.2.2.1) (by rw [← hX] : dG xO xG xF xE xZ xP xR xC xT ((mSg gT i (sG 2))) (((cRd gT xN i (sG 2)).2.2) 0) (((cRd gT xN i (sG 2)).2.2) 1) (((cRd gT xN i (sG 2)).2.2) 2) = (cRun gT ((sG 2)) 62 0 (u1 sG 3 0) oG oN bO bG bF bE bZ bP bR bC bT).2.2.2.2.2.1) (by rw [← hX] : dF xO xG xF xE xZ xP xR xC xT ((mSg gT i (sG 2))) (((cRd gT xN i (sG 2)).2.2) 0) (((cRd gT xN i (sG 2)).2.2) 1) (((cRd gT xN i (sG 2)).2.2) 2) = (cRun gT ((sG 2)) 62 0 (u1 sG 3 0) oG oN bO bG bF bE bZ bP bR bC bT).2.2.2.2.2.2.1) (by rw [← hX] : dE xO xG xF xE xZ xP xR xC xT ((mSg gT i (sG 2))) (((cRd gT xN i (sG 2)).2.2) 0) (((cRd gT xN i (sG 2)).2.2) 1) (((cRd gT xN i (sG 2)).2.2) 2) = (cRun gT ((sG 2)) 62 0 (u1 sG 3 0) oG oN bO bG bF bE bZ bP bR bC bT).2.2.2.2.2.2.2.1) (by rw [← hX] : dZ xO xG xF xE xZ xP xR xC xT ((mSg gT i (sG 2))) (((cRd gT xN i (sG 2)).2.2) 0) (((cRd gT xN i (sG 2)).2.2) 1) (((cRd gT xN i (sG 2)).2.2) 2) = (cRun gT ((sG 2)) 62 0 (u1 sG 3 0) oG oN bO bG bF bE bZ bP bR bC bT).2.2.2.2.2.2.2.2.1) (by rw [← hX] : dP xO xG xF xE xZ xP xR xC xT ((mSg gT i (sG 2))) (((cRd gT xN i (sG 2)).2.2) 0) (((cRd gT xN i (sG 2)).2.2) 1) (((cRd gT xN i (sG 2)).2.2) 2) = (cRun gT ((sG 2)) 62 0 (u1 sG 3 0) oG oN bO bG bF bE bZ bP bR bC bT).2.2.2.2.2.2.2.2.2.1) (by rw [← hX] : dR xO xG xF xE xZ xP xR xC xT ((mSg gT i (sG 2))) (((cRd gT xN i (sG 2)).2.2) 0) (((cRd gT xN i (sG 2)).2.2) 1) (((cRd gT xN i (sG 2)).2.2) 2) = (cRun gT ((sG 2)) 62 0 (u1 sG 3 0) oG oN bO bG bF bE bZ bP bR bC bT).2.2.2.2.2.2.2.2.2.2.1) (by rw [← hX] : dC xO xG xF xE xZ xP xR xC xT ((mSg gT i (sG 2))) (((cRd gT xN i (sG 2)).2.2) 0) (((cRd gT xN i (sG 2)).2.2) 1) (((cRd gT xN i (sG 2)).2.2) 2) = (cRun gT ((sG 2)) 62 0 (u1 sG 3 0) oG oN bO bG bF bE bZ bP bR bC bT).2.2.2.2.2.2.2.2.2.2.2.1) (by rw [← hX] : dT xO xG xF xE xZ xP xR xC xT ((mSg gT i (sG 2))) (((cRd gT xN i (sG 2)).2.2) 0) (((cRd gT xN i (sG 2)).2.2) 1) (((cRd gT xN i (sG 2)).2.2) 2) = (cRun gT ((sG 2)) 62 0 (u1 sG 3 0) oG oN bO bG bF bE bZ bP bR bC bT).2.2.2.2.2.2.2.2.2.2.2.2)))))
              have hP := vPe hP ew_3
              have hD := vDe hD ew_3
              exact x_retI (congrArg iI (b2p_f (by rw [← hX]; exact fun h => h)).symm) hend hP hD hS dX3_runOn_79
          · have hX := (cRun_n (k := k2) qi c_40).symm.trans hf
            have qr := cRd_rg (T := gT) (N := xN) (a := i) (n := sG 2) ⟨hi0, qi⟩ hl2.2
            refine x_al hC hl 1 dX3_runOn_43 rfl rfl ?_
            refine x_il hC hl 0 dX3_runOn_44 rfl rfl ?_
            refine x_ic hC dX3_runOn_45 ?_
            refine x_al hC hl 1 dX3_runOn_46 rfl rfl ?_
            refine x_get3 (v := .ref (ho 0)) hC hP 0 rfl 1 (by decide) tb_180 rfl rfl dX3_runOn_47 ?_
            refine x_vI (As := []) (val := iI ((cRd gT xN i (sG 2)).2.1)) hC (k2_next l D cs ho (u1 (u1 xo 1 (mSg gT i (sG 2))) 2 (cRd gT xN i (sG 2)).2.1) ((cRd gT xN i (sG 2)).2.2) ) lk3_34 (q0 := 1) (ci := 2) rfl rfl rfl (sub_par0 (ws' := wS hs hg ho xs ++ (wO ho cs (u1 (u1 xo 1 (mSg gT i (sG 2))) 2 (cRd gT xN i (sG 2)).2.1) ((cRd gT xN i (sG 2)).2.2) ++ (wG hg cs gT ++ (wB h cs xO xG xF xE xZ xP xR xC xT)))) [1, 2] [0, 3, 4, 5, 6, 7, 8, 9, 10, 11] hP hD hS hA rfl rfl (by decide) rfl rfl rfl) hP hS rfl hl.1 rfl (Nat.le_of_ble_eq_true rfl) ⟨rfl, rfl⟩ ⟨Nat.le_of_ble_eq_true rfl, Nat.le_of_ble_eq_true rfl⟩ ⟨Nat.le_of_ble_eq_true rfl, Nat.le_of_ble_eq_true rfl⟩ dX3_runOn_50 (fun H locs hP hD hS hHs => ?_)
            refine x_il hC hl 0 dX3_runOn_53 rfl rfl ?_
            refine x_isub hC dX3_runOn_54 ?_
            refine x_vI (As := [.int (iI i), .int (iI 1), .int (iI (((cRd gT xN i (sG 2)).2.1) - i))]) hC (k3_stopAt l D cs hs hg ho xs i 1 (((cRd gT xN i (sG 2)).2.1) - i) ) lk3_38 (q0 := 0) (ci := 3) rfl rfl rfl (sub_par0 (ws' := wS hs hg ho (u1 (u1 (u1 xs 4 i) 5 1) 6 (((cRd gT xN i (sG 2)).2.1) - i)) ++ (wO ho cs (u1 (u1 xo 1 (mSg gT i (sG 2))) 2 (cRd gT xN i (sG 2)).2.1) ((cRd gT xN i (sG 2)).2.2) ++ (wG hg cs gT ++ (wB h cs xO xG xF xE xZ xP xR xC xT)))) [0] [1, 2, 3, 4, 5, 6, 7, 8, 9, 10, 11] hP hD hS hA rfl rfl (by decide) rfl rfl rfl) hP hS rfl hl.1 rfl (Nat.le_of_ble_eq_true rfl) ⟨rfl, rfl⟩ ⟨Nat.le_of_ble_eq_true rfl, Nat.le_of_ble_eq_true rfl⟩ ⟨Nat.le_of_ble_eq_true rfl, Nat.le_of_ble_eq_true rfl⟩ dX3_runOn_55 (fun H locs hP hD hS hHs => ?_)
            have hP : va_P D vwCl (wS hs hg ho (u1 (u1 (u1 xs 4 i) 5 1) 6 (((cRd gT xN i (sG 2)).2.1) - i)) ++ (wO ho cs (u1 (u1 xo 1 (mSg gT i (sG 2))) 2 (cRd gT xN i (sG 2)).2.1) ((cRd gT xN i (sG 2)).2.2) ++ (wG hg cs gT ++ (wB h cs xO xG xF xE xZ xP xR xC xT)))) H := hP
            have hD : va_D A (wS hs hg ho (u1 (u1 (u1 xs 4 i) 5 1) 6 (((cRd gT xN i (sG 2)).2.1) - i)) ++ (wO ho cs (u1 (u1 xo 1 (mSg gT i (sG 2))) 2 (cRd gT xN i (sG 2)).2.1) ((cRd gT xN i (sG 2)).2.2) ++ (wG hg cs gT ++ (wB h cs xO xG xF xE xZ xP xR xC xT)))) := hD
            have ew_4 : (wS hs hg ho (u1 (u1 (u1 xs 4 i) 5 1) 6 (((cRd gT xN i (sG 2)).2.1) - i)) ++ (wO ho cs (u1 (u1 xo 1 (mSg gT i (sG 2))) 2 (cRd gT xN i (sG 2)).2.1) ((cRd gT xN i (sG 2)).2.2) ++ (wG hg cs gT ++ (wB h cs xO xG xF xE xZ xP xR xC xT)))) = (wS hs hg ho ((cRun gT ((sG 2)) 62 0 (u1 sG 3 0) oG oN bO bG bF bE bZ bP bR bC bT).2.1) ++ (wO ho cs ((cRun gT ((sG 2)) 62 0 (u1 sG 3 0) oG oN bO bG bF bE bZ bP bR bC bT).2.2.1) ((cRun gT ((sG 2)) 62 0 (u1 sG 3 0) oG oN bO bG bF bE bZ bP bR bC bT).2.2.2.1) ++ (wG hg cs gT ++ (wB h cs ((cRun gT ((sG 2)) 62 0 (u1 sG 3 0) oG oN bO bG bF bE bZ bP bR bC bT).2.2.2.2.1) ((cRun gT ((sG 2)) 62 0 (u1 sG 3 0) oG oN bO bG bF bE bZ bP bR bC bT).2.2.2.2.2.1) ((cRun gT ((sG 2)) 62 0 (u1 sG 3 0) oG oN bO bG bF bE bZ bP bR bC bT).2.2.2.2.2.2.1) ((cRun gT ((sG 2)) 62 0 (u1 sG 3 0) oG oN bO bG bF bE bZ bP bR bC bT).2.2.2.2.2.2.2.1) ((cRun gT ((sG 2)) 62 0 (u1 sG 3 0) oG oN bO bG bF bE bZ bP bR bC bT).2.2.2.2.2.2.2.2.1) ((cRun gT ((sG 2)) 62 0 (u1 sG 3 0) oG oN bO bG bF bE bZ bP bR bC bT).2.2.2.2.2.2.2.2.2.1) ((cRun gT ((sG 2)) 62 0 (u1 sG 3 0) oG oN bO bG bF bE bZ bP bR bC bT).2.2.2.2.2.2.2.2.2.2.1) ((cRun gT ((sG 2)) 62 0 (u1 sG 3 0) oG oN bO bG bF bE bZ bP bR bC bT).2.2.2.2.2.2.2.2.2.2.2.1) ((cRun gT ((sG 2)) 62 0 (u1 sG 3 0) oG oN bO bG bF bE bZ bP bR bC bT).2.2.2.2.2.2.2.2.2.2.2.2))))) := (appc (wSc (by rw [← hX] : u1 (u1 (u1 xs 4 i) 5 1) 6 (((cRd gT xN i (sG 2)).2.1) - i) = (cRun gT ((sG 2)) 62 0 (u1 sG 3 0) oG oN bO bG bF bE bZ bP bR bC bT).2.1)) (appc (wOc (by rw [← hX] : u1 (u1 xo 1 (mSg gT i (sG 2))) 2 (cRd gT xN i (sG 2)).2.1 = (cRun gT ((sG 2)) 62 0 (u1 sG 3 0) oG oN bO bG bF bE bZ bP bR bC bT).2.2.1) (by rw [← hX] : (cRd gT xN i (sG 2)).2.2 = (cRun gT ((sG 2)) 62 0 (u1 sG 3 0) oG oN bO bG bF bE bZ bP bR bC bT).2.2.2.1)) (appc rfl (wBc (by rw [← hX] : xO = (cRun gT ((sG 2)) 62 0 (u1 sG 3 0) oG oN bO bG bF bE bZ bP bR bC bT).2.2.2.2.1) (by rw [← hX] : xG = (cRun gT ((sG 2)) 62 0 (u1 sG 3 0) oG oN bO bG bF bE bZ bP bR bC bT).2.2.2.2.2.1) (by rw [← hX] : xF = (cRun gT ((sG 2)) 62 0 (u1 sG 3 0) oG oN bO bG bF bE bZ bP bR bC bT).2.2.2.2.2.2.1) (by rw [← hX] : xE = (cRun gT ((sG 2)) 62 0 (u1 sG 3 0) oG oN bO bG bF bE bZ bP bR bC bT).2.2.2.2.2.2.2.1) (by rw [← hX] : xZ = (cRun gT ((sG 2)) 62 0 (u1 sG 3 0) oG oN bO bG bF bE bZ bP bR bC bT).2.2.2.2.2.2.2.2.1) (by rw [← hX] : xP = (cRun gT ((sG 2)) 62 0 (u1 sG 3 0) oG oN bO bG bF bE bZ bP bR bC bT).2.2.2.2.2.2.2.2.2.1) (by rw [← hX] : xR = (cRun gT ((sG 2)) 62 0 (u1 sG 3 0) oG oN bO bG bF bE bZ bP bR bC bT).2.2.2.2.2.2.2.2.2.2.1) (by rw [← hX] : xC = (cRun gT ((sG 2)) 62 0 (u1 sG 3 0) oG oN bO bG bF bE bZ bP bR bC bT).2.2.2.2.2.2.2.2.2.2.2.1) (by rw [← hX] : xT = (cRun gT ((sG 2)) 62 0 (u1 sG 3 0) oG oN bO bG bF bE bZ bP bR bC bT).2.2.2.2.2.2.2.2.2.2.2.2)))))
            have hP := vPe hP ew_4
            have hD := vDe hD ew_4
            exact x_retI (congrArg iI (b2p_f (by rw [← hX]; exact fun h => h)).symm) hend hP hD hS dX3_runOn_58
  have hl := lv_sub (l' := [(2, .int (iI 0)), (0, .ref (hs 0)), (1, .ref (h 0))]) hl [0, 1, 2] rfl
  exact loop_7 (Int.toNat (61 - 0) + 1) 0 62 (u1 sG 3 0) oG oN bO bG bF bE bZ bP bR bC bT (by omega) (by omega) rfl (by show (0 : Int) ≤ 0 ∧ (0 : Int) ≤ 0; omega) hB (by omega) rfl (by omega) H locs ls hP hD hS hl
