/-! the law: its loop, its start -/
theorem law_cx {p : Program} {s : State} {m : MethodId} {meth : Method} {c : Code} {b L : Nat} {xs : Nat → Int32} (C0 : lw_At p s m meth c b L xs) {D : va_G} {cs : Nat → ClassId} (hK : KK D cs s) : Cx p s m #[Value.ref b] c cL_law 4 RL D cs := by
  obtain ⟨hx, hb, hr, hml, hown, hts, hX, hbl, hlocks, hgv⟩ := C0
  exact ⟨hx, hb, hml, hown, fun w hw => hts w (List.mem_filter.mp hw).1, hK⟩
set_option maxHeartbeats 4000000 in
set_option maxRecDepth 100000 in
theorem law_loop {p : Program} {e : Env} {s : State} {m : MethodId} {below : List Frame} {meth : Method} {c : Code} {l : Launch} {b L : Nat} {xs : Nat → Int32} (hL : L ≤ 2560) (C0 : lw_At p s m meth c b L xs) {D : va_G} {cs : Nat → ClassId} (hK : KK D cs s) : ∀ (n K : Nat), L + 5 ≤ 5 * K + 5 * n → 5 * K ≤ L → ∀ (H : Heap) (locs : List Loc) (ls : Array Slot), Inv D cs (fun q : Nat => s.heap.size ≤ q) s.heap b K H locs ls → W p l e room_1 s m #[Value.ref b] below meth c H locs (29 + 8 * K) (1069 + 117 * K) (lw_Z below #[Value.ref b] s) (F0 m 18 ls []) := by
  have hC := law_cx C0 hK
  obtain ⟨hx, hb, hr, hml, hown, hts, hX, hbl, hlocks, hgv⟩ := C0
  have hA : ∀ q : Nat, s.heap.size ≤ q → (fun q : Nat => s.heap.size ≤ q) q := fun _ h => h
  have hbA : ¬ (fun q : Nat => s.heap.size ≤ q) b := Nat.not_le.mpr hbl
  intro n
  induction n with
  | zero => intro K h1 h2; omega
  | succ n ih =>
    intro K hn hKL H locs ls hI
    have hI0 := hI
    obtain ⟨ha, hn0, ht, hh, hs, ho, hg, h, bn, bt, Q1, sG, oG, oN, g, F, S, Aa, V, X, B, w, ⟨hP, hD⟩, hS, hl, hw, hR⟩ := hI
    refine x_il hC hl 0 dL_law_18 rfl rfl ?_
    refine x_al hC hl 3 dL_law_19 rfl rfl ?_
    refine va_slen hx hb hX hbl hbA hS dL_law_20 ?_
    rw [show Int32.ofNat L = iI (L : Int) from (iI_nat L).symm]
    refine x_ic hC dL_law_21 ?_
    refine x_isub hC dL_law_22 ?_
    refine x_ic_gt hC 755 dL_law_23 (by decide) (by omega) (by omega) (fun c_23 => ?_) (fun c_23 => ?_)
    · refine lv_iconst (v := 1) hx hb dL_law_755 (by decide) ?_
      refine va_forget (fun q hq => hS.2.2 q hq) ?_
      refine W.widen (k := 600000) (n := 7302250) (by omega) (by omega) ?_
      exact lw_ret (Drawn.sameBut.refl s.drawn lw_cs) hx hb hr hlocks dL_law_756
    · have hK4 : 5 * K + 4 < L := by omega
      have next : ∀ (H : Heap) (locs : List Loc) (ls : Array Slot), Inv D cs (fun q : Nat => s.heap.size ≤ q) s.heap b (K + 1) H locs ls → W p l e room_1 s m #[Value.ref b] below meth c H locs (29 + 8 * (K + 1)) (1069 + 117 * (K + 1)) (lw_Z below #[Value.ref b] s) (F0 m 18 ls []) := ih (K + 1) (by omega) (by omega)
      refine x_al hC hl 3 dL_law_26 rfl rfl ?_
      refine x_il hC hl 0 dL_law_27 rfl rfl ?_
      refine va_sld hx hb hX hbl hbA hS (iI_in (n := L) (by omega) (by omega) (by omega)) dL_law_28 ?_
      refine x_bi hC dL_law_29 (by decide) ?_
      refine x_iand hC dL_law_31 _ rfl ?_
      generalize xs (iI (5 * (K : Int))).toNatClampNeg &&& iI 31 = x
      by_cases hout : x.toInt < 0 ∨ 22 < x.toInt
      · refine lv_tableOut (tgt := 749) hx hb dL_law_32 hout (by decide) ?_
        exact law_tail hC next (by omega) (by omega) hl hP hD hS hw (by omega) hR (by omega)
      · have hcase : x.toInt = 0 ∨ x.toInt = 1 ∨ x.toInt = 2 ∨ x.toInt = 3 ∨ x.toInt = 4 ∨ x.toInt = 5 ∨ x.toInt = 6 ∨ x.toInt = 7 ∨ x.toInt = 8 ∨ x.toInt = 9 ∨ x.toInt = 10 ∨ x.toInt = 11 ∨ x.toInt = 12 ∨ x.toInt = 13 ∨ x.toInt = 14 ∨ x.toInt = 15 ∨ x.toInt = 16 ∨ x.toInt = 17 ∨ x.toInt = 18 ∨ x.toInt = 19 ∨ x.toInt = 20 ∨ x.toInt = 21 ∨ x.toInt = 22 := by omega
        rcases hcase with hk | hk | hk | hk | hk | hk | hk | hk | hk | hk | hk | hk | hk | hk | hk | hk | hk | hk | hk | hk | hk | hk | hk
        · refine lv_tableIn (tgt := 140) (off := 108) hx hb dL_law_32 (by omega) (by omega) (by rw [hk]; rfl) (by decide) ?_
          exact law_talk hC hX hbl hbA hA hL hK4 next hI0
        · refine lv_tableIn (tgt := 183) (off := 151) hx hb dL_law_32 (by omega) (by omega) (by rw [hk]; rfl) (by decide) ?_
          exact law_withdraw hC hX hbl hbA hA hL hK4 next hI0
        · refine lv_tableIn (tgt := 206) (off := 174) hx hb dL_law_32 (by omega) (by omega) (by rw [hk]; rfl) (by decide) ?_
          exact law_move hC hX hbl hbA hA hL hK4 next hI0
        · refine lv_tableIn (tgt := 239) (off := 207) hx hb dL_law_32 (by omega) (by omega) (by rw [hk]; rfl) (by decide) ?_
          exact law_room hC hX hbl hbA hA hL hK4 next hI0
        · refine lv_tableIn (tgt := 282) (off := 250) hx hb dL_law_32 (by omega) (by omega) (by rw [hk]; rfl) (by decide) ?_
          exact law_close hC hX hbl hbA hA hL hK4 next hI0
        · refine lv_tableIn (tgt := 305) (off := 273) hx hb dL_law_32 (by omega) (by omega) (by rw [hk]; rfl) (by decide) ?_
          exact law_anew hC hX hbl hbA hA hL hK4 next hI0
        · refine lv_tableIn (tgt := 318) (off := 286) hx hb dL_law_32 (by omega) (by omega) (by rw [hk]; rfl) (by decide) ?_
          exact law_set hC hX hbl hbA hA hL hK4 next hI0
        · refine lv_tableIn (tgt := 351) (off := 319) hx hb dL_law_32 (by omega) (by omega) (by rw [hk]; rfl) (by decide) ?_
          exact law_talkOf hC hX hbl hbA hA hL hK4 next hI0
        · refine lv_tableIn (tgt := 384) (off := 352) hx hb dL_law_32 (by omega) (by omega) (by rw [hk]; rfl) (by decide) ?_
          exact law_roomOf hC hX hbl hbA hA hL hK4 next hI0
        · refine lv_tableIn (tgt := 417) (off := 385) hx hb dL_law_32 (by omega) (by omega) (by rw [hk]; rfl) (by decide) ?_
          exact law_at hC hX hbl hbA hA hL hK4 next hI0
        · refine lv_tableIn (tgt := 450) (off := 418) hx hb dL_law_32 (by omega) (by omega) (by rw [hk]; rfl) (by decide) ?_
          exact law_hourOf hC hX hbl hbA hA hL hK4 next hI0
        · refine lv_tableIn (tgt := 483) (off := 451) hx hb dL_law_32 (by omega) (by omega) (by rw [hk]; rfl) (by decide) ?_
          exact law_would hC hX hbl hbA hA hL hK4 next hI0
        · refine lv_tableIn (tgt := 536) (off := 504) hx hb dL_law_32 (by omega) (by omega) (by rw [hk]; rfl) (by decide) ?_
          exact law_known hC hX hbl hbA hA hL hK4 next hI0
        · refine lv_tableIn (tgt := 569) (off := 537) hx hb dL_law_32 (by omega) (by omega) (by rw [hk]; rfl) (by decide) ?_
          exact law_unknowing hC hX hbl hbA hA hL hK4 next hI0
        · refine lv_tableIn (tgt := 582) (off := 550) hx hb dL_law_32 (by omega) (by omega) (by rw [hk]; rfl) (by decide) ?_
          exact law_share hC hX hbl hbA hA hL hK4 next hI0
        · refine lv_tableIn (tgt := 595) (off := 563) hx hb dL_law_32 (by omega) (by omega) (by rw [hk]; rfl) (by decide) ?_
          exact law_bestRule hC hX hbl hbA hA hL hK4 next hI0
        · refine lv_tableIn (tgt := 618) (off := 586) hx hb dL_law_32 (by omega) (by omega) (by rw [hk]; rfl) (by decide) ?_
          exact law_emptied hC hX hbl hbA hA hL hK4 next hI0
        · refine lv_tableIn (tgt := 641) (off := 609) hx hb dL_law_32 (by omega) (by omega) (by rw [hk]; rfl) (by decide) ?_
          exact law_count hC hX hbl hbA hA hL hK4 next hI0
        · refine lv_tableIn (tgt := 664) (off := 632) hx hb dL_law_32 (by omega) (by omega) (by rw [hk]; rfl) (by decide) ?_
          exact law_undo hC hX hbl hbA hA hL hK4 next hI0
        · refine lv_tableIn (tgt := 677) (off := 645) hx hb dL_law_32 (by omega) (by omega) (by rw [hk]; rfl) (by decide) ?_
          exact law_type hC hX hbl hbA hA hL hK4 next hI0
        · refine lv_tableIn (tgt := 700) (off := 668) hx hb dL_law_32 (by omega) (by omega) (by rw [hk]; rfl) (by decide) ?_
          exact law_clearText hC hX hbl hbA hA hL hK4 next hI0
        · refine lv_tableIn (tgt := 713) (off := 681) hx hb dL_law_32 (by omega) (by omega) (by rw [hk]; rfl) (by decide) ?_
          exact law_fault hC hX hbl hbA hA hL hK4 next hI0
        · refine lv_tableIn (tgt := 736) (off := 704) hx hb dL_law_32 (by omega) (by omega) (by rw [hk]; rfl) (by decide) ?_
          exact law_play hC hX hbl hbA hA hL hK4 next hI0
set_option maxHeartbeats 4000000 in
set_option maxRecDepth 100000 in
theorem law_kk {s : State} {args : Array Value} (hts : ∀ w ∈ lw_tbl, w.before args s = true) : ∃ (D : va_G) (cs : Nat → ClassId), KK D cs s := by
  have hTB : ∀ w ∈ TB, w.before args s = true := fun w hw => hts w (List.mem_filter.mp hw).1
  obtain ⟨c0, i0, hKn0⟩ := u_known (C := RX0) (T := TX0) (N := 13) (n := 13) hTB inT0 (hts _ tb_91)
  obtain ⟨c1, i1, hKn1⟩ := u_known (C := RX1) (T := TX1) (N := 3) (n := 3) hTB inT1 (hts _ tb_139)
  obtain ⟨c2, i2, hKn2⟩ := u_known (C := RX2) (T := TX2) (N := 3) (n := 3) hTB inT2 (hts _ tb_163)
  obtain ⟨c3, i3, hKn3⟩ := u_known (C := RX3) (T := TX3) (N := 7) (n := 7) hTB inT3 (hts _ tb_157)
  obtain ⟨c4, i4, hKn4⟩ := u_known (C := RX4) (T := TX4) (N := 4) (n := 4) hTB inT4 (hts _ tb_83)
  obtain ⟨c5, i5, hKn5⟩ := u_known (C := RX5) (T := TX5) (N := 17) (n := 17) hTB inT5 (hts _ tb_614)
  obtain ⟨d0, k0, p0, q1_0, q2_0, q3_0⟩ := Cond.arrayClass_spec (hts _ tb_136)
  obtain ⟨d1, k1, p1, q1_1, q2_1, q3_1⟩ := Cond.arrayClass_spec (hts _ tb_137)
  obtain ⟨d2, k2, p2, q1_2, q2_2, q3_2⟩ := Cond.arrayClass_spec (hts _ tb_178)
  obtain ⟨d3, k3, p3, q1_3, q2_3, q3_3⟩ := Cond.arrayClass_spec (hts _ tb_671)
  obtain ⟨comp, d4, k4, r1, r2, r3, r4, r5⟩ := Cond.arrayOver_spec (hts _ tb_145)
  refine ⟨(fun k => match k with | 0 => c0 | 1 => c1 | 2 => c2 | 3 => c3 | 4 => c4 | _ => c5, fun k => match k with | 0 => i0 | 1 => i1 | 2 => i2 | 3 => i3 | 4 => i4 | _ => i5), fun k => match k with | 0 => d0 | 1 => d1 | 2 => d2 | 3 => d3 | _ => d4, ⟨fun k q hq => ?_, fun k q hq => ?_⟩, ?_, ?_⟩
  · match k, hq with
    | 0, hq => cases hq; exact hKn0
    | 1, hq => cases hq; exact hKn1
    | 2, hq => cases hq; exact hKn2
    | 3, hq => cases hq; exact hKn3
    | 4, hq => cases hq; exact hKn4
    | 5, hq => cases hq; exact hKn5
    | k + 6, hq => simp [vwCl] at hq
  · match k, hq with
    | 0, hq => cases hq; exact ⟨fun n z => ⟨fun k h => (by cases h), k0, q2_0, p0, q3_0⟩, q1_0⟩
    | 1, hq => cases hq; exact ⟨fun n z => ⟨fun k h => (by cases h), k1, q2_1, p1, q3_1⟩, q1_1⟩
    | 2, hq => cases hq; exact ⟨fun n z => ⟨fun k h => (by cases h), k2, q2_2, p2, q3_2⟩, q1_2⟩
    | 3, hq => cases hq; exact ⟨fun n z => ⟨fun k h => (by cases h), k3, q2_3, p3, q3_3⟩, q1_3⟩
    | 4, hq => cases hq; exact ⟨fun n z => ⟨fun k h => (by cases h), k4, r3, comp, r4⟩, k4, comp, r3, r4, r1, r5⟩
    | k + 5, hq => simp at hq
  · intro q hq
    have hw : Cond.methodLinkNest q.1 q.2.1 q.2.2.1 q.2.2.2 ∈ lw_tbl := by
      simp only [NWl, List.mem_cons, List.not_mem_nil, or_false] at hq
      rcases hq with rfl | rfl | rfl | rfl | rfl | rfl | rfl
      · exact tb_140
      · exact tb_158
      · exact tb_164
      · exact tb_229
      · exact tb_272
      · exact tb_331
      · exact tb_378
    exact va_Nw.of rfl (hts _ hw)
  · exact va_AO.of (hts _ tb_145)
theorem lkIL_9 : LkI RL 9 yX4_init cX4_init 1 0 := ⟨tb_86, tb_84, tb_85, tb_71, rfl, by decide +kernel⟩
theorem lkIL_12 : LkI RL 12 yX5_init cX5_init 2 0 := ⟨tb_617, tb_615, tb_616, tb_76, rfl, by decide +kernel⟩
theorem pm_0 {α : Type} (X N T S O G w M : List α) : List.Perm (([] ++ ((((X ++ N) ++ T) ++ w) ++ (S ++ (G ++ O)))) ++ M) (((X ++ (N ++ (T ++ (S ++ (O ++ G))))) ++ w) ++ M) := by
  classical
  exact List.perm_iff_count.mpr (fun a => by simp only [List.count_append, List.count_nil]; omega)
set_option maxHeartbeats 4000000 in
set_option maxRecDepth 100000 in
theorem whole_start {p : Program} {e : Env} {s : State} {m : MethodId} {below : List Frame} {meth : Method} {c : Code} (l : Launch) (hflags : l.flags = flags0) {b L : Nat} {xs : Nat → Int32} (hL : L ≤ 2560) (C0 : lw_At p s m meth c b L xs) : W p l e room_1 s m #[Value.ref b] below meth c s.heap [] 0 0 (lw_Z below #[Value.ref b] s) (entryFrame m ([Value.ref b] : List Value).toArray 4) := by
  obtain ⟨hx, hb, hr, hml, hown, hts, hX, hbl, hlocks, hgv⟩ := id C0
  obtain ⟨D, cs, hK⟩ := law_kk hts
  have hC := law_cx C0 hK
  have hA : ∀ q : Nat, s.heap.size ≤ q → (fun q : Nat => s.heap.size ≤ q) q := fun _ h => h
  have hS : va_S (fun q : Nat => s.heap.size ≤ q) s.heap s.heap [] := va_S.rf
  have hP : va_P D vwCl [] s.heap := fun k q h => by simp at h
  have hD : va_D (fun q : Nat => s.heap.size ≤ q) [] := ⟨fun i j p q h => by simp at h, fun k q h => by simp at h⟩
  have hl := lv_entry ([.ref b]) (n := 4) (Nat.le_of_ble_eq_true rfl)
  rw [lg_entry_eq]
  generalize (lg_sl ([.ref b]) ++ List.replicate (4 - (lg_sl ([.ref b])).length) Slot.unset).toArray = ls at hl ⊢
  have hl : lv_has ls 4 [(0, .ref b)] := hl
  refine x_mk4 hC hP hD hS hA tb_82 tb_83 tb_71 (by show 0 + 1 ≤ 600000; omega) (by show 0 + 4 ≤ 7302250; omega) dL_law_0 (fun q H hP hD hS => ?_)
  refine x_dup hC dL_law_3 rfl ?_
  refine x_iY (As := []) hC (k4_init l D cs q) lkIL_9 (subX (wr := []) (List.Perm.refl _) hP hD hS hA) hP hS rfl hl.1 rfl (Nat.le_of_ble_eq_true rfl) ⟨rfl, rfl⟩ ⟨Nat.le_of_ble_eq_true rfl, Nat.le_of_ble_eq_true rfl⟩ ⟨by show 0 + 1 + 22 ≤ 600000; omega, by show 0 + 4 + 314 ≤ 7302250; omega⟩ dL_law_4 (fun w1 H locs hpost hP hD hS hHs => ?_)
  obtain ⟨ha, hn, ht, hh, hs, hg, ho, rfl, rfl⟩ := hpost
  refine x_as hC [(1, .ref (ha 0)), (0, .ref b)] hl dL_law_7 rfl (by decide) rfl (fun ls hl => ?_)
  refine x_mk5 hC hP hD hS hA tb_613 tb_614 tb_76 (by show 0 + 1 + 22 + 1 ≤ 600000; omega) (by show 0 + 4 + 314 + 17 ≤ 7302250; omega) dL_law_8 (fun q2 H hP hD hS => ?_)
  refine x_dup hC dL_law_11 rfl ?_
  refine x_iY (As := []) hC (k5_init l D cs q2) lkIL_12 (subX (List.Perm.refl _) hP hD hS hA) hP hS rfl hl.1 rfl (Nat.le_of_ble_eq_true rfl) ⟨rfl, rfl⟩ ⟨Nat.le_of_ble_eq_true rfl, Nat.le_of_ble_eq_true rfl⟩ ⟨by show 0 + 1 + 22 + 1 + 5 ≤ 600000; omega, by show 0 + 4 + 314 + 17 + 734 ≤ 7302250; omega⟩ dL_law_12 (fun w2 H locs hpost hP hD hS hHs => ?_)
  obtain ⟨h, rfl, rfl⟩ := hpost
  refine x_as hC [(2, .ref (h 0)), (1, .ref (ha 0)), (0, .ref b)] hl dL_law_15 rfl (by decide) rfl (fun ls hl => ?_)
  refine x_ic hC dL_law_16 ?_
  refine x_is hC [(3, .int (iI 0)), (2, .ref (h 0)), (1, .ref (ha 0)), (0, .ref b)] hl dL_law_17 rfl (by decide) rfl (fun ls hl => ?_)
  have hP := vP_perm hP (pm_0 _ _ _ _ _ _ _ _)
  have hD := vD_perm hD (pm_0 _ _ _ _ _ _ _ _)
  have hl : lv_has ls 4 [(3, .int (iI (5 * ((0 : Nat) : Int)))), (2, .ref (h 0)), (1, .ref (ha 0)), (0, .ref b)] := by
    rw [show (5 * ((0 : Nat) : Int)) = 0 by omega]
    exact hl
  have hw : HW hh cs [] ((0 : Nat) : Int) (wH hh cs (fun _ => 0) (fun _ => none)) := HW_mono HW_0 (by omega)
  have hR : RR (6200 * ((0 : Nat) : Int)) bd0 [] ((fun _ => 0 : Int → Int) 2) (fun _ => 0) (u1 (fun _ => 0) 0 0) md0 (fun _ => 0) (fun _ => 0) := RR_mono RR_0 (by omega)
  exact law_loop hL C0 hK (L + 1) 0 (by omega) (by omega) H locs ls ⟨ha, hn, ht, hh, hs, ho, hg, h, bd0, bd0, [], (fun _ => 0), (fun _ => 0), (fun _ => 0), (fun _ => 0), (u1 (fun _ => 0) 0 0), md0, (fun _ => 0), (fun _ => 0), (fun _ => 0), (fun _ => 0), wH hh cs (fun _ => 0) (fun _ => none), ⟨hP, hD⟩, hS, hl, hw, hR⟩
