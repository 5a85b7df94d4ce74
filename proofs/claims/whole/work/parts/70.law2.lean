/-! the law's calls, one after another -/
theorem wb_mk (h : Nat → Nat) (cs : Nat → ClassId) (O : Nat → Bool) (G F E Z P R C : Int → Int) (T : Int → Nat → Bool) : wB h cs O G F E Z P R C T = wb h cs (O, G, F, E, Z, P, R, C, T) := rfl
theorem keep_iif {c : Prop} {f g : Int → Int} {j v : Int} (hf : f j = v) (hg : g j = v) : (iif c f g) j = v := by
  by_cases d : c
  · rw [iif_t d]; exact hf
  · rw [iif_f d]; exact hg
theorem law_tail {p : Program} {l : Launch} {e : Env} {s : State} {m : MethodId} {args : Array Value} {below : List Frame} {meth : Method} {c : Code} {Q : State → Prop} {D : va_G} {cs : Nat → ClassId} {A : Nat → Prop} (hC : Cx p s m args c cL_law 4 RL D cs) {b : Nat} {K : Nat} (next : ∀ (H : Heap) (locs : List Loc) (ls : Array Slot), Inv D cs A s.heap b (K + 1) H locs ls → W p l e room_1 s m args below meth c H locs (29 + 8 * (K + 1)) (1069 + 117 * (K + 1)) Q (F0 m 18 ls [])) {cells slots : Nat} (hcl : cells ≤ 29 + 8 * (K + 1)) (hsl : slots ≤ 1069 + 117 * (K + 1)) {ha hn ht hh hs ho hg h : Nat → Nat} {bn bt : Bd} {Q1 : List Bd} {sG oG oN g F S Aa V X B : Int → Int} {w : va_W} {H : Heap} {locs : List Loc} {ls : Array Slot} (hl : lv_has ls 4 [(3, .int (iI (5 * (K : Int)))), (2, .ref (h 0)), (1, .ref (ha 0)), (0, .ref b)]) (hP : va_P D vwCl (Lw ha hn ht hh hs ho hg h cs bn bt sG oG oN g w F S Aa V X B) H) (hD : va_D A (Lw ha hn ht hh hs ho hg h cs bn bt sG oG oN g w F S Aa V X B)) (hS : va_S A s.heap H locs) {U1 U2 : Int} (hw : HW hh cs Q1 U1 w) (hU1 : U1 ≤ (K : Int) + 1) (hR : RR U2 bn Q1 (sG 2) g F S V X) (hU2 : U2 ≤ 6200 * (K : Int) + 6200) : W p l e room_1 s m args below meth c H locs cells slots Q (F0 m 749 ls []) := by
  refine W.widen (k := 29 + 8 * (K + 1)) (n := 1069 + 117 * (K + 1)) hcl hsl ?_
  refine x_iinc hC [(3, .int (iI (5 * (K : Int) + 5))), (2, .ref (h 0)), (1, .ref (ha 0)), (0, .ref b)] 0 hl dL_law_749 rfl (by decide) rfl (fun ls hl => ?_)
  refine x_goto hC 18 dL_law_752 (by decide) ?_
  have e1 : 5 * (K : Int) + 5 = 5 * ((K + 1 : Nat) : Int) := by omega
  rw [e1] at hl
  exact next H locs ls ⟨ha, hn, ht, hh, hs, ho, hg, h, bn, bt, Q1, sG, oG, oN, g, F, S, Aa, V, X, B, w, ⟨hP, hD⟩, hS, hl, HW_mono hw (by omega), RR_mono hR (by omega)⟩
theorem lkL_45 : LkV RL 45 yX4_talkOf cX4_talkOf 3 (some .int) 2 := ⟨tb_385, tb_382, tb_383, tb_384, tb_71, by decide +kernel⟩
theorem lkL_48 : LkV RL 48 yX5_talkOf cX5_talkOf 3 (some .int) 2 := ⟨tb_812, tb_809, tb_810, tb_811, tb_76, by decide +kernel⟩
set_option maxHeartbeats 4000000 in
set_option maxRecDepth 100000 in
theorem law_talkOf {p : Program} {l : Launch} {e : Env} {s : State} {m : MethodId} {args : Array Value} {below : List Frame} {meth : Method} {c : Code} {Q : State → Prop} {D : va_G} {cs : Nat → ClassId} {A : Nat → Prop} (hC : Cx p s m args c cL_law 4 RL D cs) {b L : Nat} {xs : Nat → Int32} (hX : va_X b L xs s s.heap) (hbl : b < s.heap.size) (hbA : ¬ A b) (hA : ∀ q, s.heap.size ≤ q → A q) (hL : L ≤ 2560) {K : Nat} (hK : 5 * K + 4 < L) (next : ∀ (H : Heap) (locs : List Loc) (ls : Array Slot), Inv D cs A s.heap b (K + 1) H locs ls → W p l e room_1 s m args below meth c H locs (29 + 8 * (K + 1)) (1069 + 117 * (K + 1)) Q (F0 m 18 ls [])) {H : Heap} {locs : List Loc} {ls : Array Slot} (hI : Inv D cs A s.heap b K H locs ls) : W p l e room_1 s m args below meth c H locs (29 + 8 * K) (1069 + 117 * K) Q (F0 m 351 ls []) := by
  obtain ⟨ha, hn, ht, hh, hs, ho, hg, h, bn, bt, Q1, sG, oG, oN, g, F, S, Aa, V, X, B, w, ⟨hP, hD⟩, hS, hl, hw, hR⟩ := hI
  obtain ⟨nO, nG, nQ, nE, nZ, nP, nR, nC, nT⟩ := bn
  obtain ⟨tO, tG, tF, tE, tZ, tP, tR, tC, tT⟩ := bt
  have hb : rB S nO nG nQ nE nZ nP nR nC nT := hR.1.1.1
  have hIM := hb.2.2.1.1
  have hIB := hb.2.2.1.2
  have h4 := RR_4 hR
  have h6 := hR.2.1
  have h6x : 0 ≤ F 6 ∧ F 6 ≤ 60 := by omega
  have hIX := hR.2.2.2
  have hIT : IT g := hR.2.2.1 ▸ hIX
  have hKK : K ≤ 511 := by omega
  obtain ⟨a1, e1⟩ : ∃ y : Int, xv xs (5 * (K : Int) + 1) = y := ⟨_, rfl⟩
  have g1 : -2147483648 ≤ a1 ∧ a1 ≤ 2147483647 := e1 ▸ xv_rg xs (5 * (K : Int) + 1)
  obtain ⟨a2, e2⟩ : ∃ y : Int, xv xs (5 * (K : Int) + 2) = y := ⟨_, rfl⟩
  have g2 : -2147483648 ≤ a2 ∧ a2 ≤ 2147483647 := e2 ▸ xv_rg xs (5 * (K : Int) + 2)
  refine x_al hC hl 2 dL_law_351 rfl rfl ?_
  refine x_arg hC hX hbl hbA hS hl ⟨by omega, by omega⟩ hL 1 (by decide) dL_law_352 dL_law_353 dL_law_354 dL_law_355 dL_law_356 ?_
  rw [e1]
  refine x_arg hC hX hbl hbA hS hl ⟨by omega, by omega⟩ hL 2 (by decide) dL_law_357 dL_law_358 dL_law_359 dL_law_360 dL_law_361 ?_
  rw [e2]
  refine x_vI (As := [.int (iI a1), .int (iI a2)]) hC (k4_talkOf l D cs ha hn ht hh hs nO nG nQ nE nZ nP nR nC nT a1 a2 hIB g1 g2) lkL_45 (q0 := 0) (ci := 4) rfl rfl rfl (sub_of (subX (pm_N _ _ _ _ _ _ _ _) hP hD hS hA) _) hP hS rfl hl.1 rfl (Nat.le_of_ble_eq_true rfl) ⟨rfl, rfl⟩ ⟨Nat.le_of_ble_eq_true rfl, Nat.le_of_ble_eq_true rfl⟩ ⟨by show 29 + 8 * K + 0 ≤ 600000; omega, by show 1069 + 117 * K + 0 ≤ 7302250; omega⟩ dL_law_362 (fun H locs hP hD hS hHs => ?_)
  have hP := vP_perm hP (pm_N _ _ _ _ _ _ _ _).symm
  have hD := vD_perm hD (pm_N _ _ _ _ _ _ _ _).symm
  refine x_al hC hl 1 dL_law_365 rfl rfl ?_
  refine x_arg hC hX hbl hbA hS hl ⟨by omega, by omega⟩ hL 1 (by decide) dL_law_366 dL_law_367 dL_law_368 dL_law_369 dL_law_370 ?_
  rw [e1]
  refine x_arg hC hX hbl hbA hS hl ⟨by omega, by omega⟩ hL 2 (by decide) dL_law_371 dL_law_372 dL_law_373 dL_law_374 dL_law_375 ?_
  rw [e2]
  have hPm := vP_perm hP (pm_M _ _ _ _ _ _ _ _)
  have hDm := vD_perm hD (pm_M _ _ _ _ _ _ _ _)
  refine x_vI (As := [.int (iI a1), .int (iI a2)]) hC (k5_talkOf l D cs h F S Aa V X B a1 a2 hIM g1 g2) lkL_48 (q0 := 0) (ci := 5) rfl rfl rfl (sub_of (subX List.perm_append_comm hPm hDm hS hA) _) hPm hS rfl hl.1 rfl (Nat.le_of_ble_eq_true rfl) ⟨rfl, rfl⟩ ⟨Nat.le_of_ble_eq_true rfl, Nat.le_of_ble_eq_true rfl⟩ ⟨by show 29 + 8 * K + 0 + 0 ≤ 600000; omega, by show 1069 + 117 * K + 0 + 0 ≤ 7302250; omega⟩ dL_law_376 (fun H locs hP hD hS hHs => ?_)
  refine lv_icmp_eq (tgt := 749) hC.1 hC.2.1 dL_law_379 (by decide) (fun _ => ?_) (fun hne => absurd (v_talkOf hb a1 a2) hne)
  rw [wb_mk hn] at hP hD
  exact law_tail hC next (by omega) (by omega) hl hP hD hS hw (by omega) (RR_F hR (f0_4 F) (f0_6 F)) (by omega)
theorem lkL_49 : LkV RL 49 yX4_roomOf cX4_roomOf 3 (some .int) 2 := ⟨tb_401, tb_398, tb_399, tb_400, tb_71, by decide +kernel⟩
theorem lkL_52 : LkV RL 52 yX5_roomOf cX5_roomOf 3 (some .int) 2 := ⟨tb_824, tb_821, tb_822, tb_823, tb_76, by decide +kernel⟩
set_option maxHeartbeats 4000000 in
set_option maxRecDepth 100000 in
theorem law_roomOf {p : Program} {l : Launch} {e : Env} {s : State} {m : MethodId} {args : Array Value} {below : List Frame} {meth : Method} {c : Code} {Q : State → Prop} {D : va_G} {cs : Nat → ClassId} {A : Nat → Prop} (hC : Cx p s m args c cL_law 4 RL D cs) {b L : Nat} {xs : Nat → Int32} (hX : va_X b L xs s s.heap) (hbl : b < s.heap.size) (hbA : ¬ A b) (hA : ∀ q, s.heap.size ≤ q → A q) (hL : L ≤ 2560) {K : Nat} (hK : 5 * K + 4 < L) (next : ∀ (H : Heap) (locs : List Loc) (ls : Array Slot), Inv D cs A s.heap b (K + 1) H locs ls → W p l e room_1 s m args below meth c H locs (29 + 8 * (K + 1)) (1069 + 117 * (K + 1)) Q (F0 m 18 ls [])) {H : Heap} {locs : List Loc} {ls : Array Slot} (hI : Inv D cs A s.heap b K H locs ls) : W p l e room_1 s m args below meth c H locs (29 + 8 * K) (1069 + 117 * K) Q (F0 m 384 ls []) := by
  obtain ⟨ha, hn, ht, hh, hs, ho, hg, h, bn, bt, Q1, sG, oG, oN, g, F, S, Aa, V, X, B, w, ⟨hP, hD⟩, hS, hl, hw, hR⟩ := hI
  obtain ⟨nO, nG, nQ, nE, nZ, nP, nR, nC, nT⟩ := bn
  obtain ⟨tO, tG, tF, tE, tZ, tP, tR, tC, tT⟩ := bt
  have hb : rB S nO nG nQ nE nZ nP nR nC nT := hR.1.1.1
  have hIM := hb.2.2.1.1
  have hIB := hb.2.2.1.2
  have h4 := RR_4 hR
  have h6 := hR.2.1
  have h6x : 0 ≤ F 6 ∧ F 6 ≤ 60 := by omega
  have hIX := hR.2.2.2
  have hIT : IT g := hR.2.2.1 ▸ hIX
  have hKK : K ≤ 511 := by omega
  obtain ⟨a1, e1⟩ : ∃ y : Int, xv xs (5 * (K : Int) + 1) = y := ⟨_, rfl⟩
  have g1 : -2147483648 ≤ a1 ∧ a1 ≤ 2147483647 := e1 ▸ xv_rg xs (5 * (K : Int) + 1)
  obtain ⟨a2, e2⟩ : ∃ y : Int, xv xs (5 * (K : Int) + 2) = y := ⟨_, rfl⟩
  have g2 : -2147483648 ≤ a2 ∧ a2 ≤ 2147483647 := e2 ▸ xv_rg xs (5 * (K : Int) + 2)
  refine x_al hC hl 2 dL_law_384 rfl rfl ?_
  refine x_arg hC hX hbl hbA hS hl ⟨by omega, by omega⟩ hL 1 (by decide) dL_law_385 dL_law_386 dL_law_387 dL_law_388 dL_law_389 ?_
  rw [e1]
  refine x_arg hC hX hbl hbA hS hl ⟨by omega, by omega⟩ hL 2 (by decide) dL_law_390 dL_law_391 dL_law_392 dL_law_393 dL_law_394 ?_
  rw [e2]
  refine x_vI (As := [.int (iI a1), .int (iI a2)]) hC (k4_roomOf l D cs ha hn ht hh hs nO nG nQ nE nZ nP nR nC nT a1 a2 hIB g1 g2) lkL_49 (q0 := 0) (ci := 4) rfl rfl rfl (sub_of (subX (pm_N _ _ _ _ _ _ _ _) hP hD hS hA) _) hP hS rfl hl.1 rfl (Nat.le_of_ble_eq_true rfl) ⟨rfl, rfl⟩ ⟨Nat.le_of_ble_eq_true rfl, Nat.le_of_ble_eq_true rfl⟩ ⟨by show 29 + 8 * K + 0 ≤ 600000; omega, by show 1069 + 117 * K + 0 ≤ 7302250; omega⟩ dL_law_395 (fun H locs hP hD hS hHs => ?_)
  have hP := vP_perm hP (pm_N _ _ _ _ _ _ _ _).symm
  have hD := vD_perm hD (pm_N _ _ _ _ _ _ _ _).symm
  refine x_al hC hl 1 dL_law_398 rfl rfl ?_
  refine x_arg hC hX hbl hbA hS hl ⟨by omega, by omega⟩ hL 1 (by decide) dL_law_399 dL_law_400 dL_law_401 dL_law_402 dL_law_403 ?_
  rw [e1]
  refine x_arg hC hX hbl hbA hS hl ⟨by omega, by omega⟩ hL 2 (by decide) dL_law_404 dL_law_405 dL_law_406 dL_law_407 dL_law_408 ?_
  rw [e2]
  have hPm := vP_perm hP (pm_M _ _ _ _ _ _ _ _)
  have hDm := vD_perm hD (pm_M _ _ _ _ _ _ _ _)
  refine x_vI (As := [.int (iI a1), .int (iI a2)]) hC (k5_roomOf l D cs h F S Aa V X B a1 a2 hIM g1 g2) lkL_52 (q0 := 0) (ci := 5) rfl rfl rfl (sub_of (subX List.perm_append_comm hPm hDm hS hA) _) hPm hS rfl hl.1 rfl (Nat.le_of_ble_eq_true rfl) ⟨rfl, rfl⟩ ⟨Nat.le_of_ble_eq_true rfl, Nat.le_of_ble_eq_true rfl⟩ ⟨by show 29 + 8 * K + 0 + 0 ≤ 600000; omega, by show 1069 + 117 * K + 0 + 0 ≤ 7302250; omega⟩ dL_law_409 (fun H locs hP hD hS hHs => ?_)
  refine lv_icmp_eq (tgt := 749) hC.1 hC.2.1 dL_law_412 (by decide) (fun _ => ?_) (fun hne => absurd (v_roomOf hb a1 a2) hne)
  rw [wb_mk hn] at hP hD
  exact law_tail hC next (by omega) (by omega) hl hP hD hS hw (by omega) (RR_F hR (f0_4 F) (f0_6 F)) (by omega)
theorem lkL_53 : LkV RL 53 yX4_at cX4_at 4 (some .int) 2 := ⟨tb_424, tb_421, tb_422, tb_423, tb_71, by decide +kernel⟩
theorem lkL_56 : LkV RL 56 yX5_at cX5_at 3 (some .int) 2 := ⟨tb_840, tb_837, tb_838, tb_839, tb_76, by decide +kernel⟩
set_option maxHeartbeats 4000000 in
set_option maxRecDepth 100000 in
theorem law_at {p : Program} {l : Launch} {e : Env} {s : State} {m : MethodId} {args : Array Value} {below : List Frame} {meth : Method} {c : Code} {Q : State → Prop} {D : va_G} {cs : Nat → ClassId} {A : Nat → Prop} (hC : Cx p s m args c cL_law 4 RL D cs) {b L : Nat} {xs : Nat → Int32} (hX : va_X b L xs s s.heap) (hbl : b < s.heap.size) (hbA : ¬ A b) (hA : ∀ q, s.heap.size ≤ q → A q) (hL : L ≤ 2560) {K : Nat} (hK : 5 * K + 4 < L) (next : ∀ (H : Heap) (locs : List Loc) (ls : Array Slot), Inv D cs A s.heap b (K + 1) H locs ls → W p l e room_1 s m args below meth c H locs (29 + 8 * (K + 1)) (1069 + 117 * (K + 1)) Q (F0 m 18 ls [])) {H : Heap} {locs : List Loc} {ls : Array Slot} (hI : Inv D cs A s.heap b K H locs ls) : W p l e room_1 s m args below meth c H locs (29 + 8 * K) (1069 + 117 * K) Q (F0 m 417 ls []) := by
  obtain ⟨ha, hn, ht, hh, hs, ho, hg, h, bn, bt, Q1, sG, oG, oN, g, F, S, Aa, V, X, B, w, ⟨hP, hD⟩, hS, hl, hw, hR⟩ := hI
  obtain ⟨nO, nG, nQ, nE, nZ, nP, nR, nC, nT⟩ := bn
  obtain ⟨tO, tG, tF, tE, tZ, tP, tR, tC, tT⟩ := bt
  have hb : rB S nO nG nQ nE nZ nP nR nC nT := hR.1.1.1
  have hIM := hb.2.2.1.1
  have hIB := hb.2.2.1.2
  have h4 := RR_4 hR
  have h6 := hR.2.1
  have h6x : 0 ≤ F 6 ∧ F 6 ≤ 60 := by omega
  have hIX := hR.2.2.2
  have hIT : IT g := hR.2.2.1 ▸ hIX
  have hKK : K ≤ 511 := by omega
  obtain ⟨a1, e1⟩ : ∃ y : Int, xv xs (5 * (K : Int) + 1) = y := ⟨_, rfl⟩
  have g1 : -2147483648 ≤ a1 ∧ a1 ≤ 2147483647 := e1 ▸ xv_rg xs (5 * (K : Int) + 1)
  obtain ⟨a2, e2⟩ : ∃ y : Int, xv xs (5 * (K : Int) + 2) = y := ⟨_, rfl⟩
  have g2 : -2147483648 ≤ a2 ∧ a2 ≤ 2147483647 := e2 ▸ xv_rg xs (5 * (K : Int) + 2)
  refine x_al hC hl 2 dL_law_417 rfl rfl ?_
  refine x_arg hC hX hbl hbA hS hl ⟨by omega, by omega⟩ hL 1 (by decide) dL_law_418 dL_law_419 dL_law_420 dL_law_421 dL_law_422 ?_
  rw [e1]
  refine x_arg hC hX hbl hbA hS hl ⟨by omega, by omega⟩ hL 2 (by decide) dL_law_423 dL_law_424 dL_law_425 dL_law_426 dL_law_427 ?_
  rw [e2]
  refine x_vI (As := [.int (iI a1), .int (iI a2)]) hC (k4_at l D cs ha hn ht hh hs nO nG nQ nE nZ nP nR nC nT a1 a2 hIB g1 g2) lkL_53 (q0 := 0) (ci := 4) rfl rfl rfl (sub_of (subX (pm_N _ _ _ _ _ _ _ _) hP hD hS hA) _) hP hS rfl hl.1 rfl (Nat.le_of_ble_eq_true rfl) ⟨rfl, rfl⟩ ⟨Nat.le_of_ble_eq_true rfl, Nat.le_of_ble_eq_true rfl⟩ ⟨by show 29 + 8 * K + 0 ≤ 600000; omega, by show 1069 + 117 * K + 0 ≤ 7302250; omega⟩ dL_law_428 (fun H locs hP hD hS hHs => ?_)
  have hP := vP_perm hP (pm_N _ _ _ _ _ _ _ _).symm
  have hD := vD_perm hD (pm_N _ _ _ _ _ _ _ _).symm
  refine x_al hC hl 1 dL_law_431 rfl rfl ?_
  refine x_arg hC hX hbl hbA hS hl ⟨by omega, by omega⟩ hL 1 (by decide) dL_law_432 dL_law_433 dL_law_434 dL_law_435 dL_law_436 ?_
  rw [e1]
  refine x_arg hC hX hbl hbA hS hl ⟨by omega, by omega⟩ hL 2 (by decide) dL_law_437 dL_law_438 dL_law_439 dL_law_440 dL_law_441 ?_
  rw [e2]
  have hPm := vP_perm hP (pm_M _ _ _ _ _ _ _ _)
  have hDm := vD_perm hD (pm_M _ _ _ _ _ _ _ _)
  refine x_vI (As := [.int (iI a1), .int (iI a2)]) hC (k5_at l D cs h F S Aa V X B a1 a2 hIM g1 g2) lkL_56 (q0 := 0) (ci := 5) rfl rfl rfl (sub_of (subX List.perm_append_comm hPm hDm hS hA) _) hPm hS rfl hl.1 rfl (Nat.le_of_ble_eq_true rfl) ⟨rfl, rfl⟩ ⟨Nat.le_of_ble_eq_true rfl, Nat.le_of_ble_eq_true rfl⟩ ⟨by show 29 + 8 * K + 0 + 0 ≤ 600000; omega, by show 1069 + 117 * K + 0 + 0 ≤ 7302250; omega⟩ dL_law_442 (fun H locs hP hD hS hHs => ?_)
  refine lv_icmp_eq (tgt := 749) hC.1 hC.2.1 dL_law_445 (by decide) (fun _ => ?_) (fun hne => absurd (congrArg iI (v_at hb a1 a2)) hne)
  rw [wb_mk hn] at hP hD
  exact law_tail hC next (by omega) (by omega) hl hP hD hS hw (by omega) (RR_F hR (f0_4 F) (f0_6 F)) (by omega)
theorem lkL_57 : LkV RL 57 yX4_hourOf cX4_hourOf 3 (some .int) 2 := ⟨tb_438, tb_435, tb_436, tb_437, tb_71, by decide +kernel⟩
theorem lkL_60 : LkV RL 60 yX5_hourOf cX5_hourOf 3 (some .int) 2 := ⟨tb_844, tb_841, tb_842, tb_843, tb_76, by decide +kernel⟩
set_option maxHeartbeats 4000000 in
set_option maxRecDepth 100000 in
theorem law_hourOf {p : Program} {l : Launch} {e : Env} {s : State} {m : MethodId} {args : Array Value} {below : List Frame} {meth : Method} {c : Code} {Q : State → Prop} {D : va_G} {cs : Nat → ClassId} {A : Nat → Prop} (hC : Cx p s m args c cL_law 4 RL D cs) {b L : Nat} {xs : Nat → Int32} (hX : va_X b L xs s s.heap) (hbl : b < s.heap.size) (hbA : ¬ A b) (hA : ∀ q, s.heap.size ≤ q → A q) (hL : L ≤ 2560) {K : Nat} (hK : 5 * K + 4 < L) (next : ∀ (H : Heap) (locs : List Loc) (ls : Array Slot), Inv D cs A s.heap b (K + 1) H locs ls → W p l e room_1 s m args below meth c H locs (29 + 8 * (K + 1)) (1069 + 117 * (K + 1)) Q (F0 m 18 ls [])) {H : Heap} {locs : List Loc} {ls : Array Slot} (hI : Inv D cs A s.heap b K H locs ls) : W p l e room_1 s m args below meth c H locs (29 + 8 * K) (1069 + 117 * K) Q (F0 m 450 ls []) := by
  obtain ⟨ha, hn, ht, hh, hs, ho, hg, h, bn, bt, Q1, sG, oG, oN, g, F, S, Aa, V, X, B, w, ⟨hP, hD⟩, hS, hl, hw, hR⟩ := hI
  obtain ⟨nO, nG, nQ, nE, nZ, nP, nR, nC, nT⟩ := bn
  obtain ⟨tO, tG, tF, tE, tZ, tP, tR, tC, tT⟩ := bt
  have hb : rB S nO nG nQ nE nZ nP nR nC nT := hR.1.1.1
  have hIM := hb.2.2.1.1
  have hIB := hb.2.2.1.2
  have h4 := RR_4 hR
  have h6 := hR.2.1
  have h6x : 0 ≤ F 6 ∧ F 6 ≤ 60 := by omega
  have hIX := hR.2.2.2
  have hIT : IT g := hR.2.2.1 ▸ hIX
  have hKK : K ≤ 511 := by omega
  obtain ⟨a1, e1⟩ : ∃ y : Int, xv xs (5 * (K : Int) + 1) = y := ⟨_, rfl⟩
  have g1 : -2147483648 ≤ a1 ∧ a1 ≤ 2147483647 := e1 ▸ xv_rg xs (5 * (K : Int) + 1)
  obtain ⟨a2, e2⟩ : ∃ y : Int, xv xs (5 * (K : Int) + 2) = y := ⟨_, rfl⟩
  have g2 : -2147483648 ≤ a2 ∧ a2 ≤ 2147483647 := e2 ▸ xv_rg xs (5 * (K : Int) + 2)
  refine x_al hC hl 2 dL_law_450 rfl rfl ?_
  refine x_arg hC hX hbl hbA hS hl ⟨by omega, by omega⟩ hL 1 (by decide) dL_law_451 dL_law_452 dL_law_453 dL_law_454 dL_law_455 ?_
  rw [e1]
  refine x_arg hC hX hbl hbA hS hl ⟨by omega, by omega⟩ hL 2 (by decide) dL_law_456 dL_law_457 dL_law_458 dL_law_459 dL_law_460 ?_
  rw [e2]
  refine x_vI (As := [.int (iI a1), .int (iI a2)]) hC (k4_hourOf l D cs ha hn ht hh hs nO nG nQ nE nZ nP nR nC nT a1 a2 hIB g1 g2) lkL_57 (q0 := 0) (ci := 4) rfl rfl rfl (sub_of (subX (pm_N _ _ _ _ _ _ _ _) hP hD hS hA) _) hP hS rfl hl.1 rfl (Nat.le_of_ble_eq_true rfl) ⟨rfl, rfl⟩ ⟨Nat.le_of_ble_eq_true rfl, Nat.le_of_ble_eq_true rfl⟩ ⟨by show 29 + 8 * K + 0 ≤ 600000; omega, by show 1069 + 117 * K + 0 ≤ 7302250; omega⟩ dL_law_461 (fun H locs hP hD hS hHs => ?_)
  have hP := vP_perm hP (pm_N _ _ _ _ _ _ _ _).symm
  have hD := vD_perm hD (pm_N _ _ _ _ _ _ _ _).symm
  refine x_al hC hl 1 dL_law_464 rfl rfl ?_
  refine x_arg hC hX hbl hbA hS hl ⟨by omega, by omega⟩ hL 1 (by decide) dL_law_465 dL_law_466 dL_law_467 dL_law_468 dL_law_469 ?_
  rw [e1]
  refine x_arg hC hX hbl hbA hS hl ⟨by omega, by omega⟩ hL 2 (by decide) dL_law_470 dL_law_471 dL_law_472 dL_law_473 dL_law_474 ?_
  rw [e2]
  have hPm := vP_perm hP (pm_M _ _ _ _ _ _ _ _)
  have hDm := vD_perm hD (pm_M _ _ _ _ _ _ _ _)
  refine x_vI (As := [.int (iI a1), .int (iI a2)]) hC (k5_hourOf l D cs h F S Aa V X B a1 a2 hIM g1 g2) lkL_60 (q0 := 0) (ci := 5) rfl rfl rfl (sub_of (subX List.perm_append_comm hPm hDm hS hA) _) hPm hS rfl hl.1 rfl (Nat.le_of_ble_eq_true rfl) ⟨rfl, rfl⟩ ⟨Nat.le_of_ble_eq_true rfl, Nat.le_of_ble_eq_true rfl⟩ ⟨by show 29 + 8 * K + 0 + 0 ≤ 600000; omega, by show 1069 + 117 * K + 0 + 0 ≤ 7302250; omega⟩ dL_law_475 (fun H locs hP hD hS hHs => ?_)
  refine lv_icmp_eq (tgt := 749) hC.1 hC.2.1 dL_law_478 (by decide) (fun _ => ?_) (fun hne => absurd (v_hourOf hb a1 a2) hne)
  rw [wb_mk hn] at hP hD
  exact law_tail hC next (by omega) (by omega) hl hP hD hS hw (by omega) (RR_F hR (f0_4 F) (f0_6 F)) (by omega)
theorem lkL_61 : LkV RL 61 yX4_would cX4_would 6 (some .int) 4 := ⟨tb_450, tb_447, tb_448, tb_449, tb_71, by decide +kernel⟩
theorem lkL_65 : LkV RL 65 yX5_would cX5_would 6 (some .int) 4 := ⟨tb_856, tb_853, tb_854, tb_855, tb_76, by decide +kernel⟩
set_option maxHeartbeats 4000000 in
set_option maxRecDepth 100000 in
theorem law_would {p : Program} {l : Launch} {e : Env} {s : State} {m : MethodId} {args : Array Value} {below : List Frame} {meth : Method} {c : Code} {Q : State → Prop} {D : va_G} {cs : Nat → ClassId} {A : Nat → Prop} (hC : Cx p s m args c cL_law 4 RL D cs) {b L : Nat} {xs : Nat → Int32} (hX : va_X b L xs s s.heap) (hbl : b < s.heap.size) (hbA : ¬ A b) (hA : ∀ q, s.heap.size ≤ q → A q) (hL : L ≤ 2560) {K : Nat} (hK : 5 * K + 4 < L) (next : ∀ (H : Heap) (locs : List Loc) (ls : Array Slot), Inv D cs A s.heap b (K + 1) H locs ls → W p l e room_1 s m args below meth c H locs (29 + 8 * (K + 1)) (1069 + 117 * (K + 1)) Q (F0 m 18 ls [])) {H : Heap} {locs : List Loc} {ls : Array Slot} (hI : Inv D cs A s.heap b K H locs ls) : W p l e room_1 s m args below meth c H locs (29 + 8 * K) (1069 + 117 * K) Q (F0 m 483 ls []) := by
  obtain ⟨ha, hn, ht, hh, hs, ho, hg, h, bn, bt, Q1, sG, oG, oN, g, F, S, Aa, V, X, B, w, ⟨hP, hD⟩, hS, hl, hw, hR⟩ := hI
  obtain ⟨nO, nG, nQ, nE, nZ, nP, nR, nC, nT⟩ := bn
  obtain ⟨tO, tG, tF, tE, tZ, tP, tR, tC, tT⟩ := bt
  have hb : rB S nO nG nQ nE nZ nP nR nC nT := hR.1.1.1
  have hIM := hb.2.2.1.1
  have hIB := hb.2.2.1.2
  have h4 := RR_4 hR
  have h6 := hR.2.1
  have h6x : 0 ≤ F 6 ∧ F 6 ≤ 60 := by omega
  have hIX := hR.2.2.2
  have hIT : IT g := hR.2.2.1 ▸ hIX
  have hKK : K ≤ 511 := by omega
  obtain ⟨a1, e1⟩ : ∃ y : Int, xv xs (5 * (K : Int) + 1) = y := ⟨_, rfl⟩
  have g1 : -2147483648 ≤ a1 ∧ a1 ≤ 2147483647 := e1 ▸ xv_rg xs (5 * (K : Int) + 1)
  obtain ⟨a2, e2⟩ : ∃ y : Int, xv xs (5 * (K : Int) + 2) = y := ⟨_, rfl⟩
  have g2 : -2147483648 ≤ a2 ∧ a2 ≤ 2147483647 := e2 ▸ xv_rg xs (5 * (K : Int) + 2)
  obtain ⟨a3, e3⟩ : ∃ y : Int, xv xs (5 * (K : Int) + 3) = y := ⟨_, rfl⟩
  have g3 : -2147483648 ≤ a3 ∧ a3 ≤ 2147483647 := e3 ▸ xv_rg xs (5 * (K : Int) + 3)
  obtain ⟨a4, e4⟩ : ∃ y : Int, xv xs (5 * (K : Int) + 4) = y := ⟨_, rfl⟩
  have g4 : -2147483648 ≤ a4 ∧ a4 ≤ 2147483647 := e4 ▸ xv_rg xs (5 * (K : Int) + 4)
  refine x_al hC hl 2 dL_law_483 rfl rfl ?_
  refine x_arg hC hX hbl hbA hS hl ⟨by omega, by omega⟩ hL 1 (by decide) dL_law_484 dL_law_485 dL_law_486 dL_law_487 dL_law_488 ?_
  rw [e1]
  refine x_arg hC hX hbl hbA hS hl ⟨by omega, by omega⟩ hL 2 (by decide) dL_law_489 dL_law_490 dL_law_491 dL_law_492 dL_law_493 ?_
  rw [e2]
  refine x_arg hC hX hbl hbA hS hl ⟨by omega, by omega⟩ hL 3 (by decide) dL_law_494 dL_law_495 dL_law_496 dL_law_497 dL_law_498 ?_
  rw [e3]
  refine x_arg hC hX hbl hbA hS hl ⟨by omega, by omega⟩ hL 4 (by decide) dL_law_499 dL_law_500 dL_law_501 dL_law_502 dL_law_503 ?_
  rw [e4]
  refine x_vI (As := [.int (iI a1), .int (iI a2), .int (iI a3), .int (iI a4)]) hC (k4_would l D cs ha hn ht hh hs nO nG nQ nE nZ nP nR nC nT a1 a2 a3 a4 hIB g1 g2 g3 g4) lkL_61 (q0 := 0) (ci := 4) rfl rfl rfl (sub_of (subX (pm_N _ _ _ _ _ _ _ _) hP hD hS hA) _) hP hS rfl hl.1 rfl (Nat.le_of_ble_eq_true rfl) ⟨rfl, rfl⟩ ⟨Nat.le_of_ble_eq_true rfl, Nat.le_of_ble_eq_true rfl⟩ ⟨by show 29 + 8 * K + 0 ≤ 600000; omega, by show 1069 + 117 * K + 0 ≤ 7302250; omega⟩ dL_law_504 (fun H locs hP hD hS hHs => ?_)
  have hP := vP_perm hP (pm_N _ _ _ _ _ _ _ _).symm
  have hD := vD_perm hD (pm_N _ _ _ _ _ _ _ _).symm
  refine x_al hC hl 1 dL_law_507 rfl rfl ?_
  refine x_arg hC hX hbl hbA hS hl ⟨by omega, by omega⟩ hL 1 (by decide) dL_law_508 dL_law_509 dL_law_510 dL_law_511 dL_law_512 ?_
  rw [e1]
  refine x_arg hC hX hbl hbA hS hl ⟨by omega, by omega⟩ hL 2 (by decide) dL_law_513 dL_law_514 dL_law_515 dL_law_516 dL_law_517 ?_
  rw [e2]
  refine x_arg hC hX hbl hbA hS hl ⟨by omega, by omega⟩ hL 3 (by decide) dL_law_518 dL_law_519 dL_law_520 dL_law_521 dL_law_522 ?_
  rw [e3]
  refine x_arg hC hX hbl hbA hS hl ⟨by omega, by omega⟩ hL 4 (by decide) dL_law_523 dL_law_524 dL_law_525 dL_law_526 dL_law_527 ?_
  rw [e4]
  have hPm := vP_perm hP (pm_M _ _ _ _ _ _ _ _)
  have hDm := vD_perm hD (pm_M _ _ _ _ _ _ _ _)
  refine x_vI (As := [.int (iI a1), .int (iI a2), .int (iI a3), .int (iI a4)]) hC (k5_would l D cs h F S Aa V X B a1 a2 a3 a4 hIM g1 g2 g3 g4) lkL_65 (q0 := 0) (ci := 5) rfl rfl rfl (sub_of (subX List.perm_append_comm hPm hDm hS hA) _) hPm hS rfl hl.1 rfl (Nat.le_of_ble_eq_true rfl) ⟨rfl, rfl⟩ ⟨Nat.le_of_ble_eq_true rfl, Nat.le_of_ble_eq_true rfl⟩ ⟨by show 29 + 8 * K + 0 + 0 ≤ 600000; omega, by show 1069 + 117 * K + 0 + 0 ≤ 7302250; omega⟩ dL_law_528 (fun H locs hP hD hS hHs => ?_)
  refine lv_icmp_eq (tgt := 749) hC.1 hC.2.1 dL_law_531 (by decide) (fun _ => ?_) (fun hne => absurd (congrArg iI (v_would hb a1 a2 a3 a4)) hne)
  rw [wb_mk hn] at hP hD
  exact law_tail hC next (by omega) (by omega) hl hP hD hS hw (by omega) (RR_F hR (f0_4 F) (f0_6 F)) (by omega)
theorem lkL_66 : LkV RL 66 yX4_known cX4_known 4 (some .int) 2 := ⟨tb_457, tb_454, tb_455, tb_456, tb_71, by decide +kernel⟩
theorem lkL_69 : LkV RL 69 yX5_known cX5_known 4 (some .int) 2 := ⟨tb_860, tb_857, tb_858, tb_859, tb_76, by decide +kernel⟩
set_option maxHeartbeats 4000000 in
set_option maxRecDepth 100000 in
theorem law_known {p : Program} {l : Launch} {e : Env} {s : State} {m : MethodId} {args : Array Value} {below : List Frame} {meth : Method} {c : Code} {Q : State → Prop} {D : va_G} {cs : Nat → ClassId} {A : Nat → Prop} (hC : Cx p s m args c cL_law 4 RL D cs) {b L : Nat} {xs : Nat → Int32} (hX : va_X b L xs s s.heap) (hbl : b < s.heap.size) (hbA : ¬ A b) (hA : ∀ q, s.heap.size ≤ q → A q) (hL : L ≤ 2560) {K : Nat} (hK : 5 * K + 4 < L) (next : ∀ (H : Heap) (locs : List Loc) (ls : Array Slot), Inv D cs A s.heap b (K + 1) H locs ls → W p l e room_1 s m args below meth c H locs (29 + 8 * (K + 1)) (1069 + 117 * (K + 1)) Q (F0 m 18 ls [])) {H : Heap} {locs : List Loc} {ls : Array Slot} (hI : Inv D cs A s.heap b K H locs ls) : W p l e room_1 s m args below meth c H locs (29 + 8 * K) (1069 + 117 * K) Q (F0 m 536 ls []) := by
  obtain ⟨ha, hn, ht, hh, hs, ho, hg, h, bn, bt, Q1, sG, oG, oN, g, F, S, Aa, V, X, B, w, ⟨hP, hD⟩, hS, hl, hw, hR⟩ := hI
  obtain ⟨nO, nG, nQ, nE, nZ, nP, nR, nC, nT⟩ := bn
  obtain ⟨tO, tG, tF, tE, tZ, tP, tR, tC, tT⟩ := bt
  have hb : rB S nO nG nQ nE nZ nP nR nC nT := hR.1.1.1
  have hIM := hb.2.2.1.1
  have hIB := hb.2.2.1.2
  have h4 := RR_4 hR
  have h6 := hR.2.1
  have h6x : 0 ≤ F 6 ∧ F 6 ≤ 60 := by omega
  have hIX := hR.2.2.2
  have hIT : IT g := hR.2.2.1 ▸ hIX
  have hKK : K ≤ 511 := by omega
  obtain ⟨a1, e1⟩ : ∃ y : Int, xv xs (5 * (K : Int) + 1) = y := ⟨_, rfl⟩
  have g1 : -2147483648 ≤ a1 ∧ a1 ≤ 2147483647 := e1 ▸ xv_rg xs (5 * (K : Int) + 1)
  obtain ⟨a2, e2⟩ : ∃ y : Int, xv xs (5 * (K : Int) + 2) = y := ⟨_, rfl⟩
  have g2 : -2147483648 ≤ a2 ∧ a2 ≤ 2147483647 := e2 ▸ xv_rg xs (5 * (K : Int) + 2)
  refine x_al hC hl 2 dL_law_536 rfl rfl ?_
  refine x_arg hC hX hbl hbA hS hl ⟨by omega, by omega⟩ hL 1 (by decide) dL_law_537 dL_law_538 dL_law_539 dL_law_540 dL_law_541 ?_
  rw [e1]
  refine x_arg hC hX hbl hbA hS hl ⟨by omega, by omega⟩ hL 2 (by decide) dL_law_542 dL_law_543 dL_law_544 dL_law_545 dL_law_546 ?_
  rw [e2]
  refine x_vI (As := [.int (iI a1), .int (iI a2)]) hC (k4_known l D cs ha hn ht hh hs nO nG nQ nE nZ nP nR nC nT tO tG tF tE tZ tP tR tC tT a1 a2 hIB g1 g2) lkL_66 (q0 := 0) (ci := 4) rfl rfl rfl (sub_of (subX (pm_NT _ _ _ _ _ _ _ _) hP hD hS hA) _) hP hS rfl hl.1 rfl (Nat.le_of_ble_eq_true rfl) ⟨rfl, rfl⟩ ⟨Nat.le_of_ble_eq_true rfl, Nat.le_of_ble_eq_true rfl⟩ ⟨by show 29 + 8 * K + 0 ≤ 600000; omega, by show 1069 + 117 * K + 0 ≤ 7302250; omega⟩ dL_law_547 (fun H locs hP hD hS hHs => ?_)
  have hP := vP_perm hP (pm_NT _ _ _ _ _ _ _ _).symm
  have hD := vD_perm hD (pm_NT _ _ _ _ _ _ _ _).symm
  refine x_al hC hl 1 dL_law_550 rfl rfl ?_
  refine x_arg hC hX hbl hbA hS hl ⟨by omega, by omega⟩ hL 1 (by decide) dL_law_551 dL_law_552 dL_law_553 dL_law_554 dL_law_555 ?_
  rw [e1]
  refine x_arg hC hX hbl hbA hS hl ⟨by omega, by omega⟩ hL 2 (by decide) dL_law_556 dL_law_557 dL_law_558 dL_law_559 dL_law_560 ?_
  rw [e2]
  have hPm := vP_perm hP (pm_M _ _ _ _ _ _ _ _)
  have hDm := vD_perm hD (pm_M _ _ _ _ _ _ _ _)
  refine x_vI (As := [.int (iI a1), .int (iI a2)]) hC (k5_known l D cs h F S Aa V X B a1 a2 hIM g1 g2) lkL_69 (q0 := 0) (ci := 5) rfl rfl rfl (sub_of (subX List.perm_append_comm hPm hDm hS hA) _) hPm hS rfl hl.1 rfl (Nat.le_of_ble_eq_true rfl) ⟨rfl, rfl⟩ ⟨Nat.le_of_ble_eq_true rfl, Nat.le_of_ble_eq_true rfl⟩ ⟨by show 29 + 8 * K + 0 + 0 ≤ 600000; omega, by show 1069 + 117 * K + 0 + 0 ≤ 7302250; omega⟩ dL_law_561 (fun H locs hP hD hS hHs => ?_)
  refine lv_icmp_eq (tgt := 749) hC.1 hC.2.1 dL_law_564 (by decide) (fun _ => ?_) (fun hne => absurd (congrArg iI (v_known hb a1 a2)) hne)
  rw [wb_mk hn] at hP hD
  rw [wb_mk ht] at hP hD
  exact law_tail hC next (by omega) (by omega) hl hP hD hS hw (by omega) (RR_F hR (keep_iif ((mAnF_k _ _ _ _ _ (by omega)).trans (f0_4 F)) (f0_4 F)) (keep_iif ((mAnF_k _ _ _ _ _ (by omega)).trans (f0_6 F)) (f0_6 F))) (by omega)
theorem lkL_70 : LkV RL 70 yX4_unknowing cX4_unknowing 2 (some .int) 0 := ⟨tb_466, tb_463, tb_464, tb_465, tb_71, by decide +kernel⟩
theorem lkL_73 : LkV RL 73 yX5_unknowing cX5_unknowing 2 (some .int) 0 := ⟨tb_864, tb_861, tb_862, tb_863, tb_76, by decide +kernel⟩
set_option maxHeartbeats 4000000 in
set_option maxRecDepth 100000 in
theorem law_unknowing {p : Program} {l : Launch} {e : Env} {s : State} {m : MethodId} {args : Array Value} {below : List Frame} {meth : Method} {c : Code} {Q : State → Prop} {D : va_G} {cs : Nat → ClassId} {A : Nat → Prop} (hC : Cx p s m args c cL_law 4 RL D cs) {b L : Nat} {xs : Nat → Int32} (hX : va_X b L xs s s.heap) (hbl : b < s.heap.size) (hbA : ¬ A b) (hA : ∀ q, s.heap.size ≤ q → A q) (hL : L ≤ 2560) {K : Nat} (hK : 5 * K + 4 < L) (next : ∀ (H : Heap) (locs : List Loc) (ls : Array Slot), Inv D cs A s.heap b (K + 1) H locs ls → W p l e room_1 s m args below meth c H locs (29 + 8 * (K + 1)) (1069 + 117 * (K + 1)) Q (F0 m 18 ls [])) {H : Heap} {locs : List Loc} {ls : Array Slot} (hI : Inv D cs A s.heap b K H locs ls) : W p l e room_1 s m args below meth c H locs (29 + 8 * K) (1069 + 117 * K) Q (F0 m 569 ls []) := by
  obtain ⟨ha, hn, ht, hh, hs, ho, hg, h, bn, bt, Q1, sG, oG, oN, g, F, S, Aa, V, X, B, w, ⟨hP, hD⟩, hS, hl, hw, hR⟩ := hI
  obtain ⟨nO, nG, nQ, nE, nZ, nP, nR, nC, nT⟩ := bn
  obtain ⟨tO, tG, tF, tE, tZ, tP, tR, tC, tT⟩ := bt
  have hb : rB S nO nG nQ nE nZ nP nR nC nT := hR.1.1.1
  have hIM := hb.2.2.1.1
  have hIB := hb.2.2.1.2
  have h4 := RR_4 hR
  have h6 := hR.2.1
  have h6x : 0 ≤ F 6 ∧ F 6 ≤ 60 := by omega
  have hIX := hR.2.2.2
  have hIT : IT g := hR.2.2.1 ▸ hIX
  have hKK : K ≤ 511 := by omega
  refine x_al hC hl 2 dL_law_569 rfl rfl ?_
  refine x_vI (As := []) hC (k4_unknowing l D cs ha hn ht hh hs nO nG nQ nE nZ nP nR nC nT tO tG tF tE tZ tP tR tC tT hIB) lkL_70 (q0 := 0) (ci := 4) rfl rfl rfl (sub_of (subX (pm_NT _ _ _ _ _ _ _ _) hP hD hS hA) _) hP hS rfl hl.1 rfl (Nat.le_of_ble_eq_true rfl) ⟨rfl, rfl⟩ ⟨Nat.le_of_ble_eq_true rfl, Nat.le_of_ble_eq_true rfl⟩ ⟨by show 29 + 8 * K + 0 ≤ 600000; omega, by show 1069 + 117 * K + 0 ≤ 7302250; omega⟩ dL_law_570 (fun H locs hP hD hS hHs => ?_)
  have hP := vP_perm hP (pm_NT _ _ _ _ _ _ _ _).symm
  have hD := vD_perm hD (pm_NT _ _ _ _ _ _ _ _).symm
  refine x_al hC hl 1 dL_law_573 rfl rfl ?_
  have hPm := vP_perm hP (pm_M _ _ _ _ _ _ _ _)
  have hDm := vD_perm hD (pm_M _ _ _ _ _ _ _ _)
  refine x_vI (As := []) hC (k5_unknowing l D cs h F S Aa V X B hIM) lkL_73 (q0 := 0) (ci := 5) rfl rfl rfl (sub_of (subX List.perm_append_comm hPm hDm hS hA) _) hPm hS rfl hl.1 rfl (Nat.le_of_ble_eq_true rfl) ⟨rfl, rfl⟩ ⟨Nat.le_of_ble_eq_true rfl, Nat.le_of_ble_eq_true rfl⟩ ⟨by show 29 + 8 * K + 0 + 0 ≤ 600000; omega, by show 1069 + 117 * K + 0 + 0 ≤ 7302250; omega⟩ dL_law_574 (fun H locs hP hD hS hHs => ?_)
  refine lv_icmp_eq (tgt := 749) hC.1 hC.2.1 dL_law_577 (by decide) (fun _ => ?_) (fun hne => absurd (congrArg iI (v_unk hb)) hne)
  rw [wb_mk hn] at hP hD
  rw [wb_mk ht] at hP hD
  exact law_tail hC next (by omega) (by omega) hl hP hD hS hw (by omega) (RR_F hR ((mAnF_k _ _ _ _ _ (by omega)).trans (f0_4 F)) ((mAnF_k _ _ _ _ _ (by omega)).trans (f0_6 F))) (by omega)
theorem lkL_74 : LkV RL 74 yX4_share cX4_share 2 (some .int) 0 := ⟨tb_474, tb_471, tb_472, tb_473, tb_71, by decide +kernel⟩
theorem lkL_77 : LkV RL 77 yX5_share cX5_share 2 (some .int) 0 := ⟨tb_868, tb_865, tb_866, tb_867, tb_76, by decide +kernel⟩
set_option maxHeartbeats 4000000 in
set_option maxRecDepth 100000 in
theorem law_share {p : Program} {l : Launch} {e : Env} {s : State} {m : MethodId} {args : Array Value} {below : List Frame} {meth : Method} {c : Code} {Q : State → Prop} {D : va_G} {cs : Nat → ClassId} {A : Nat → Prop} (hC : Cx p s m args c cL_law 4 RL D cs) {b L : Nat} {xs : Nat → Int32} (hX : va_X b L xs s s.heap) (hbl : b < s.heap.size) (hbA : ¬ A b) (hA : ∀ q, s.heap.size ≤ q → A q) (hL : L ≤ 2560) {K : Nat} (hK : 5 * K + 4 < L) (next : ∀ (H : Heap) (locs : List Loc) (ls : Array Slot), Inv D cs A s.heap b (K + 1) H locs ls → W p l e room_1 s m args below meth c H locs (29 + 8 * (K + 1)) (1069 + 117 * (K + 1)) Q (F0 m 18 ls [])) {H : Heap} {locs : List Loc} {ls : Array Slot} (hI : Inv D cs A s.heap b K H locs ls) : W p l e room_1 s m args below meth c H locs (29 + 8 * K) (1069 + 117 * K) Q (F0 m 582 ls []) := by
  obtain ⟨ha, hn, ht, hh, hs, ho, hg, h, bn, bt, Q1, sG, oG, oN, g, F, S, Aa, V, X, B, w, ⟨hP, hD⟩, hS, hl, hw, hR⟩ := hI
  obtain ⟨nO, nG, nQ, nE, nZ, nP, nR, nC, nT⟩ := bn
  obtain ⟨tO, tG, tF, tE, tZ, tP, tR, tC, tT⟩ := bt
  have hb : rB S nO nG nQ nE nZ nP nR nC nT := hR.1.1.1
  have hIM := hb.2.2.1.1
  have hIB := hb.2.2.1.2
  have h4 := RR_4 hR
  have h6 := hR.2.1
  have h6x : 0 ≤ F 6 ∧ F 6 ≤ 60 := by omega
  have hIX := hR.2.2.2
  have hIT : IT g := hR.2.2.1 ▸ hIX
  have hKK : K ≤ 511 := by omega
  obtain ⟨FE, FT, ⟨hFE, hFT⟩, hx4, hx5, hvv⟩ := v_share hb (by have := hR.1.1.2.2; omega)
  refine x_al hC hl 2 dL_law_582 rfl rfl ?_
  refine x_vI (As := []) hC (k4_share l D cs ha hn ht hh hs nO nG nQ nE nZ nP nR nC nT tO tG tF tE tZ tP tR tC tT FE FT hFE hFT hx4 hIB) lkL_74 (q0 := 0) (ci := 4) rfl rfl rfl (sub_of (subX (pm_NT _ _ _ _ _ _ _ _) hP hD hS hA) _) hP hS rfl hl.1 rfl (Nat.le_of_ble_eq_true rfl) ⟨rfl, rfl⟩ ⟨Nat.le_of_ble_eq_true rfl, Nat.le_of_ble_eq_true rfl⟩ ⟨by show 29 + 8 * K + 0 ≤ 600000; omega, by show 1069 + 117 * K + 0 ≤ 7302250; omega⟩ dL_law_583 (fun H locs hP hD hS hHs => ?_)
  have hP := vP_perm hP (pm_NT _ _ _ _ _ _ _ _).symm
  have hD := vD_perm hD (pm_NT _ _ _ _ _ _ _ _).symm
  refine x_al hC hl 1 dL_law_586 rfl rfl ?_
  have hPm := vP_perm hP (pm_M _ _ _ _ _ _ _ _)
  have hDm := vD_perm hD (pm_M _ _ _ _ _ _ _ _)
  refine x_vI (As := []) hC (k5_share l D cs h F S Aa V X B FE FT hFE hFT hx5 hIM) lkL_77 (q0 := 0) (ci := 5) rfl rfl rfl (sub_of (subX List.perm_append_comm hPm hDm hS hA) _) hPm hS rfl hl.1 rfl (Nat.le_of_ble_eq_true rfl) ⟨rfl, rfl⟩ ⟨Nat.le_of_ble_eq_true rfl, Nat.le_of_ble_eq_true rfl⟩ ⟨by show 29 + 8 * K + 0 + 0 ≤ 600000; omega, by show 1069 + 117 * K + 0 + 0 ≤ 7302250; omega⟩ dL_law_587 (fun H locs hP hD hS hHs => ?_)
  refine lv_icmp_eq (tgt := 749) hC.1 hC.2.1 dL_law_590 (by decide) (fun _ => ?_) (fun hne => absurd (congrArg iI hvv) hne)
  rw [wb_mk hn] at hP hD
  rw [wb_mk ht] at hP hD
  exact law_tail hC next (by omega) (by omega) hl hP hD hS hw (by omega) (RR_F hR ((mAnF_k _ _ _ _ _ (by omega)).trans (f0_4 F)) ((mAnF_k _ _ _ _ _ (by omega)).trans (f0_6 F))) (by omega)
theorem lkL_78 : LkV RL 78 yX4_bestRule cX4_bestRule 6 (some .int) 1 := ⟨tb_482, tb_479, tb_480, tb_481, tb_71, by decide +kernel⟩
theorem lkL_81 : LkV RL 81 yX5_bestRule cX5_bestRule 6 (some .int) 1 := ⟨tb_886, tb_883, tb_884, tb_885, tb_76, by decide +kernel⟩
set_option maxHeartbeats 4000000 in
set_option maxRecDepth 100000 in
theorem law_bestRule {p : Program} {l : Launch} {e : Env} {s : State} {m : MethodId} {args : Array Value} {below : List Frame} {meth : Method} {c : Code} {Q : State → Prop} {D : va_G} {cs : Nat → ClassId} {A : Nat → Prop} (hC : Cx p s m args c cL_law 4 RL D cs) {b L : Nat} {xs : Nat → Int32} (hX : va_X b L xs s s.heap) (hbl : b < s.heap.size) (hbA : ¬ A b) (hA : ∀ q, s.heap.size ≤ q → A q) (hL : L ≤ 2560) {K : Nat} (hK : 5 * K + 4 < L) (next : ∀ (H : Heap) (locs : List Loc) (ls : Array Slot), Inv D cs A s.heap b (K + 1) H locs ls → W p l e room_1 s m args below meth c H locs (29 + 8 * (K + 1)) (1069 + 117 * (K + 1)) Q (F0 m 18 ls [])) {H : Heap} {locs : List Loc} {ls : Array Slot} (hI : Inv D cs A s.heap b K H locs ls) : W p l e room_1 s m args below meth c H locs (29 + 8 * K) (1069 + 117 * K) Q (F0 m 595 ls []) := by
  obtain ⟨ha, hn, ht, hh, hs, ho, hg, h, bn, bt, Q1, sG, oG, oN, g, F, S, Aa, V, X, B, w, ⟨hP, hD⟩, hS, hl, hw, hR⟩ := hI
  obtain ⟨nO, nG, nQ, nE, nZ, nP, nR, nC, nT⟩ := bn
  obtain ⟨tO, tG, tF, tE, tZ, tP, tR, tC, tT⟩ := bt
  have hb : rB S nO nG nQ nE nZ nP nR nC nT := hR.1.1.1
  have hIM := hb.2.2.1.1
  have hIB := hb.2.2.1.2
  have h4 := RR_4 hR
  have h6 := hR.2.1
  have h6x : 0 ≤ F 6 ∧ F 6 ≤ 60 := by omega
  have hIX := hR.2.2.2
  have hIT : IT g := hR.2.2.1 ▸ hIX
  have hKK : K ≤ 511 := by omega
  obtain ⟨a1, e1⟩ : ∃ y : Int, xv xs (5 * (K : Int) + 1) = y := ⟨_, rfl⟩
  have g1 : -2147483648 ≤ a1 ∧ a1 ≤ 2147483647 := e1 ▸ xv_rg xs (5 * (K : Int) + 1)
  refine x_al hC hl 2 dL_law_595 rfl rfl ?_
  refine x_arg hC hX hbl hbA hS hl ⟨by omega, by omega⟩ hL 1 (by decide) dL_law_596 dL_law_597 dL_law_598 dL_law_599 dL_law_600 ?_
  rw [e1]
  refine x_vI (As := [.int (iI a1)]) hC (k4_bestRule l D cs ha hn ht hh hs nO nG nQ nE nZ nP nR nC nT tO tG tF tE tZ tP tR tC tT a1 hIB g1) lkL_78 (q0 := 0) (ci := 4) rfl rfl rfl (sub_of (subX (pm_NT _ _ _ _ _ _ _ _) hP hD hS hA) _) hP hS rfl hl.1 rfl (Nat.le_of_ble_eq_true rfl) ⟨rfl, rfl⟩ ⟨Nat.le_of_ble_eq_true rfl, Nat.le_of_ble_eq_true rfl⟩ ⟨by show 29 + 8 * K + 0 ≤ 600000; omega, by show 1069 + 117 * K + 0 ≤ 7302250; omega⟩ dL_law_601 (fun H locs hP hD hS hHs => ?_)
  have hP := vP_perm hP (pm_NT _ _ _ _ _ _ _ _).symm
  have hD := vD_perm hD (pm_NT _ _ _ _ _ _ _ _).symm
  refine x_al hC hl 1 dL_law_604 rfl rfl ?_
  refine x_arg hC hX hbl hbA hS hl ⟨by omega, by omega⟩ hL 1 (by decide) dL_law_605 dL_law_606 dL_law_607 dL_law_608 dL_law_609 ?_
  rw [e1]
  have hPm := vP_perm hP (pm_M _ _ _ _ _ _ _ _)
  have hDm := vD_perm hD (pm_M _ _ _ _ _ _ _ _)
  refine x_vI (As := [.int (iI a1)]) hC (k5_bestRule l D cs h F S Aa V X B a1 hIM g1) lkL_81 (q0 := 0) (ci := 5) rfl rfl rfl (sub_of (subX List.perm_append_comm hPm hDm hS hA) _) hPm hS rfl hl.1 rfl (Nat.le_of_ble_eq_true rfl) ⟨rfl, rfl⟩ ⟨Nat.le_of_ble_eq_true rfl, Nat.le_of_ble_eq_true rfl⟩ ⟨by show 29 + 8 * K + 0 + 0 ≤ 600000; omega, by show 1069 + 117 * K + 0 + 0 ≤ 7302250; omega⟩ dL_law_610 (fun H locs hP hD hS hHs => ?_)
  refine lv_icmp_eq (tgt := 749) hC.1 hC.2.1 dL_law_613 (by decide) (fun _ => ?_) (fun hne => absurd (congrArg iI (v_best hb a1)) hne)
  rw [wb_mk hn] at hP hD
  rw [wb_mk ht] at hP hD
  exact law_tail hC next (by omega) (by omega) hl hP hD hS hw (by omega) (RR_F hR (keep_iif ((zB_k _ _ _ _ (by omega) (by omega)).trans (f0_4 F)) (f0_4 F)) (keep_iif ((zB_k _ _ _ _ (by omega) (by omega)).trans (f0_6 F)) (f0_6 F))) (by omega)
theorem lkL_82 : LkV RL 82 yX4_emptied cX4_emptied 6 (some .int) 1 := ⟨tb_486, tb_483, tb_484, tb_485, tb_71, by decide +kernel⟩
theorem lkL_85 : LkV RL 85 yX5_emptied cX5_emptied 5 (some .int) 1 := ⟨tb_890, tb_887, tb_888, tb_889, tb_76, by decide +kernel⟩
set_option maxHeartbeats 4000000 in
set_option maxRecDepth 100000 in
theorem law_emptied {p : Program} {l : Launch} {e : Env} {s : State} {m : MethodId} {args : Array Value} {below : List Frame} {meth : Method} {c : Code} {Q : State → Prop} {D : va_G} {cs : Nat → ClassId} {A : Nat → Prop} (hC : Cx p s m args c cL_law 4 RL D cs) {b L : Nat} {xs : Nat → Int32} (hX : va_X b L xs s s.heap) (hbl : b < s.heap.size) (hbA : ¬ A b) (hA : ∀ q, s.heap.size ≤ q → A q) (hL : L ≤ 2560) {K : Nat} (hK : 5 * K + 4 < L) (next : ∀ (H : Heap) (locs : List Loc) (ls : Array Slot), Inv D cs A s.heap b (K + 1) H locs ls → W p l e room_1 s m args below meth c H locs (29 + 8 * (K + 1)) (1069 + 117 * (K + 1)) Q (F0 m 18 ls [])) {H : Heap} {locs : List Loc} {ls : Array Slot} (hI : Inv D cs A s.heap b K H locs ls) : W p l e room_1 s m args below meth c H locs (29 + 8 * K) (1069 + 117 * K) Q (F0 m 618 ls []) := by
  obtain ⟨ha, hn, ht, hh, hs, ho, hg, h, bn, bt, Q1, sG, oG, oN, g, F, S, Aa, V, X, B, w, ⟨hP, hD⟩, hS, hl, hw, hR⟩ := hI
  obtain ⟨nO, nG, nQ, nE, nZ, nP, nR, nC, nT⟩ := bn
  obtain ⟨tO, tG, tF, tE, tZ, tP, tR, tC, tT⟩ := bt
  have hb : rB S nO nG nQ nE nZ nP nR nC nT := hR.1.1.1
  have hIM := hb.2.2.1.1
  have hIB := hb.2.2.1.2
  have h4 := RR_4 hR
  have h6 := hR.2.1
  have h6x : 0 ≤ F 6 ∧ F 6 ≤ 60 := by omega
  have hIX := hR.2.2.2
  have hIT : IT g := hR.2.2.1 ▸ hIX
  have hKK : K ≤ 511 := by omega
  obtain ⟨a1, e1⟩ : ∃ y : Int, xv xs (5 * (K : Int) + 1) = y := ⟨_, rfl⟩
  have g1 : -2147483648 ≤ a1 ∧ a1 ≤ 2147483647 := e1 ▸ xv_rg xs (5 * (K : Int) + 1)
  refine x_al hC hl 2 dL_law_618 rfl rfl ?_
  refine x_arg hC hX hbl hbA hS hl ⟨by omega, by omega⟩ hL 1 (by decide) dL_law_619 dL_law_620 dL_law_621 dL_law_622 dL_law_623 ?_
  rw [e1]
  refine x_vI (As := [.int (iI a1)]) hC (k4_emptied l D cs ha hn ht hh hs nO nG nQ nE nZ nP nR nC nT tO tG tF tE tZ tP tR tC tT a1 hIB g1) lkL_82 (q0 := 0) (ci := 4) rfl rfl rfl (sub_of (subX (pm_NT _ _ _ _ _ _ _ _) hP hD hS hA) _) hP hS rfl hl.1 rfl (Nat.le_of_ble_eq_true rfl) ⟨rfl, rfl⟩ ⟨Nat.le_of_ble_eq_true rfl, Nat.le_of_ble_eq_true rfl⟩ ⟨by show 29 + 8 * K + 0 ≤ 600000; omega, by show 1069 + 117 * K + 0 ≤ 7302250; omega⟩ dL_law_624 (fun H locs hP hD hS hHs => ?_)
  have hP := vP_perm hP (pm_NT _ _ _ _ _ _ _ _).symm
  have hD := vD_perm hD (pm_NT _ _ _ _ _ _ _ _).symm
  refine x_al hC hl 1 dL_law_627 rfl rfl ?_
  refine x_arg hC hX hbl hbA hS hl ⟨by omega, by omega⟩ hL 1 (by decide) dL_law_628 dL_law_629 dL_law_630 dL_law_631 dL_law_632 ?_
  rw [e1]
  have hPm := vP_perm hP (pm_M _ _ _ _ _ _ _ _)
  have hDm := vD_perm hD (pm_M _ _ _ _ _ _ _ _)
  refine x_vI (As := [.int (iI a1)]) hC (k5_emptied l D cs h F S Aa V X B a1 hIM g1) lkL_85 (q0 := 0) (ci := 5) rfl rfl rfl (sub_of (subX List.perm_append_comm hPm hDm hS hA) _) hPm hS rfl hl.1 rfl (Nat.le_of_ble_eq_true rfl) ⟨rfl, rfl⟩ ⟨Nat.le_of_ble_eq_true rfl, Nat.le_of_ble_eq_true rfl⟩ ⟨by show 29 + 8 * K + 0 + 0 ≤ 600000; omega, by show 1069 + 117 * K + 0 + 0 ≤ 7302250; omega⟩ dL_law_633 (fun H locs hP hD hS hHs => ?_)
  refine lv_icmp_eq (tgt := 749) hC.1 hC.2.1 dL_law_636 (by decide) (fun _ => ?_) (fun hne => absurd (congrArg iI (v_emptied hb a1)) hne)
  rw [wb_mk hn] at hP hD
  rw [wb_mk ht] at hP hD
  exact law_tail hC next (by omega) (by omega) hl hP hD hS hw (by omega) (RR_F hR (f0_4 F) (f0_6 F)) (by omega)
