theorem lkL_32 : LkV RL 32 yX4_close cX4_close 2 (some .int) 1 := ⟨tb_335, tb_332, tb_333, tb_334, tb_71, by decide +kernel⟩
theorem lkL_35 : LkV RL 35 yX5_close cX5_close 2 (some .int) 1 := ⟨tb_772, tb_769, tb_770, tb_771, tb_76, by decide +kernel⟩
set_option maxHeartbeats 4000000 in
set_option maxRecDepth 100000 in
theorem law_close {p : Program} {l : Launch} {e : Env} {s : State} {m : MethodId} {args : Array Value} {below : List Frame} {meth : Method} {c : Code} {Q : State → Prop} {D : va_G} {cs : Nat → ClassId} {A : Nat → Prop} (hC : Cx p s m args c cL_law 4 RL D cs) {b L : Nat} {xs : Nat → Int32} (hX : va_X b L xs s s.heap) (hbl : b < s.heap.size) (hbA : ¬ A b) (hA : ∀ q, s.heap.size ≤ q → A q) (hL : L ≤ 2560) {K : Nat} (hK : 5 * K + 4 < L) (next : ∀ (H : Heap) (locs : List Loc) (ls : Array Slot), Inv D cs A s.heap b (K + 1) H locs ls → W p l e room_1 s m args below meth c H locs (29 + 8 * (K + 1)) (1069 + 117 * (K + 1)) Q (F0 m 18 ls [])) {H : Heap} {locs : List Loc} {ls : Array Slot} (hI : Inv D cs A s.heap b K H locs ls) : W p l e room_1 s m args below meth c H locs (29 + 8 * K) (1069 + 117 * K) Q (F0 m 282 ls []) := by
  obtain ⟨ha, hn, ht, hh, hs, ho, hg, h, bn, bt, Q1, sG, oG, oN, g, F, S, Aa, V, X, B, w, ⟨hP, hD⟩, hS, hl, hw, hR⟩ := hI
  obtain ⟨nO, nG, nQ, nE, nZ, nP, nR, nC, nT⟩ := bn
  obtain ⟨tO, tG, tF, tE, tZ, tP, tR, tC, tT⟩ := bt
  have hb : rB S nO nG nQ nE nZ nP nR nC nT := hR.1.1.1
  have hIM := hb.2.2.1.1
  have hIB := hb.2.2.1.2
  have h4 := RR_4 hR
  have h6 := hR.2.1
  have h6x : 0 ≤ F 6 ∧ F 6 ≤ 60 := by omega
  have hIX := hR.2.2.2
  have hIT : IT g := hR.2.2.1 ▸ hIX
  have hKK : K ≤ 511 := by omega
  obtain ⟨a1, e1⟩ : ∃ y : Int, xv xs (5 * (K : Int) + 1) = y := ⟨_, rfl⟩
  have g1 : -2147483648 ≤ a1 ∧ a1 ≤ 2147483647 := e1 ▸ xv_rg xs (5 * (K : Int) + 1)
  refine x_al hC hl 2 dL_law_282 rfl rfl ?_
  refine x_arg hC hX hbl hbA hS hl ⟨by omega, by omega⟩ hL 1 (by decide) dL_law_283 dL_law_284 dL_law_285 dL_law_286 dL_law_287 ?_
  rw [e1]
  refine x_vX (As := [.int (iI a1)]) hC (k4_close l D cs ha hn ht hh hs nO nG nQ nE nZ nP nR nC nT tO tG tF tE tZ tP tR tC tT a1 Q1 (K : Int) w hw (by omega) hIB g1) lkL_32 (q0 := 0) (ci := 4) rfl rfl rfl (subX (pm_NTw _ _ _ _ _ _ _ _) hP hD hS hA) hP hS rfl hl.1 rfl (Nat.le_of_ble_eq_true rfl) ⟨rfl, rfl⟩ ⟨Nat.le_of_ble_eq_true rfl, Nat.le_of_ble_eq_true rfl⟩ ⟨by show 29 + 8 * K + 8 ≤ 600000; omega, by show 1069 + 117 * K + 117 ≤ 7302250; omega⟩ dL_law_288 (fun v w1 H locs hpost hP hD hS hHs => ?_)
  obtain ⟨rfl, w2, hw2, rfl⟩ := hpost
  have hP := vP_perm hP (pm_NTw _ _ _ _ _ _ _ _).symm
  have hD := vD_perm hD (pm_NTw _ _ _ _ _ _ _ _).symm
  refine x_al hC hl 1 dL_law_291 rfl rfl ?_
  refine x_arg hC hX hbl hbA hS hl ⟨by omega, by omega⟩ hL 1 (by decide) dL_law_292 dL_law_293 dL_law_294 dL_law_295 dL_law_296 ?_
  rw [e1]
  have hPm := vP_perm hP (pm_M _ _ _ _ _ _ _ _)
  have hDm := vD_perm hD (pm_M _ _ _ _ _ _ _ _)
  refine x_vI (As := [.int (iI a1)]) hC (k5_close l D cs h F S Aa V X B a1 hIM h4 g1) lkL_35 (q0 := 0) (ci := 5) rfl rfl rfl (sub_of (subX List.perm_append_comm hPm hDm hS hA) _) hPm hS rfl hl.1 rfl (Nat.le_of_ble_eq_true rfl) ⟨rfl, rfl⟩ ⟨Nat.le_of_ble_eq_true rfl, Nat.le_of_ble_eq_true rfl⟩ ⟨by show 29 + 8 * K + 8 + 0 ≤ 600000; omega, by show 1069 + 117 * K + 117 + 0 ≤ 7302250; omega⟩ dL_law_297 (fun H locs hP hD hS hHs => ?_)
  refine lv_icmp_eq (tgt := 749) hC.1 hC.2.1 dL_law_300 (by decide) (fun _ => ?_) (fun hne => absurd (congrArg iI (s_close hR a1).1) hne)
  exact law_tail hC next (by omega) (by omega) hl hP hD hS hw2 (by omega) (s_close hR a1).2 (by omega)
theorem lkL_36 : LkV RL 36 yX4_anew cX4_anew 1 (some .int) 0 := ⟨tb_353, tb_350, tb_351, tb_352, tb_71, by decide +kernel⟩
theorem lkL_40 : LkV RL 40 yX5_anew cX5_anew 1 (some .int) 0 := ⟨tb_784, tb_781, tb_782, tb_783, tb_76, by decide +kernel⟩
set_option maxHeartbeats 4000000 in
set_option maxRecDepth 100000 in
theorem law_anew {p : Program} {l : Launch} {e : Env} {s : State} {m : MethodId} {args : Array Value} {below : List Frame} {meth : Method} {c : Code} {Q : State → Prop} {D : va_G} {cs : Nat → ClassId} {A : Nat → Prop} (hC : Cx p s m args c cL_law 4 RL D cs) {b L : Nat} {xs : Nat → Int32} (hX : va_X b L xs s s.heap) (hbl : b < s.heap.size) (hbA : ¬ A b) (hA : ∀ q, s.heap.size ≤ q → A q) (hL : L ≤ 2560) {K : Nat} (hK : 5 * K + 4 < L) (next : ∀ (H : Heap) (locs : List Loc) (ls : Array Slot), Inv D cs A s.heap b (K + 1) H locs ls → W p l e room_1 s m args below meth c H locs (29 + 8 * (K + 1)) (1069 + 117 * (K + 1)) Q (F0 m 18 ls [])) {H : Heap} {locs : List Loc} {ls : Array Slot} (hI : Inv D cs A s.heap b K H locs ls) : W p l e room_1 s m args below meth c H locs (29 + 8 * K) (1069 + 117 * K) Q (F0 m 305 ls []) := by
  obtain ⟨ha, hn, ht, hh, hs, ho, hg, h, bn, bt, Q1, sG, oG, oN, g, F, S, Aa, V, X, B, w, ⟨hP, hD⟩, hS, hl, hw, hR⟩ := hI
  obtain ⟨nO, nG, nQ, nE, nZ, nP, nR, nC, nT⟩ := bn
  obtain ⟨tO, tG, tF, tE, tZ, tP, tR, tC, tT⟩ := bt
  have hb : rB S nO nG nQ nE nZ nP nR nC nT := hR.1.1.1
  have hIM := hb.2.2.1.1
  have hIB := hb.2.2.1.2
  have h4 := RR_4 hR
  have h6 := hR.2.1
  have h6x : 0 ≤ F 6 ∧ F 6 ≤ 60 := by omega
  have hIX := hR.2.2.2
  have hIT : IT g := hR.2.2.1 ▸ hIX
  have hKK : K ≤ 511 := by omega
  refine x_al hC hl 2 dL_law_305 rfl rfl ?_
  refine x_vX (As := []) hC (k4_anew l D cs ha hn ht hh hs nO nG nQ nE nZ nP nR nC nT tO tG tF tE tZ tP tR tC tT Q1 (K : Int) w hw (by omega) hIB) lkL_36 (q0 := 0) (ci := 4) rfl rfl rfl (subX (pm_NTw _ _ _ _ _ _ _ _) hP hD hS hA) hP hS rfl hl.1 rfl (Nat.le_of_ble_eq_true rfl) ⟨rfl, rfl⟩ ⟨Nat.le_of_ble_eq_true rfl, Nat.le_of_ble_eq_true rfl⟩ ⟨by show 29 + 8 * K + 8 ≤ 600000; omega, by show 1069 + 117 * K + 117 ≤ 7302250; omega⟩ dL_law_306 (fun v w1 H locs hpost hP hD hS hHs => ?_)
  obtain ⟨rfl, w2, hw2, rfl⟩ := hpost
  have hP := vP_perm hP (pm_NTw _ _ _ _ _ _ _ _).symm
  have hD := vD_perm hD (pm_NTw _ _ _ _ _ _ _ _).symm
  refine x_al hC hl 1 dL_law_309 rfl rfl ?_
  have hPm := vP_perm hP (pm_M _ _ _ _ _ _ _ _)
  have hDm := vD_perm hD (pm_M _ _ _ _ _ _ _ _)
  refine x_vI (As := []) hC (k5_anew l D cs h F S Aa V X B hIM h4) lkL_40 (q0 := 0) (ci := 5) rfl rfl rfl (sub_of (subX List.perm_append_comm hPm hDm hS hA) _) hPm hS rfl hl.1 rfl (Nat.le_of_ble_eq_true rfl) ⟨rfl, rfl⟩ ⟨Nat.le_of_ble_eq_true rfl, Nat.le_of_ble_eq_true rfl⟩ ⟨by show 29 + 8 * K + 8 + 0 ≤ 600000; omega, by show 1069 + 117 * K + 117 + 0 ≤ 7302250; omega⟩ dL_law_310 (fun H locs hP hD hS hHs => ?_)
  refine lv_icmp_eq (tgt := 749) hC.1 hC.2.1 dL_law_313 (by decide) (fun _ => ?_) (fun hne => absurd (congrArg iI (s_anew hR Aa B Aa B).1) hne)
  exact law_tail hC next (by omega) (by omega) hl hP hD hS hw2 (by omega) (s_anew hR _ _ _ _).2 (by omega)
theorem lkL_41 : LkV RL 41 yX4_set cX4_set 3 (some .int) 2 := ⟨tb_373, tb_370, tb_371, tb_372, tb_71, by decide +kernel⟩
theorem lkL_44 : LkV RL 44 yX5_set cX5_set 4 (some .int) 2 := ⟨tb_808, tb_805, tb_806, tb_807, tb_76, by decide +kernel⟩
set_option maxHeartbeats 4000000 in
set_option maxRecDepth 100000 in
theorem law_set {p : Program} {l : Launch} {e : Env} {s : State} {m : MethodId} {args : Array Value} {below : List Frame} {meth : Method} {c : Code} {Q : State → Prop} {D : va_G} {cs : Nat → ClassId} {A : Nat → Prop} (hC : Cx p s m args c cL_law 4 RL D cs) {b L : Nat} {xs : Nat → Int32} (hX : va_X b L xs s s.heap) (hbl : b < s.heap.size) (hbA : ¬ A b) (hA : ∀ q, s.heap.size ≤ q → A q) (hL : L ≤ 2560) {K : Nat} (hK : 5 * K + 4 < L) (next : ∀ (H : Heap) (locs : List Loc) (ls : Array Slot), Inv D cs A s.heap b (K + 1) H locs ls → W p l e room_1 s m args below meth c H locs (29 + 8 * (K + 1)) (1069 + 117 * (K + 1)) Q (F0 m 18 ls [])) {H : Heap} {locs : List Loc} {ls : Array Slot} (hI : Inv D cs A s.heap b K H locs ls) : W p l e room_1 s m args below meth c H locs (29 + 8 * K) (1069 + 117 * K) Q (F0 m 318 ls []) := by
  obtain ⟨ha, hn, ht, hh, hs, ho, hg, h, bn, bt, Q1, sG, oG, oN, g, F, S, Aa, V, X, B, w, ⟨hP, hD⟩, hS, hl, hw, hR⟩ := hI
  obtain ⟨nO, nG, nQ, nE, nZ, nP, nR, nC, nT⟩ := bn
  obtain ⟨tO, tG, tF, tE, tZ, tP, tR, tC, tT⟩ := bt
  have hb : rB S nO nG nQ nE nZ nP nR nC nT := hR.1.1.1
  have hIM := hb.2.2.1.1
  have hIB := hb.2.2.1.2
  have h4 := RR_4 hR
  have h6 := hR.2.1
  have h6x : 0 ≤ F 6 ∧ F 6 ≤ 60 := by omega
  have hIX := hR.2.2.2
  have hIT : IT g := hR.2.2.1 ▸ hIX
  have hKK : K ≤ 511 := by omega
  obtain ⟨a1, e1⟩ : ∃ y : Int, xv xs (5 * (K : Int) + 1) = y := ⟨_, rfl⟩
  have g1 : -2147483648 ≤ a1 ∧ a1 ≤ 2147483647 := e1 ▸ xv_rg xs (5 * (K : Int) + 1)
  obtain ⟨a2, e2⟩ : ∃ y : Int, xv xs (5 * (K : Int) + 2) = y := ⟨_, rfl⟩
  have g2 : -2147483648 ≤ a2 ∧ a2 ≤ 2147483647 := e2 ▸ xv_rg xs (5 * (K : Int) + 2)
  refine x_al hC hl 2 dL_law_318 rfl rfl ?_
  refine x_arg hC hX hbl hbA hS hl ⟨by omega, by omega⟩ hL 1 (by decide) dL_law_319 dL_law_320 dL_law_321 dL_law_322 dL_law_323 ?_
  rw [e1]
  refine x_arg hC hX hbl hbA hS hl ⟨by omega, by omega⟩ hL 2 (by decide) dL_law_324 dL_law_325 dL_law_326 dL_law_327 dL_law_328 ?_
  rw [e2]
  refine x_vX (As := [.int (iI a1), .int (iI a2)]) hC (k4_set l D cs ha hn ht hh hs nO nG nQ nE nZ nP nR nC nT tO tG tF tE tZ tP tR tC tT a1 a2 Q1 (K : Int) w hw (by omega) hIB g1 g2) lkL_41 (q0 := 0) (ci := 4) rfl rfl rfl (subX (pm_NTw _ _ _ _ _ _ _ _) hP hD hS hA) hP hS rfl hl.1 rfl (Nat.le_of_ble_eq_true rfl) ⟨rfl, rfl⟩ ⟨Nat.le_of_ble_eq_true rfl, Nat.le_of_ble_eq_true rfl⟩ ⟨by show 29 + 8 * K + 8 ≤ 600000; omega, by show 1069 + 117 * K + 117 ≤ 7302250; omega⟩ dL_law_329 (fun v w1 H locs hpost hP hD hS hHs => ?_)
  obtain ⟨rfl, w2, hw2, rfl⟩ := hpost
  have hP := vP_perm hP (pm_NTw _ _ _ _ _ _ _ _).symm
  have hD := vD_perm hD (pm_NTw _ _ _ _ _ _ _ _).symm
  refine x_al hC hl 1 dL_law_332 rfl rfl ?_
  refine x_arg hC hX hbl hbA hS hl ⟨by omega, by omega⟩ hL 1 (by decide) dL_law_333 dL_law_334 dL_law_335 dL_law_336 dL_law_337 ?_
  rw [e1]
  refine x_arg hC hX hbl hbA hS hl ⟨by omega, by omega⟩ hL 2 (by decide) dL_law_338 dL_law_339 dL_law_340 dL_law_341 dL_law_342 ?_
  rw [e2]
  have hPm := vP_perm hP (pm_M _ _ _ _ _ _ _ _)
  have hDm := vD_perm hD (pm_M _ _ _ _ _ _ _ _)
  refine x_vI (As := [.int (iI a1), .int (iI a2)]) hC (k5_set l D cs h F S Aa V X B a1 a2 hIM h4 g1 g2) lkL_44 (q0 := 0) (ci := 5) rfl rfl rfl (sub_of (subX List.perm_append_comm hPm hDm hS hA) _) hPm hS rfl hl.1 rfl (Nat.le_of_ble_eq_true rfl) ⟨rfl, rfl⟩ ⟨Nat.le_of_ble_eq_true rfl, Nat.le_of_ble_eq_true rfl⟩ ⟨by show 29 + 8 * K + 8 + 0 ≤ 600000; omega, by show 1069 + 117 * K + 117 + 0 ≤ 7302250; omega⟩ dL_law_343 (fun H locs hP hD hS hHs => ?_)
  refine lv_icmp_eq (tgt := 749) hC.1 hC.2.1 dL_law_346 (by decide) (fun _ => ?_) (fun hne => absurd (congrArg iI (s_set hR a1 a2).1) hne)
  exact law_tail hC next (by omega) (by omega) hl hP hD hS hw2 (by omega) (s_set hR a1 a2).2 (by omega)
theorem lkL_106 : LkV RL 106 yX4_play cX4_play 1 (some .int) 0 := ⟨tb_607, tb_604, tb_605, tb_606, tb_71, by decide +kernel⟩
theorem lkL_109 : LkV RL 109 yX5_play cX5_play 2 (some .int) 0 := ⟨tb_954, tb_951, tb_952, tb_953, tb_76, by decide +kernel⟩
set_option maxHeartbeats 4000000 in
set_option maxRecDepth 100000 in
theorem law_play {p : Program} {l : Launch} {e : Env} {s : State} {m : MethodId} {args : Array Value} {below : List Frame} {meth : Method} {c : Code} {Q : State → Prop} {D : va_G} {cs : Nat → ClassId} {A : Nat → Prop} (hC : Cx p s m args c cL_law 4 RL D cs) {b L : Nat} {xs : Nat → Int32} (hX : va_X b L xs s s.heap) (hbl : b < s.heap.size) (hbA : ¬ A b) (hA : ∀ q, s.heap.size ≤ q → A q) (hL : L ≤ 2560) {K : Nat} (hK : 5 * K + 4 < L) (next : ∀ (H : Heap) (locs : List Loc) (ls : Array Slot), Inv D cs A s.heap b (K + 1) H locs ls → W p l e room_1 s m args below meth c H locs (29 + 8 * (K + 1)) (1069 + 117 * (K + 1)) Q (F0 m 18 ls [])) {H : Heap} {locs : List Loc} {ls : Array Slot} (hI : Inv D cs A s.heap b K H locs ls) : W p l e room_1 s m args below meth c H locs (29 + 8 * K) (1069 + 117 * K) Q (F0 m 736 ls []) := by
  obtain ⟨ha, hn, ht, hh, hs, ho, hg, h, bn, bt, Q1, sG, oG, oN, g, F, S, Aa, V, X, B, w, ⟨hP, hD⟩, hS, hl, hw, hR⟩ := hI
  obtain ⟨nO, nG, nQ, nE, nZ, nP, nR, nC, nT⟩ := bn
  obtain ⟨tO, tG, tF, tE, tZ, tP, tR, tC, tT⟩ := bt
  have hb : rB S nO nG nQ nE nZ nP nR nC nT := hR.1.1.1
  have hIM := hb.2.2.1.1
  have hIB := hb.2.2.1.2
  have h4 := RR_4 hR
  have h6 := hR.2.1
  have h6x : 0 ≤ F 6 ∧ F 6 ≤ 60 := by omega
  have hIX := hR.2.2.2
  have hIT : IT g := hR.2.2.1 ▸ hIX
  have hKK : K ≤ 511 := by omega
  refine x_al hC hl 2 dL_law_736 rfl rfl ?_
  refine x_vX (As := []) hC (k4_play l D cs ha hn ht hs ho hg hh nO nG nQ nE nZ nP nR nC nT tO tG tF tE tZ tP tR tC tT sG oG oN g Q1 (K : Int) w hw (by omega) hIB hIT h6.2) lkL_106 (q0 := 0) (ci := 4) rfl rfl rfl (subX (pm_Cw _ _ _ _ _ _ _ _) hP hD hS hA) hP hS rfl hl.1 rfl (Nat.le_of_ble_eq_true rfl) ⟨rfl, rfl⟩ ⟨Nat.le_of_ble_eq_true rfl, Nat.le_of_ble_eq_true rfl⟩ ⟨by show 29 + 8 * K + 8 ≤ 600000; omega, by show 1069 + 117 * K + 117 ≤ 7302250; omega⟩ dL_law_737 (fun v w1 H locs hpost hP hD hS hHs => ?_)
  obtain ⟨rfl, w2, hw2, rfl⟩ := hpost
  have hP := vP_perm hP (pm_Cv _ _ _ _ _ _ _ _).symm
  have hD := vD_perm hD (pm_Cv _ _ _ _ _ _ _ _).symm
  refine x_al hC hl 1 dL_law_740 rfl rfl ?_
  have hPm := vP_perm hP (pm_M _ _ _ _ _ _ _ _)
  have hDm := vD_perm hD (pm_M _ _ _ _ _ _ _ _)
  refine x_vI (As := []) hC (k5_play l D cs h F S Aa V X B hIM h4 hIX h6x) lkL_109 (q0 := 0) (ci := 5) rfl rfl rfl (sub_of (subX List.perm_append_comm hPm hDm hS hA) _) hPm hS rfl hl.1 rfl (Nat.le_of_ble_eq_true rfl) ⟨rfl, rfl⟩ ⟨Nat.le_of_ble_eq_true rfl, Nat.le_of_ble_eq_true rfl⟩ ⟨by show 29 + 8 * K + 8 + 0 ≤ 600000; omega, by show 1069 + 117 * K + 117 + 0 ≤ 7302250; omega⟩ dL_law_741 (fun H locs hP hD hS hHs => ?_)
  refine lv_icmp_eq (tgt := 749) hC.1 hC.2.1 dL_law_744 (by decide) (fun _ => ?_) (fun hne => absurd (congrArg iI (s_play hR).1) hne)
  exact law_tail hC next (by omega) (by omega) hl hP hD hS hw2 (by omega) (s_play hR).2 (by omega)
