theorem lkL_13 : LkV RL 13 yX4_talk cX4_talk 4 (some .int) 3 := ⟨tb_217, tb_214, tb_215, tb_216, tb_71, by decide +kernel⟩
theorem lkL_17 : LkV RL 17 yX5_talk cX5_talk 5 (some .int) 3 := ⟨tb_675, tb_672, tb_673, tb_674, tb_76, by decide +kernel⟩
set_option maxHeartbeats 4000000 in
set_option maxRecDepth 100000 in
theorem law_talk {p : Program} {l : Launch} {e : Env} {s : State} {m : MethodId} {args : Array Value} {below : List Frame} {meth : Method} {c : Code} {Q : State → Prop} {D : va_G} {cs : Nat → ClassId} {A : Nat → Prop} (hC : Cx p s m args c cL_law 4 RL D cs) {b L : Nat} {xs : Nat → Int32} (hX : va_X b L xs s s.heap) (hbl : b < s.heap.size) (hbA : ¬ A b) (hA : ∀ q, s.heap.size ≤ q → A q) (hL : L ≤ 2560) {K : Nat} (hK : 5 * K + 4 < L) (next : ∀ (H : Heap) (locs : List Loc) (ls : Array Slot), Inv D cs A s.heap b (K + 1) H locs ls → W p l e room_1 s m args below meth c H locs (29 + 8 * (K + 1)) (1069 + 117 * (K + 1)) Q (F0 m 18 ls [])) {H : Heap} {locs : List Loc} {ls : Array Slot} (hI : Inv D cs A s.heap b K H locs ls) : W p l e room_1 s m args below meth c H locs (29 + 8 * K) (1069 + 117 * K) Q (F0 m 140 ls []) := by
  obtain ⟨ha, hn, ht, hh, hs, ho, hg, h, bn, bt, Q1, sG, oG, oN, g, F, S, Aa, V, X, B, w, ⟨hP, hD⟩, hS, hl, hw, hR⟩ := hI
  obtain ⟨nO, nG, nQ, nE, nZ, nP, nR, nC, nT⟩ := bn
  obtain ⟨tO, tG, tF, tE, tZ, tP, tR, tC, tT⟩ := bt
  have hb : rB S nO nG nQ nE nZ nP nR nC nT := hR.1.1.1
  have hIM := hb.2.2.1.1
  have hIB := hb.2.2.1.2
  have h4 := RR_4 hR
  have h6 := hR.2.1
  have h6x : 0 ≤ F 6 ∧ F 6 ≤ 60 := by omega
  have hIX := hR.2.2.2
  have hIT : IT g := hR.2.2.1 ▸ hIX
  have hKK : K ≤ 511 := by omega
  obtain ⟨a1, e1⟩ : ∃ y : Int, xv xs (5 * (K : Int) + 1) = y := ⟨_, rfl⟩
  have g1 : -2147483648 ≤ a1 ∧ a1 ≤ 2147483647 := e1 ▸ xv_rg xs (5 * (K : Int) + 1)
  obtain ⟨a2, e2⟩ : ∃ y : Int, xv xs (5 * (K : Int) + 2) = y := ⟨_, rfl⟩
  have g2 : -2147483648 ≤ a2 ∧ a2 ≤ 2147483647 := e2 ▸ xv_rg xs (5 * (K : Int) + 2)
  obtain ⟨a3, e3⟩ : ∃ y : Int, xv xs (5 * (K : Int) + 3) = y := ⟨_, rfl⟩
  have g3 : -2147483648 ≤ a3 ∧ a3 ≤ 2147483647 := e3 ▸ xv_rg xs (5 * (K : Int) + 3)
  refine x_al hC hl 2 dL_law_140 rfl rfl ?_
  refine x_arg hC hX hbl hbA hS hl ⟨by omega, by omega⟩ hL 1 (by decide) dL_law_141 dL_law_142 dL_law_143 dL_law_144 dL_law_145 ?_
  rw [e1]
  refine x_arg hC hX hbl hbA hS hl ⟨by omega, by omega⟩ hL 2 (by decide) dL_law_146 dL_law_147 dL_law_148 dL_law_149 dL_law_150 ?_
  rw [e2]
  refine x_arg hC hX hbl hbA hS hl ⟨by omega, by omega⟩ hL 3 (by decide) dL_law_151 dL_law_152 dL_law_153 dL_law_154 dL_law_155 ?_
  rw [e3]
  refine x_vX (As := [.int (iI a1), .int (iI a2), .int (iI a3)]) hC (k4_talk l D cs ha hn ht hh hs nO nG nQ nE nZ nP nR nC nT tO tG tF tE tZ tP tR tC tT a1 a2 a3 Q1 (K : Int) w hw (by omega) hIB g1 g2 g3) lkL_13 (q0 := 0) (ci := 4) rfl rfl rfl (subX (pm_NTw _ _ _ _ _ _ _ _) hP hD hS hA) hP hS rfl hl.1 rfl (Nat.le_of_ble_eq_true rfl) ⟨rfl, rfl⟩ ⟨Nat.le_of_ble_eq_true rfl, Nat.le_of_ble_eq_true rfl⟩ ⟨by show 29 + 8 * K + 8 ≤ 600000; omega, by show 1069 + 117 * K + 117 ≤ 7302250; omega⟩ dL_law_156 (fun v w1 H locs hpost hP hD hS hHs => ?_)
  obtain ⟨rfl, w2, hw2, rfl⟩ := hpost
  have hP := vP_perm hP (pm_NTw _ _ _ _ _ _ _ _).symm
  have hD := vD_perm hD (pm_NTw _ _ _ _ _ _ _ _).symm
  refine x_al hC hl 1 dL_law_159 rfl rfl ?_
  refine x_arg hC hX hbl hbA hS hl ⟨by omega, by omega⟩ hL 1 (by decide) dL_law_160 dL_law_161 dL_law_162 dL_law_163 dL_law_164 ?_
  rw [e1]
  refine x_arg hC hX hbl hbA hS hl ⟨by omega, by omega⟩ hL 2 (by decide) dL_law_165 dL_law_166 dL_law_167 dL_law_168 dL_law_169 ?_
  rw [e2]
  refine x_arg hC hX hbl hbA hS hl ⟨by omega, by omega⟩ hL 3 (by decide) dL_law_170 dL_law_171 dL_law_172 dL_law_173 dL_law_174 ?_
  rw [e3]
  have hPm := vP_perm hP (pm_M _ _ _ _ _ _ _ _)
  have hDm := vD_perm hD (pm_M _ _ _ _ _ _ _ _)
  refine x_vI (As := [.int (iI a1), .int (iI a2), .int (iI a3)]) hC (k5_talk l D cs h F S Aa V X B a1 a2 a3 hIM h4 g1 g2 g3) lkL_17 (q0 := 0) (ci := 5) rfl rfl rfl (sub_of (subX List.perm_append_comm hPm hDm hS hA) _) hPm hS rfl hl.1 rfl (Nat.le_of_ble_eq_true rfl) ⟨rfl, rfl⟩ ⟨Nat.le_of_ble_eq_true rfl, Nat.le_of_ble_eq_true rfl⟩ ⟨by show 29 + 8 * K + 8 + 0 ≤ 600000; omega, by show 1069 + 117 * K + 117 + 0 ≤ 7302250; omega⟩ dL_law_175 (fun H locs hP hD hS hHs => ?_)
  refine lv_icmp_eq (tgt := 749) hC.1 hC.2.1 dL_law_178 (by decide) (fun _ => ?_) (fun hne => absurd (congrArg iI (s_talk hR a1 a2 a3).1) hne)
  exact law_tail hC next (by omega) (by omega) hl hP hD hS hw2 (by omega) (s_talk hR a1 a2 a3).2 (by omega)
theorem lkL_18 : LkV RL 18 yX4_withdraw cX4_withdraw 2 (some .int) 1 := ⟨tb_297, tb_294, tb_295, tb_296, tb_71, by decide +kernel⟩
theorem lkL_22 : LkV RL 22 yX5_withdraw cX5_withdraw 2 (some .int) 1 := ⟨tb_737, tb_734, tb_735, tb_736, tb_76, by decide +kernel⟩
set_option maxHeartbeats 4000000 in
set_option maxRecDepth 100000 in
theorem law_withdraw {p : Program} {l : Launch} {e : Env} {s : State} {m : MethodId} {args : Array Value} {below : List Frame} {meth : Method} {c : Code} {Q : State → Prop} {D : va_G} {cs : Nat → ClassId} {A : Nat → Prop} (hC : Cx p s m args c cL_law 4 RL D cs) {b L : Nat} {xs : Nat → Int32} (hX : va_X b L xs s s.heap) (hbl : b < s.heap.size) (hbA : ¬ A b) (hA : ∀ q, s.heap.size ≤ q → A q) (hL : L ≤ 2560) {K : Nat} (hK : 5 * K + 4 < L) (next : ∀ (H : Heap) (locs : List Loc) (ls : Array Slot), Inv D cs A s.heap b (K + 1) H locs ls → W p l e room_1 s m args below meth c H locs (29 + 8 * (K + 1)) (1069 + 117 * (K + 1)) Q (F0 m 18 ls [])) {H : Heap} {locs : List Loc} {ls : Array Slot} (hI : Inv D cs A s.heap b K H locs ls) : W p l e room_1 s m args below meth c H locs (29 + 8 * K) (1069 + 117 * K) Q (F0 m 183 ls []) := by
  obtain ⟨ha, hn, ht, hh, hs, ho, hg, h, bn, bt, Q1, sG, oG, oN, g, F, S, Aa, V, X, B, w, ⟨hP, hD⟩, hS, hl, hw, hR⟩ := hI
  obtain ⟨nO, nG, nQ, nE, nZ, nP, nR, nC, nT⟩ := bn
  obtain ⟨tO, tG, tF, tE, tZ, tP, tR, tC, tT⟩ := bt
  have hb : rB S nO nG nQ nE nZ nP nR nC nT := hR.1.1.1
  have hIM := hb.2.2.1.1
  have hIB := hb.2.2.1.2
  have h4 := RR_4 hR
  have h6 := hR.2.1
  have h6x : 0 ≤ F 6 ∧ F 6 ≤ 60 := by omega
  have hIX := hR.2.2.2
  have hIT : IT g := hR.2.2.1 ▸ hIX
  have hKK : K ≤ 511 := by omega
  obtain ⟨a1, e1⟩ : ∃ y : Int, xv xs (5 * (K : Int) + 1) = y := ⟨_, rfl⟩
  have g1 : -2147483648 ≤ a1 ∧ a1 ≤ 2147483647 := e1 ▸ xv_rg xs (5 * (K : Int) + 1)
  refine x_al hC hl 2 dL_law_183 rfl rfl ?_
  refine x_arg hC hX hbl hbA hS hl ⟨by omega, by omega⟩ hL 1 (by decide) dL_law_184 dL_law_185 dL_law_186 dL_law_187 dL_law_188 ?_
  rw [e1]
  refine x_vX (As := [.int (iI a1)]) hC (k4_withdraw l D cs ha hn ht hh hs nO nG nQ nE nZ nP nR nC nT tO tG tF tE tZ tP tR tC tT a1 Q1 (K : Int) w hw (by omega) hIB g1) lkL_18 (q0 := 0) (ci := 4) rfl rfl rfl (subX (pm_NTw _ _ _ _ _ _ _ _) hP hD hS hA) hP hS rfl hl.1 rfl (Nat.le_of_ble_eq_true rfl) ⟨rfl, rfl⟩ ⟨Nat.le_of_ble_eq_true rfl, Nat.le_of_ble_eq_true rfl⟩ ⟨by show 29 + 8 * K + 8 ≤ 600000; omega, by show 1069 + 117 * K + 117 ≤ 7302250; omega⟩ dL_law_189 (fun v w1 H locs hpost hP hD hS hHs => ?_)
  obtain ⟨rfl, w2, hw2, rfl⟩ := hpost
  have hP := vP_perm hP (pm_NTw _ _ _ _ _ _ _ _).symm
  have hD := vD_perm hD (pm_NTw _ _ _ _ _ _ _ _).symm
  refine x_al hC hl 1 dL_law_192 rfl rfl ?_
  refine x_arg hC hX hbl hbA hS hl ⟨by omega, by omega⟩ hL 1 (by decide) dL_law_193 dL_law_194 dL_law_195 dL_law_196 dL_law_197 ?_
  rw [e1]
  have hPm := vP_perm hP (pm_M _ _ _ _ _ _ _ _)
  have hDm := vD_perm hD (pm_M _ _ _ _ _ _ _ _)
  refine x_vI (As := [.int (iI a1)]) hC (k5_withdraw l D cs h F S Aa V X B a1 hIM h4 g1) lkL_22 (q0 := 0) (ci := 5) rfl rfl rfl (sub_of (subX List.perm_append_comm hPm hDm hS hA) _) hPm hS rfl hl.1 rfl (Nat.le_of_ble_eq_true rfl) ⟨rfl, rfl⟩ ⟨Nat.le_of_ble_eq_true rfl, Nat.le_of_ble_eq_true rfl⟩ ⟨by show 29 + 8 * K + 8 + 0 ≤ 600000; omega, by show 1069 + 117 * K + 117 + 0 ≤ 7302250; omega⟩ dL_law_198 (fun H locs hP hD hS hHs => ?_)
  refine lv_icmp_eq (tgt := 749) hC.1 hC.2.1 dL_law_201 (by decide) (fun _ => ?_) (fun hne => absurd (congrArg iI (s_withdraw hR a1).1) hne)
  exact law_tail hC next (by omega) (by omega) hl hP hD hS hw2 (by omega) (s_withdraw hR a1).2 (by omega)
theorem lkL_23 : LkV RL 23 yX4_move cX4_move 3 (some .int) 2 := ⟨tb_314, tb_311, tb_312, tb_313, tb_71, by decide +kernel⟩
theorem lkL_27 : LkV RL 27 yX5_move cX5_move 4 (some .int) 2 := ⟨tb_749, tb_746, tb_747, tb_748, tb_76, by decide +kernel⟩
set_option maxHeartbeats 4000000 in
set_option maxRecDepth 100000 in
theorem law_move {p : Program} {l : Launch} {e : Env} {s : State} {m : MethodId} {args : Array Value} {below : List Frame} {meth : Method} {c : Code} {Q : State → Prop} {D : va_G} {cs : Nat → ClassId} {A : Nat → Prop} (hC : Cx p s m args c cL_law 4 RL D cs) {b L : Nat} {xs : Nat → Int32} (hX : va_X b L xs s s.heap) (hbl : b < s.heap.size) (hbA : ¬ A b) (hA : ∀ q, s.heap.size ≤ q → A q) (hL : L ≤ 2560) {K : Nat} (hK : 5 * K + 4 < L) (next : ∀ (H : Heap) (locs : List Loc) (ls : Array Slot), Inv D cs A s.heap b (K + 1) H locs ls → W p l e room_1 s m args below meth c H locs (29 + 8 * (K + 1)) (1069 + 117 * (K + 1)) Q (F0 m 18 ls [])) {H : Heap} {locs : List Loc} {ls : Array Slot} (hI : Inv D cs A s.heap b K H locs ls) : W p l e room_1 s m args below meth c H locs (29 + 8 * K) (1069 + 117 * K) Q (F0 m 206 ls []) := by
  obtain ⟨ha, hn, ht, hh, hs, ho, hg, h, bn, bt, Q1, sG, oG, oN, g, F, S, Aa, V, X, B, w, ⟨hP, hD⟩, hS, hl, hw, hR⟩ := hI
  obtain ⟨nO, nG, nQ, nE, nZ, nP, nR, nC, nT⟩ := bn
  obtain ⟨tO, tG, tF, tE, tZ, tP, tR, tC, tT⟩ := bt
  have hb : rB S nO nG nQ nE nZ nP nR nC nT := hR.1.1.1
  have hIM := hb.2.2.1.1
  have hIB := hb.2.2.1.2
  have h4 := RR_4 hR
  have h6 := hR.2.1
  have h6x : 0 ≤ F 6 ∧ F 6 ≤ 60 := by omega
  have hIX := hR.2.2.2
  have hIT : IT g := hR.2.2.1 ▸ hIX
  have hKK : K ≤ 511 := by omega
  obtain ⟨a1, e1⟩ : ∃ y : Int, xv xs (5 * (K : Int) + 1) = y := ⟨_, rfl⟩
  have g1 : -2147483648 ≤ a1 ∧ a1 ≤ 2147483647 := e1 ▸ xv_rg xs (5 * (K : Int) + 1)
  obtain ⟨a2, e2⟩ : ∃ y : Int, xv xs (5 * (K : Int) + 2) = y := ⟨_, rfl⟩
  have g2 : -2147483648 ≤ a2 ∧ a2 ≤ 2147483647 := e2 ▸ xv_rg xs (5 * (K : Int) + 2)
  refine x_al hC hl 2 dL_law_206 rfl rfl ?_
  refine x_arg hC hX hbl hbA hS hl ⟨by omega, by omega⟩ hL 1 (by decide) dL_law_207 dL_law_208 dL_law_209 dL_law_210 dL_law_211 ?_
  rw [e1]
  refine x_arg hC hX hbl hbA hS hl ⟨by omega, by omega⟩ hL 2 (by decide) dL_law_212 dL_law_213 dL_law_214 dL_law_215 dL_law_216 ?_
  rw [e2]
  refine x_vX (As := [.int (iI a1), .int (iI a2)]) hC (k4_move l D cs ha hn ht hh hs nO nG nQ nE nZ nP nR nC nT tO tG tF tE tZ tP tR tC tT a1 a2 Q1 (K : Int) w hw (by omega) hIB g1 g2) lkL_23 (q0 := 0) (ci := 4) rfl rfl rfl (subX (pm_NTw _ _ _ _ _ _ _ _) hP hD hS hA) hP hS rfl hl.1 rfl (Nat.le_of_ble_eq_true rfl) ⟨rfl, rfl⟩ ⟨Nat.le_of_ble_eq_true rfl, Nat.le_of_ble_eq_true rfl⟩ ⟨by show 29 + 8 * K + 8 ≤ 600000; omega, by show 1069 + 117 * K + 117 ≤ 7302250; omega⟩ dL_law_217 (fun v w1 H locs hpost hP hD hS hHs => ?_)
  obtain ⟨rfl, w2, hw2, rfl⟩ := hpost
  have hP := vP_perm hP (pm_NTw _ _ _ _ _ _ _ _).symm
  have hD := vD_perm hD (pm_NTw _ _ _ _ _ _ _ _).symm
  refine x_al hC hl 1 dL_law_220 rfl rfl ?_
  refine x_arg hC hX hbl hbA hS hl ⟨by omega, by omega⟩ hL 1 (by decide) dL_law_221 dL_law_222 dL_law_223 dL_law_224 dL_law_225 ?_
  rw [e1]
  refine x_arg hC hX hbl hbA hS hl ⟨by omega, by omega⟩ hL 2 (by decide) dL_law_226 dL_law_227 dL_law_228 dL_law_229 dL_law_230 ?_
  rw [e2]
  have hPm := vP_perm hP (pm_M _ _ _ _ _ _ _ _)
  have hDm := vD_perm hD (pm_M _ _ _ _ _ _ _ _)
  refine x_vI (As := [.int (iI a1), .int (iI a2)]) hC (k5_move l D cs h F S Aa V X B a1 a2 hIM h4 g1 g2) lkL_27 (q0 := 0) (ci := 5) rfl rfl rfl (sub_of (subX List.perm_append_comm hPm hDm hS hA) _) hPm hS rfl hl.1 rfl (Nat.le_of_ble_eq_true rfl) ⟨rfl, rfl⟩ ⟨Nat.le_of_ble_eq_true rfl, Nat.le_of_ble_eq_true rfl⟩ ⟨by show 29 + 8 * K + 8 + 0 ≤ 600000; omega, by show 1069 + 117 * K + 117 + 0 ≤ 7302250; omega⟩ dL_law_231 (fun H locs hP hD hS hHs => ?_)
  refine lv_icmp_eq (tgt := 749) hC.1 hC.2.1 dL_law_234 (by decide) (fun _ => ?_) (fun hne => absurd (congrArg iI (s_move hR a1 a2).1) hne)
  exact law_tail hC next (by omega) (by omega) hl hP hD hS hw2 (by omega) (s_move hR a1 a2).2 (by omega)
theorem lkL_28 : LkV RL 28 yX4_room cX4_room 4 (some .int) 3 := ⟨tb_326, tb_323, tb_324, tb_325, tb_71, by decide +kernel⟩
theorem lkL_31 : LkV RL 31 yX5_room cX5_room 5 (some .int) 3 := ⟨tb_760, tb_757, tb_758, tb_759, tb_76, by decide +kernel⟩
set_option maxHeartbeats 4000000 in
set_option maxRecDepth 100000 in
theorem law_room {p : Program} {l : Launch} {e : Env} {s : State} {m : MethodId} {args : Array Value} {below : List Frame} {meth : Method} {c : Code} {Q : State → Prop} {D : va_G} {cs : Nat → ClassId} {A : Nat → Prop} (hC : Cx p s m args c cL_law 4 RL D cs) {b L : Nat} {xs : Nat → Int32} (hX : va_X b L xs s s.heap) (hbl : b < s.heap.size) (hbA : ¬ A b) (hA : ∀ q, s.heap.size ≤ q → A q) (hL : L ≤ 2560) {K : Nat} (hK : 5 * K + 4 < L) (next : ∀ (H : Heap) (locs : List Loc) (ls : Array Slot), Inv D cs A s.heap b (K + 1) H locs ls → W p l e room_1 s m args below meth c H locs (29 + 8 * (K + 1)) (1069 + 117 * (K + 1)) Q (F0 m 18 ls [])) {H : Heap} {locs : List Loc} {ls : Array Slot} (hI : Inv D cs A s.heap b K H locs ls) : W p l e room_1 s m args below meth c H locs (29 + 8 * K) (1069 + 117 * K) Q (F0 m 239 ls []) := by
  obtain ⟨ha, hn, ht, hh, hs, ho, hg, h, bn, bt, Q1, sG, oG, oN, g, F, S, Aa, V, X, B, w, ⟨hP, hD⟩, hS, hl, hw, hR⟩ := hI
  obtain ⟨nO, nG, nQ, nE, nZ, nP, nR, nC, nT⟩ := bn
  obtain ⟨tO, tG, tF, tE, tZ, tP, tR, tC, tT⟩ := bt
  have hb : rB S nO nG nQ nE nZ nP nR nC nT := hR.1.1.1
  have hIM := hb.2.2.1.1
  have hIB := hb.2.2.1.2
  have h4 := RR_4 hR
  have h6 := hR.2.1
  have h6x : 0 ≤ F 6 ∧ F 6 ≤ 60 := by omega
  have hIX := hR.2.2.2
  have hIT : IT g := hR.2.2.1 ▸ hIX
  have hKK : K ≤ 511 := by omega
  obtain ⟨a1, e1⟩ : ∃ y : Int, xv xs (5 * (K : Int) + 1) = y := ⟨_, rfl⟩
  have g1 : -2147483648 ≤ a1 ∧ a1 ≤ 2147483647 := e1 ▸ xv_rg xs (5 * (K : Int) + 1)
  obtain ⟨a2, e2⟩ : ∃ y : Int, xv xs (5 * (K : Int) + 2) = y := ⟨_, rfl⟩
  have g2 : -2147483648 ≤ a2 ∧ a2 ≤ 2147483647 := e2 ▸ xv_rg xs (5 * (K : Int) + 2)
  obtain ⟨a3, e3⟩ : ∃ y : Int, xv xs (5 * (K : Int) + 3) = y := ⟨_, rfl⟩
  have g3 : -2147483648 ≤ a3 ∧ a3 ≤ 2147483647 := e3 ▸ xv_rg xs (5 * (K : Int) + 3)
  refine x_al hC hl 2 dL_law_239 rfl rfl ?_
  refine x_arg hC hX hbl hbA hS hl ⟨by omega, by omega⟩ hL 1 (by decide) dL_law_240 dL_law_241 dL_law_242 dL_law_243 dL_law_244 ?_
  rw [e1]
  refine x_arg hC hX hbl hbA hS hl ⟨by omega, by omega⟩ hL 2 (by decide) dL_law_245 dL_law_246 dL_law_247 dL_law_248 dL_law_249 ?_
  rw [e2]
  refine x_arg hC hX hbl hbA hS hl ⟨by omega, by omega⟩ hL 3 (by decide) dL_law_250 dL_law_251 dL_law_252 dL_law_253 dL_law_254 ?_
  rw [e3]
  refine x_vX (As := [.int (iI a1), .int (iI a2), .int (iI a3)]) hC (k4_room l D cs ha hn ht hh hs nO nG nQ nE nZ nP nR nC nT tO tG tF tE tZ tP tR tC tT a1 a2 a3 Q1 (K : Int) w hw (by omega) hIB g1 g2 g3) lkL_28 (q0 := 0) (ci := 4) rfl rfl rfl (subX (pm_NTw _ _ _ _ _ _ _ _) hP hD hS hA) hP hS rfl hl.1 rfl (Nat.le_of_ble_eq_true rfl) ⟨rfl, rfl⟩ ⟨Nat.le_of_ble_eq_true rfl, Nat.le_of_ble_eq_true rfl⟩ ⟨by show 29 + 8 * K + 8 ≤ 600000; omega, by show 1069 + 117 * K + 117 ≤ 7302250; omega⟩ dL_law_255 (fun v w1 H locs hpost hP hD hS hHs => ?_)
  obtain ⟨rfl, w2, hw2, rfl⟩ := hpost
  have hP := vP_perm hP (pm_NTw _ _ _ _ _ _ _ _).symm
  have hD := vD_perm hD (pm_NTw _ _ _ _ _ _ _ _).symm
  refine x_al hC hl 1 dL_law_258 rfl rfl ?_
  refine x_arg hC hX hbl hbA hS hl ⟨by omega, by omega⟩ hL 1 (by decide) dL_law_259 dL_law_260 dL_law_261 dL_law_262 dL_law_263 ?_
  rw [e1]
  refine x_arg hC hX hbl hbA hS hl ⟨by omega, by omega⟩ hL 2 (by decide) dL_law_264 dL_law_265 dL_law_266 dL_law_267 dL_law_268 ?_
  rw [e2]
  refine x_arg hC hX hbl hbA hS hl ⟨by omega, by omega⟩ hL 3 (by decide) dL_law_269 dL_law_270 dL_law_271 dL_law_272 dL_law_273 ?_
  rw [e3]
  have hPm := vP_perm hP (pm_M _ _ _ _ _ _ _ _)
  have hDm := vD_perm hD (pm_M _ _ _ _ _ _ _ _)
  refine x_vI (As := [.int (iI a1), .int (iI a2), .int (iI a3)]) hC (k5_room l D cs h F S Aa V X B a1 a2 a3 hIM h4 g1 g2 g3) lkL_31 (q0 := 0) (ci := 5) rfl rfl rfl (sub_of (subX List.perm_append_comm hPm hDm hS hA) _) hPm hS rfl hl.1 rfl (Nat.le_of_ble_eq_true rfl) ⟨rfl, rfl⟩ ⟨Nat.le_of_ble_eq_true rfl, Nat.le_of_ble_eq_true rfl⟩ ⟨by show 29 + 8 * K + 8 + 0 ≤ 600000; omega, by show 1069 + 117 * K + 117 + 0 ≤ 7302250; omega⟩ dL_law_274 (fun H locs hP hD hS hHs => ?_)
  refine lv_icmp_eq (tgt := 749) hC.1 hC.2.1 dL_law_277 (by decide) (fun _ => ?_) (fun hne => absurd (congrArg iI (s_room hR a1 a2 a3).1) hne)
  exact law_tail hC next (by omega) (by omega) hl hP hD hS hw2 (by omega) (s_room hR a1 a2 a3).2 (by omega)
