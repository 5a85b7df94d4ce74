/-! bitCount -/
section X9
variable {p : Program} {l : Launch} {e : Env} {R : Room} {s : State} {m : MethodId} {args : Array Value} {below : List Frame} {meth : Method} {c : Code} {H H0 : Heap} {locs : List Loc} {cells slots : Nat} {Q : State → Prop} {A : Nat → Prop} {pc : Nat} {ls : Array Slot} {rest : List Value} {cc : ByteArray} {nL : Nat} {own : String} {D : va_G} {cs : Nat → ClassId} {ws : va_W} {a : Nat}
theorem x_iaddW (hC : Cx p s m args c cc nL own D cs) {x y : Int32} (d : decode cc pc = .ok (.iadd, 1)) (v : Int32) (hv : x + y = v) (kk : W p l e R s m args below meth c H locs cells slots Q (F0 m (pc + 1) ls (.int v :: rest))) : W p l e R s m args below meth c H locs cells slots Q (F0 m pc ls (.int y :: .int x :: rest)) := lv_iadd hC.1 hC.2.1 d (by rw [hv]; exact kk)
theorem x_isubW (hC : Cx p s m args c cc nL own D cs) {x y : Int32} (d : decode cc pc = .ok (.isub, 1)) (v : Int32) (hv : x - y = v) (kk : W p l e R s m args below meth c H locs cells slots Q (F0 m (pc + 1) ls (.int v :: rest))) : W p l e R s m args below meth c H locs cells slots Q (F0 m pc ls (.int y :: .int x :: rest)) := lv_isub hC.1 hC.2.1 d (by rw [hv]; exact kk)
theorem x_iushr (hC : Cx p s m args c cc nL own D cs) {x y : Int32} (d : decode cc pc = .ok (.iushr, 1)) (v : Int32) (hv : (x.toUInt32 >>> (y.toUInt32 &&& Int32.toUInt32 31)).toInt32 = v) (kk : W p l e R s m args below meth c H locs cells slots Q (F0 m (pc + 1) ls (.int v :: rest))) : W p l e R s m args below meth c H locs cells slots Q (F0 m pc ls (.int y :: .int x :: rest)) := lv_iushr hC.1 hC.2.1 d hv kk
theorem x_lushr (hC : Cx p s m args c cc nL own D cs) {x : Int64} {y : Int32} (d : decode cc pc = .ok (.lushr, 1)) (v : Int64) (hv : (x.toUInt64 >>> (y.toInt64.toUInt64 &&& Int64.toUInt64 63)).toInt64 = v) (kk : W p l e R s m args below meth c H locs cells slots Q (F0 m (pc + 1) ls (.long v :: rest))) : W p l e R s m args below meth c H locs cells slots Q (F0 m pc ls (.int y :: .long x :: rest)) := lv_lushr hC.1 hC.2.1 d hv kk
theorem x_ladd (hC : Cx p s m args c cc nL own D cs) {x y : Int64} (d : decode cc pc = .ok (.ladd, 1)) (v : Int64) (hv : x + y = v) (kk : W p l e R s m args below meth c H locs cells slots Q (F0 m (pc + 1) ls (.long v :: rest))) : W p l e R s m args below meth c H locs cells slots Q (F0 m pc ls (.long y :: .long x :: rest)) := lv_ladd hC.1 hC.2.1 d (by rw [hv]; exact kk)
theorem x_l2i (hC : Cx p s m args c cc nL own D cs) {x : Int64} (d : decode cc pc = .ok (.l2i, 1)) (v : Int32) (hv : x.toInt32 = v) (kk : W p l e R s m args below meth c H locs cells slots Q (F0 m (pc + 1) ls (.int v :: rest))) : W p l e R s m args below meth c H locs cells slots Q (F0 m pc ls (.long x :: rest)) := lv_l2i hC.1 hC.2.1 d hv kk
theorem x_ldcw (hC : Cx p s m args c cc nL own D cs) (z : Int) {idx : Nat} {v : Int32} (hw : Cond.constant own idx v ∈ lw_tbl) (hv : v = iI z) (d : decode cc pc = .ok (.ldc_w idx, 3)) (kk : W p l e R s m args below meth c H locs cells slots Q (F0 m (pc + 3) ls (.int (iI z) :: rest))) : W p l e R s m args below meth c H locs cells slots Q (F0 m pc ls rest) := by
  subst hv
  exact lv_ldcw hC.1 hC.2.1 hC.2.2.2.1 (x_w hC hw rfl) d kk
end X9
theorem nI_subN {a b : Nat} (h : b ≤ a) : nI a - nI b = nI (a - b) := by
  have e : nI (a - b) + nI b = nI a := by rw [nI_add, Nat.sub_add_cancel h]
  rw [← e, Int32.add_sub_cancel]
theorem and_lt (a K : Nat) : a &&& K ≤ K := Nat.and_le_right
theorem g1_le (K n : Nat) : g1 K n ≤ n := Nat.sub_le _ _
theorem g2_le (K n : Nat) : g2 K n ≤ 2 * K := by
  have h1 := and_lt n K
  have h2 := and_lt (n / 4) K
  unfold g2
  omega
theorem g3_le (K n : Nat) : g3 K n ≤ K := and_lt _ _
theorem g1_0 (K : Nat) : g1 K 0 = 0 := by unfold g1; simp
theorem g2_0 (K : Nat) : g2 K 0 = 0 := by unfold g2; simp
theorem g3_0 (K : Nat) : g3 K 0 = 0 := by unfold g3; simp
/-- a byte more -/
theorem gg_s (a m K1 K2 K3 : Nat) (ha : a < 256) (hm : g2 K2 (g1 K1 m) % 16 ≤ 4) : g3 (15 + 256 * K3) (g2 (51 + 256 * K2) (g1 (85 + 256 * K1) (a + 256 * m))) = pcB a + 256 * g3 K3 (g2 K2 (g1 K1 m)) ∧ g2 (51 + 256 * K2) (g1 (85 + 256 * K1) (a + 256 * m)) % 16 ≤ 4 := by
  have h := gB a ha
  rw [g1_s _ _ _ ha, g2_s _ _ _ h.1.1]
  refine ⟨?_, ?_⟩
  · rw [g3_s _ _ _ h.1.2.1 hm, h.2.1]
  · have := h.1.2.2
    omega
theorem cntN_le (f : Nat → Bool) : ∀ n, cntN f n ≤ n
  | 0 => Nat.le_refl 0
  | n + 1 => by
    have := cntN_le f n
    unfold cntN; split <;> omega
theorem cntN_c {f g : Nat → Bool} : ∀ n, (∀ k, k < n → f k = g k) → cntN f n = cntN g n
  | 0, _ => rfl
  | n + 1, h => by
    unfold cntN
    rw [cntN_c n (fun k hk => h k (by omega)), h n (by omega)]
theorem cntN_a (f : Nat → Bool) (n : Nat) : ∀ k, cntN f (n + k) = cntN f n + cntN (fun j => f (n + j)) k
  | 0 => rfl
  | k + 1 => by
    show cntN f (n + k) + _ = cntN f n + (cntN (fun j => f (n + j)) k + _)
    rw [cntN_a f n k, Nat.add_assoc]
    rfl
theorem cntN_z (f : Nat → Bool) (n : Nat) (h : ∀ k, f k = false) : cntN f n = 0 := by
  induction n with
  | zero => rfl
  | succ n ih => unfold cntN; rw [ih, h n]; rfl
theorem cnt_by (a m n : Nat) (ha : a < 256) : cntN (fun k => (a + 256 * m).testBit k) (8 + n) = pcB a + cntN (fun k => m.testBit k) n := by
  rw [cntN_a]
  have e := fun i => Nat.testBit_two_pow_mul_add m (b := a) (i := 8) (by omega) i
  have e2 : 2 ^ 8 * m + a = a + 256 * m := by omega
  rw [e2] at e
  unfold pcB
  rw [cntN_c 8 (fun k hk => by rw [e k, if_pos hk]), cntN_c n (fun k hk => by rw [e (8 + k), if_neg (by omega), Nat.add_sub_cancel_left])]
theorem cnt_mk (f : Nat → Bool) {n N : Nat} (h : n ≤ N) : cntN (fun k => (mkN f n).testBit k) N = cntN f n := by
  obtain ⟨k, rfl⟩ := Nat.exists_eq_add_of_le h
  rw [cntN_a, cntN_c n (g := f) (fun k hk => by rw [mkN_bit]; simp [hk])]
  rw [cntN_z _ k (fun j => by rw [mkN_bit, decide_eq_false (by omega), Bool.false_and])]
  rfl
theorem pc32F (N : Nat) (hN : N < 2 ^ 32) : ((g3 252645135 (g2 858993459 (g1 1431655765 N)) + g3 252645135 (g2 858993459 (g1 1431655765 N)) / 2 ^ 8) + (g3 252645135 (g2 858993459 (g1 1431655765 N)) + g3 252645135 (g2 858993459 (g1 1431655765 N)) / 2 ^ 8) / 2 ^ 16) &&& 63 = cntN (fun k => N.testBit k) 32 := by
  obtain ⟨a, b, c, d, ha, hb, hc, hd, rfl⟩ : ∃ a b c d : Nat, a < 256 ∧ b < 256 ∧ c < 256 ∧ d < 256 ∧ N = a + 256 * (b + 256 * (c + 256 * (d + 256 * 0))) := ⟨N % 256, N / 256 % 256, N / 65536 % 256, N / 16777216, by omega, by omega, by omega, by omega, by omega⟩
  have h0 : g2 0 (g1 0 0) % 16 ≤ 4 := by rw [g1_0, g2_0]; omega
  have h1 := gg_s d 0 0 0 0 hd h0
  have h2 := gg_s c _ _ _ (15 + 256 * 0) hc h1.2
  have h3 := gg_s b _ _ _ (15 + 256 * (15 + 256 * 0)) hb h2.2
  have h4 := gg_s a _ _ _ (15 + 256 * (15 + 256 * (15 + 256 * 0))) ha h3.2
  rw [h3.1, h2.1, h1.1, g1_0, g2_0, g3_0] at h4
  have e : g3 252645135 (g2 858993459 (g1 1431655765 (a + 256 * (b + 256 * (c + 256 * (d + 256 * 0)))))) = pcB a + 256 * (pcB b + 256 * (pcB c + 256 * (pcB d + 256 * 0))) := h4.1
  have q1 := (gB a ha).2.2
  have q2 := (gB b hb).2.2
  have q3 := (gB c hc).2.2
  have q4 := (gB d hd).2.2
  have z : cntN (fun k => (a + 256 * (b + 256 * (c + 256 * (d + 256 * 0)))).testBit k) 32 = pcB a + (pcB b + (pcB c + pcB d)) := by
    rw [show (32 : Nat) = 8 + (8 + (8 + (8 + 0))) from rfl, cnt_by _ _ _ ha, cnt_by _ _ _ hb, cnt_by _ _ _ hc, cnt_by _ _ _ hd]
    rfl
  rw [e, z, show (63 : Nat) = 2 ^ 6 - 1 from rfl, Nat.and_two_pow_sub_one_eq_mod]
  generalize pcB a = a' at *
  generalize pcB b = b' at *
  generalize pcB c = c' at *
  generalize pcB d = d' at *
  clear e z h4 h3 h2 h1 h0
  have e4 : (a' + 256 * (b' + 256 * (c' + 256 * (d' + 256 * 0)))) / 2 ^ 8 = b' + 256 * (c' + 256 * d') := by omega
  rw [e4]
  have e5 : (a' + 256 * (b' + 256 * (c' + 256 * (d' + 256 * 0))) + (b' + 256 * (c' + 256 * d'))) / 2 ^ 16 = (c' + d') + 256 * d' := by omega
  rw [e5]
  omega
theorem pc48F (N : Nat) (hN : N < 2 ^ 48) : g3 1085102592571150095 (g2 3689348814741910323 (g1 6148914691236517205 N)) < 2 ^ 48 ∧ (((g3 1085102592571150095 (g2 3689348814741910323 (g1 6148914691236517205 N)) + g3 1085102592571150095 (g2 3689348814741910323 (g1 6148914691236517205 N)) / 2 ^ 8) + (g3 1085102592571150095 (g2 3689348814741910323 (g1 6148914691236517205 N)) + g3 1085102592571150095 (g2 3689348814741910323 (g1 6148914691236517205 N)) / 2 ^ 8) / 2 ^ 16) + ((g3 1085102592571150095 (g2 3689348814741910323 (g1 6148914691236517205 N)) + g3 1085102592571150095 (g2 3689348814741910323 (g1 6148914691236517205 N)) / 2 ^ 8) + (g3 1085102592571150095 (g2 3689348814741910323 (g1 6148914691236517205 N)) + g3 1085102592571150095 (g2 3689348814741910323 (g1 6148914691236517205 N)) / 2 ^ 8) / 2 ^ 16) / 2 ^ 32) &&& 127 = cntN (fun k => N.testBit k) 48 := by
  obtain ⟨a, b, c, d, f, g, ha, hb, hc, hd, hf, hg, rfl⟩ : ∃ a b c d f g : Nat, a < 256 ∧ b < 256 ∧ c < 256 ∧ d < 256 ∧ f < 256 ∧ g < 256 ∧ N = a + 256 * (b + 256 * (c + 256 * (d + 256 * (f + 256 * (g + 256 * 0))))) := ⟨N % 256, N / 256 % 256, N / 65536 % 256, N / 16777216 % 256, N / 4294967296 % 256, N / 1099511627776, by omega, by omega, by omega, by omega, by omega, by omega, by omega⟩
  have h0 : g2 (51 + 256 * 51) (g1 (85 + 256 * 85) 0) % 16 ≤ 4 := by rw [g1_0, g2_0]; omega
  have h1 := gg_s g 0 _ _ (15 + 256 * 15) hg h0
  have h2 := gg_s f _ _ _ (15 + 256 * (15 + 256 * 15)) hf h1.2
  have h3 := gg_s d _ _ _ (15 + 256 * (15 + 256 * (15 + 256 * 15))) hd h2.2
  have h4 := gg_s c _ _ _ (15 + 256 * (15 + 256 * (15 + 256 * (15 + 256 * 15)))) hc h3.2
  have h5 := gg_s b _ _ _ (15 + 256 * (15 + 256 * (15 + 256 * (15 + 256 * (15 + 256 * 15))))) hb h4.2
  have h6 := gg_s a _ _ _ (15 + 256 * (15 + 256 * (15 + 256 * (15 + 256 * (15 + 256 * (15 + 256 * 15)))))) ha h5.2
  rw [h5.1, h4.1, h3.1, h2.1, h1.1, g1_0, g2_0, g3_0] at h6
  have e : g3 1085102592571150095 (g2 3689348814741910323 (g1 6148914691236517205 (a + 256 * (b + 256 * (c + 256 * (d + 256 * (f + 256 * (g + 256 * 0)))))))) = pcB a + 256 * (pcB b + 256 * (pcB c + 256 * (pcB d + 256 * (pcB f + 256 * (pcB g + 256 * 0))))) := h6.1
  have q1 := (gB a ha).2.2
  have q2 := (gB b hb).2.2
  have q3 := (gB c hc).2.2
  have q4 := (gB d hd).2.2
  have q5 := (gB f hf).2.2
  have q6 := (gB g hg).2.2
  have z : cntN (fun k => (a + 256 * (b + 256 * (c + 256 * (d + 256 * (f + 256 * (g + 256 * 0)))))).testBit k) 48 = pcB a + (pcB b + (pcB c + (pcB d + (pcB f + pcB g)))) := by
    rw [show (48 : Nat) = 8 + (8 + (8 + (8 + (8 + (8 + 0))))) from rfl, cnt_by _ _ _ ha, cnt_by _ _ _ hb, cnt_by _ _ _ hc, cnt_by _ _ _ hd, cnt_by _ _ _ hf, cnt_by _ _ _ hg]
    rfl
  rw [e, z, show (127 : Nat) = 2 ^ 7 - 1 from rfl, Nat.and_two_pow_sub_one_eq_mod]
  generalize pcB a = a' at *
  generalize pcB b = b' at *
  generalize pcB c = c' at *
  generalize pcB d = d' at *
  generalize pcB f = f' at *
  generalize pcB g = g' at *
  clear e z h6 h5 h4 h3 h2 h1 h0
  refine ⟨by omega, ?_⟩
  have e4 : (a' + 256 * (b' + 256 * (c' + 256 * (d' + 256 * (f' + 256 * (g' + 256 * 0)))))) / 2 ^ 8 = b' + 256 * (c' + 256 * (d' + 256 * (f' + 256 * g'))) := by omega
  rw [e4]
  have e5 : (a' + 256 * (b' + 256 * (c' + 256 * (d' + 256 * (f' + 256 * (g' + 256 * 0))))) + (b' + 256 * (c' + 256 * (d' + 256 * (f' + 256 * g'))))) / 2 ^ 16 = (c' + d') + 256 * ((d' + f') + 256 * ((f' + g') + 256 * g')) := by omega
  rw [e5]
  have e6 : (a' + 256 * (b' + 256 * (c' + 256 * (d' + 256 * (f' + 256 * (g' + 256 * 0))))) + (b' + 256 * (c' + 256 * (d' + 256 * (f' + 256 * g')))) + ((c' + d') + 256 * ((d' + f') + 256 * ((f' + g') + 256 * g')))) / 2 ^ 32 = (f' + g') + 256 * g' := by omega
  rw [e6]
  omega
theorem iK1 : iI 1431655765 = nI 1431655765 := by decide
theorem iK2 : iI 858993459 = nI 858993459 := by decide
theorem iK3 : iI 252645135 = nI 252645135 := by decide
theorem iK4 : iI 63 = nI 63 := by decide
theorem iK5 : iI 127 = nI 127 := by decide
theorem lK1 : (6148914691236517205 : Int64) = lN 6148914691236517205 := by decide
theorem lK2 : (3689348814741910323 : Int64) = lN 3689348814741910323 := by decide
theorem lK3 : (1085102592571150095 : Int64) = lN 1085102592571150095 := by decide
theorem us64 : ∀ k : Nat, k < 64 → ((iI (k : Int)).toInt64.toUInt64 &&& Int64.toUInt64 63).toNat % 64 = k := by decide +kernel

abbrev r6_bitCount_0f7a4 : Room := { frames := 0, cells := 0, slots := 0, locals := 0 }
set_option maxHeartbeats 4000000 in
set_option maxRecDepth 100000 in
theorem k6_bitCount_0f7a4 (l : Launch) (D : va_G) (cs : Nat → ClassId) (x : Int32) (f : Nat → Bool) (n : Nat) (hx : x = nI (mkN f n)) (hn : n ≤ 32) : CI l D cs yJ6_bitCount_0f7a4 cJ6_bitCount_0f7a4 1 .int r6_bitCount_0f7a4 0 0 [.int x] (([] : va_W)) (([] : va_W)) (iI (((cntN f n : Nat) : Int))) := by
  refine CI_start (own := RJ6) (by decide) rfl rfl (Nat.le_of_ble_eq_true rfl) ?_
  intro p e s m args below meth c Q A ls hC hl hP hD hA hS hend
  have hl : lv_has ls 1 [(0, .int x)] := hl
  obtain ⟨H, hH⟩ : ∃ H : Heap, H = s.heap := ⟨_, rfl⟩
  have hS : va_S A s.heap H [] := by rw [hH]; exact hS
  rw [← hH] at hP
  obtain ⟨locs, hlocs⟩ : ∃ locs : List Loc, locs = [] := ⟨_, rfl⟩
  rw [← hlocs] at hS
  suffices hgo : W p l e r6_bitCount_0f7a4 s m args below meth c H locs 0 0 Q (F0 m 0 ls []) by rw [← hH, ← hlocs]; exact hgo
  clear hH hlocs
  have hN32 : mkN f n < 2 ^ 32 := Nat.lt_of_lt_of_le (mkN_lt f n) (Nat.pow_le_pow_right (by omega) (by omega))
  refine x_il hC hl 0 dJ6_bitCount_0f7a4_0 rfl rfl ?_
  refine x_il hC hl 0 dJ6_bitCount_0f7a4_1 rfl rfl ?_
  refine x_ic hC dJ6_bitCount_0f7a4_2 ?_
  refine x_iushr hC dJ6_bitCount_0f7a4_3 (nI (mkN f n / 2 ^ 1)) (by rw [hx]; exact pk_ushrN hN32 (iI 1) 1 rfl) ?_
  refine x_ldcw hC 1431655765 tb_347 (by decide) dJ6_bitCount_0f7a4_4 ?_
  refine x_iand hC dJ6_bitCount_0f7a4_7 (nI (mkN f n / 2 ^ 1 &&& 1431655765)) (by rw [iK1]; exact fa_and _ _) ?_
  refine x_isubW hC dJ6_bitCount_0f7a4_8 (nI (g1 1431655765 (mkN f n))) (by rw [hx]; exact nI_subN (Nat.le_trans Nat.and_le_left (Nat.div_le_self _ _))) ?_
  refine x_is hC [(0, .int (nI (g1 1431655765 (mkN f n))))] hl dJ6_bitCount_0f7a4_9 rfl (by decide) rfl (fun ls hl => ?_)
  refine x_il hC hl 0 dJ6_bitCount_0f7a4_10 rfl rfl ?_
  refine x_ldcw hC 858993459 tb_348 (by decide) dJ6_bitCount_0f7a4_11 ?_
  refine x_iand hC dJ6_bitCount_0f7a4_14 (nI ((g1 1431655765 (mkN f n)) &&& 858993459)) (by rw [iK2]; exact fa_and _ _) ?_
  refine x_il hC hl 0 dJ6_bitCount_0f7a4_15 rfl rfl ?_
  refine x_ic hC dJ6_bitCount_0f7a4_16 ?_
  refine x_iushr hC dJ6_bitCount_0f7a4_17 (nI ((g1 1431655765 (mkN f n)) / 2 ^ 2)) (pk_ushrN (by have := g1_le 1431655765 (mkN f n); omega) (iI 2) 2 rfl) ?_
  refine x_ldcw hC 858993459 tb_348 (by decide) dJ6_bitCount_0f7a4_18 ?_
  refine x_iand hC dJ6_bitCount_0f7a4_21 (nI ((g1 1431655765 (mkN f n)) / 2 ^ 2 &&& 858993459)) (by rw [iK2]; exact fa_and _ _) ?_
  refine x_iaddW hC dJ6_bitCount_0f7a4_22 (nI (g2 858993459 (g1 1431655765 (mkN f n)))) (nI_add _ _) ?_
  refine x_is hC [(0, .int (nI (g2 858993459 (g1 1431655765 (mkN f n)))))] hl dJ6_bitCount_0f7a4_23 rfl (by decide) rfl (fun ls hl => ?_)
  refine x_il hC hl 0 dJ6_bitCount_0f7a4_24 rfl rfl ?_
  refine x_il hC hl 0 dJ6_bitCount_0f7a4_25 rfl rfl ?_
  refine x_ic hC dJ6_bitCount_0f7a4_26 ?_
  refine x_iushr hC dJ6_bitCount_0f7a4_27 (nI ((g2 858993459 (g1 1431655765 (mkN f n))) / 2 ^ 4)) (pk_ushrN (by have := g2_le 858993459 (g1 1431655765 (mkN f n)); omega) (iI 4) 4 rfl) ?_
  refine x_iaddW hC dJ6_bitCount_0f7a4_28 (nI ((g2 858993459 (g1 1431655765 (mkN f n))) + (g2 858993459 (g1 1431655765 (mkN f n))) / 2 ^ 4)) (nI_add _ _) ?_
  refine x_ldcw hC 252645135 tb_349 (by decide) dJ6_bitCount_0f7a4_29 ?_
  refine x_iand hC dJ6_bitCount_0f7a4_32 (nI (g3 252645135 (g2 858993459 (g1 1431655765 (mkN f n))))) (by rw [iK3]; exact fa_and _ _) ?_
  refine x_is hC [(0, .int (nI (g3 252645135 (g2 858993459 (g1 1431655765 (mkN f n))))))] hl dJ6_bitCount_0f7a4_33 rfl (by decide) rfl (fun ls hl => ?_)
  refine x_il hC hl 0 dJ6_bitCount_0f7a4_34 rfl rfl ?_
  refine x_il hC hl 0 dJ6_bitCount_0f7a4_35 rfl rfl ?_
  refine x_bi hC dJ6_bitCount_0f7a4_36 (by decide) ?_
  refine x_iushr hC dJ6_bitCount_0f7a4_38 (nI ((g3 252645135 (g2 858993459 (g1 1431655765 (mkN f n)))) / 2 ^ 8)) (pk_ushrN (by have := g3_le 252645135 (g2 858993459 (g1 1431655765 (mkN f n))); omega) (iI 8) 8 rfl) ?_
  refine x_iaddW hC dJ6_bitCount_0f7a4_39 (nI ((g3 252645135 (g2 858993459 (g1 1431655765 (mkN f n)))) + (g3 252645135 (g2 858993459 (g1 1431655765 (mkN f n)))) / 2 ^ 8)) (nI_add _ _) ?_
  refine x_is hC [(0, .int (nI ((g3 252645135 (g2 858993459 (g1 1431655765 (mkN f n)))) + (g3 252645135 (g2 858993459 (g1 1431655765 (mkN f n)))) / 2 ^ 8)))] hl dJ6_bitCount_0f7a4_40 rfl (by decide) rfl (fun ls hl => ?_)
  refine x_il hC hl 0 dJ6_bitCount_0f7a4_41 rfl rfl ?_
  refine x_il hC hl 0 dJ6_bitCount_0f7a4_42 rfl rfl ?_
  refine x_bi hC dJ6_bitCount_0f7a4_43 (by decide) ?_
  refine x_iushr hC dJ6_bitCount_0f7a4_45 (nI (((g3 252645135 (g2 858993459 (g1 1431655765 (mkN f n)))) + (g3 252645135 (g2 858993459 (g1 1431655765 (mkN f n)))) / 2 ^ 8) / 2 ^ 16)) (pk_ushrN (by have := g3_le 252645135 (g2 858993459 (g1 1431655765 (mkN f n))); omega) (iI 16) 16 rfl) ?_
  refine x_iaddW hC dJ6_bitCount_0f7a4_46 (nI (((g3 252645135 (g2 858993459 (g1 1431655765 (mkN f n)))) + (g3 252645135 (g2 858993459 (g1 1431655765 (mkN f n)))) / 2 ^ 8) + ((g3 252645135 (g2 858993459 (g1 1431655765 (mkN f n)))) + (g3 252645135 (g2 858993459 (g1 1431655765 (mkN f n)))) / 2 ^ 8) / 2 ^ 16)) (nI_add _ _) ?_
  refine x_is hC [(0, .int (nI (((g3 252645135 (g2 858993459 (g1 1431655765 (mkN f n)))) + (g3 252645135 (g2 858993459 (g1 1431655765 (mkN f n)))) / 2 ^ 8) + ((g3 252645135 (g2 858993459 (g1 1431655765 (mkN f n)))) + (g3 252645135 (g2 858993459 (g1 1431655765 (mkN f n)))) / 2 ^ 8) / 2 ^ 16)))] hl dJ6_bitCount_0f7a4_47 rfl (by decide) rfl (fun ls hl => ?_)
  refine x_il hC hl 0 dJ6_bitCount_0f7a4_48 rfl rfl ?_
  refine x_bi hC dJ6_bitCount_0f7a4_49 (by decide) ?_
  refine x_iand hC dJ6_bitCount_0f7a4_51 (iI ((cntN f n : Nat) : Int)) (by rw [iK4, fa_and, pc32F _ hN32, cnt_mk f hn, iI_nat]) ?_
  exact x_retI (rfl) hend hP hD hS dJ6_bitCount_0f7a4_52
abbrev r13_bitCount_95d88 : Room := { frames := 0, cells := 0, slots := 0, locals := 0 }
set_option maxHeartbeats 4000000 in
set_option maxRecDepth 100000 in
theorem k13_bitCount_95d88 (l : Launch) (D : va_G) (cs : Nat → ClassId) (x : Int64) (f : Nat → Bool) (hx : x = lN (mkN f 48)) : CI l D cs yJ13_bitCount_95d88 cJ13_bitCount_95d88 2 .int r13_bitCount_95d88 0 0 [.long x] (([] : va_W)) (([] : va_W)) (iI (((cntN f 48 : Nat) : Int))) := by
  refine CI_start (own := RJ13) (by decide) rfl rfl (Nat.le_of_ble_eq_true rfl) ?_
  intro p e s m args below meth c Q A ls hC hl hP hD hA hS hend
  have hl : lv_has ls 2 [(0, .long x)] := hl
  obtain ⟨H, hH⟩ : ∃ H : Heap, H = s.heap := ⟨_, rfl⟩
  have hS : va_S A s.heap H [] := by rw [hH]; exact hS
  rw [← hH] at hP
  obtain ⟨locs, hlocs⟩ : ∃ locs : List Loc, locs = [] := ⟨_, rfl⟩
  rw [← hlocs] at hS
  suffices hgo : W p l e r13_bitCount_95d88 s m args below meth c H locs 0 0 Q (F0 m 0 ls []) by rw [← hH, ← hlocs]; exact hgo
  clear hH hlocs
  have hN48 : mkN f 48 < 2 ^ 48 := mkN_lt f 48
  have h48 := pc48F _ hN48
  refine x_ll hC hl 0 dJ13_bitCount_95d88_0 rfl rfl ?_
  refine x_ll hC hl 0 dJ13_bitCount_95d88_1 rfl rfl ?_
  refine x_ic hC dJ13_bitCount_95d88_2 ?_
  refine x_lushr hC dJ13_bitCount_95d88_3 (lN (mkN f 48 / 2 ^ 1)) (by rw [hx]; exact pf_ushr (us64 1 (by omega)) (by omega)) ?_
  refine lv_ldc2 (v := (6148914691236517205 : Int64)) hC.1 hC.2.1 hC.2.2.2.1 (x_w hC tb_265 rfl) dJ13_bitCount_95d88_4 ?_
  refine x_land hC dJ13_bitCount_95d88_7 (lN (mkN f 48 / 2 ^ 1 &&& 6148914691236517205)) (by rw [lK1]; exact fb_andL _ _) ?_
  refine x_lsub hC dJ13_bitCount_95d88_8 (lN (g1 6148914691236517205 (mkN f 48))) (by rw [hx]; exact lN_sub (Nat.le_trans Nat.and_le_left (Nat.div_le_self _ _))) ?_
  refine x_ls hC [(0, .long (lN (g1 6148914691236517205 (mkN f 48))))] hl dJ13_bitCount_95d88_9 rfl (by decide) rfl (fun ls hl => ?_)
  refine x_ll hC hl 0 dJ13_bitCount_95d88_10 rfl rfl ?_
  refine lv_ldc2 (v := (3689348814741910323 : Int64)) hC.1 hC.2.1 hC.2.2.2.1 (x_w hC tb_266 rfl) dJ13_bitCount_95d88_11 ?_
  refine x_land hC dJ13_bitCount_95d88_14 (lN ((g1 6148914691236517205 (mkN f 48)) &&& 3689348814741910323)) (by rw [lK2]; exact fb_andL _ _) ?_
  refine x_ll hC hl 0 dJ13_bitCount_95d88_15 rfl rfl ?_
  refine x_ic hC dJ13_bitCount_95d88_16 ?_
  refine x_lushr hC dJ13_bitCount_95d88_17 (lN ((g1 6148914691236517205 (mkN f 48)) / 2 ^ 2)) (pf_ushr (us64 2 (by omega)) (by have := g1_le 6148914691236517205 (mkN f 48); omega)) ?_
  refine lv_ldc2 (v := (3689348814741910323 : Int64)) hC.1 hC.2.1 hC.2.2.2.1 (x_w hC tb_266 rfl) dJ13_bitCount_95d88_18 ?_
  refine x_land hC dJ13_bitCount_95d88_21 (lN ((g1 6148914691236517205 (mkN f 48)) / 2 ^ 2 &&& 3689348814741910323)) (by rw [lK2]; exact fb_andL _ _) ?_
  refine x_ladd hC dJ13_bitCount_95d88_22 (lN (g2 3689348814741910323 (g1 6148914691236517205 (mkN f 48)))) (lN_add _ _) ?_
  refine x_ls hC [(0, .long (lN (g2 3689348814741910323 (g1 6148914691236517205 (mkN f 48)))))] hl dJ13_bitCount_95d88_23 rfl (by decide) rfl (fun ls hl => ?_)
  refine x_ll hC hl 0 dJ13_bitCount_95d88_24 rfl rfl ?_
  refine x_ll hC hl 0 dJ13_bitCount_95d88_25 rfl rfl ?_
  refine x_ic hC dJ13_bitCount_95d88_26 ?_
  refine x_lushr hC dJ13_bitCount_95d88_27 (lN ((g2 3689348814741910323 (g1 6148914691236517205 (mkN f 48))) / 2 ^ 4)) (pf_ushr (us64 4 (by omega)) (by have h1 : (g1 6148914691236517205 (mkN f 48)) &&& 3689348814741910323 ≤ g1 6148914691236517205 (mkN f 48) := Nat.and_le_left; have h2 : (g1 6148914691236517205 (mkN f 48)) / 4 &&& 3689348814741910323 ≤ (g1 6148914691236517205 (mkN f 48)) / 4 := Nat.and_le_left; have h3 := g1_le 6148914691236517205 (mkN f 48); show (g1 6148914691236517205 (mkN f 48) &&& 3689348814741910323) + ((g1 6148914691236517205 (mkN f 48)) / 4 &&& 3689348814741910323) < _; omega)) ?_
  refine x_ladd hC dJ13_bitCount_95d88_28 (lN ((g2 3689348814741910323 (g1 6148914691236517205 (mkN f 48))) + (g2 3689348814741910323 (g1 6148914691236517205 (mkN f 48))) / 2 ^ 4)) (lN_add _ _) ?_
  refine lv_ldc2 (v := (1085102592571150095 : Int64)) hC.1 hC.2.1 hC.2.2.2.1 (x_w hC tb_267 rfl) dJ13_bitCount_95d88_29 ?_
  refine x_land hC dJ13_bitCount_95d88_32 (lN (g3 1085102592571150095 (g2 3689348814741910323 (g1 6148914691236517205 (mkN f 48))))) (by rw [lK3]; exact fb_andL _ _) ?_
  refine x_ls hC [(0, .long (lN (g3 1085102592571150095 (g2 3689348814741910323 (g1 6148914691236517205 (mkN f 48))))))] hl dJ13_bitCount_95d88_33 rfl (by decide) rfl (fun ls hl => ?_)
  refine x_ll hC hl 0 dJ13_bitCount_95d88_34 rfl rfl ?_
  refine x_ll hC hl 0 dJ13_bitCount_95d88_35 rfl rfl ?_
  refine x_bi hC dJ13_bitCount_95d88_36 (by decide) ?_
  refine x_lushr hC dJ13_bitCount_95d88_38 (lN ((g3 1085102592571150095 (g2 3689348814741910323 (g1 6148914691236517205 (mkN f 48)))) / 2 ^ 8)) (pf_ushr (us64 8 (by omega)) (by have := h48.1; omega)) ?_
  refine x_ladd hC dJ13_bitCount_95d88_39 (lN ((g3 1085102592571150095 (g2 3689348814741910323 (g1 6148914691236517205 (mkN f 48)))) + (g3 1085102592571150095 (g2 3689348814741910323 (g1 6148914691236517205 (mkN f 48)))) / 2 ^ 8)) (lN_add _ _) ?_
  refine x_ls hC [(0, .long (lN ((g3 1085102592571150095 (g2 3689348814741910323 (g1 6148914691236517205 (mkN f 48)))) + (g3 1085102592571150095 (g2 3689348814741910323 (g1 6148914691236517205 (mkN f 48)))) / 2 ^ 8)))] hl dJ13_bitCount_95d88_40 rfl (by decide) rfl (fun ls hl => ?_)
  refine x_ll hC hl 0 dJ13_bitCount_95d88_41 rfl rfl ?_
  refine x_ll hC hl 0 dJ13_bitCount_95d88_42 rfl rfl ?_
  refine x_bi hC dJ13_bitCount_95d88_43 (by decide) ?_
  refine x_lushr hC dJ13_bitCount_95d88_45 (lN (((g3 1085102592571150095 (g2 3689348814741910323 (g1 6148914691236517205 (mkN f 48)))) + (g3 1085102592571150095 (g2 3689348814741910323 (g1 6148914691236517205 (mkN f 48)))) / 2 ^ 8) / 2 ^ 16)) (pf_ushr (us64 16 (by omega)) (by have := h48.1; omega)) ?_
  refine x_ladd hC dJ13_bitCount_95d88_46 (lN (((g3 1085102592571150095 (g2 3689348814741910323 (g1 6148914691236517205 (mkN f 48)))) + (g3 1085102592571150095 (g2 3689348814741910323 (g1 6148914691236517205 (mkN f 48)))) / 2 ^ 8) + ((g3 1085102592571150095 (g2 3689348814741910323 (g1 6148914691236517205 (mkN f 48)))) + (g3 1085102592571150095 (g2 3689348814741910323 (g1 6148914691236517205 (mkN f 48)))) / 2 ^ 8) / 2 ^ 16)) (lN_add _ _) ?_
  refine x_ls hC [(0, .long (lN (((g3 1085102592571150095 (g2 3689348814741910323 (g1 6148914691236517205 (mkN f 48)))) + (g3 1085102592571150095 (g2 3689348814741910323 (g1 6148914691236517205 (mkN f 48)))) / 2 ^ 8) + ((g3 1085102592571150095 (g2 3689348814741910323 (g1 6148914691236517205 (mkN f 48)))) + (g3 1085102592571150095 (g2 3689348814741910323 (g1 6148914691236517205 (mkN f 48)))) / 2 ^ 8) / 2 ^ 16)))] hl dJ13_bitCount_95d88_47 rfl (by decide) rfl (fun ls hl => ?_)
  refine x_ll hC hl 0 dJ13_bitCount_95d88_48 rfl rfl ?_
  refine x_ll hC hl 0 dJ13_bitCount_95d88_49 rfl rfl ?_
  refine x_bi hC dJ13_bitCount_95d88_50 (by decide) ?_
  refine x_lushr hC dJ13_bitCount_95d88_52 (lN ((((g3 1085102592571150095 (g2 3689348814741910323 (g1 6148914691236517205 (mkN f 48)))) + (g3 1085102592571150095 (g2 3689348814741910323 (g1 6148914691236517205 (mkN f 48)))) / 2 ^ 8) + ((g3 1085102592571150095 (g2 3689348814741910323 (g1 6148914691236517205 (mkN f 48)))) + (g3 1085102592571150095 (g2 3689348814741910323 (g1 6148914691236517205 (mkN f 48)))) / 2 ^ 8) / 2 ^ 16) / 2 ^ 32)) (pf_ushr (us64 32 (by omega)) (by have := h48.1; omega)) ?_
  refine x_ladd hC dJ13_bitCount_95d88_53 (lN ((((g3 1085102592571150095 (g2 3689348814741910323 (g1 6148914691236517205 (mkN f 48)))) + (g3 1085102592571150095 (g2 3689348814741910323 (g1 6148914691236517205 (mkN f 48)))) / 2 ^ 8) + ((g3 1085102592571150095 (g2 3689348814741910323 (g1 6148914691236517205 (mkN f 48)))) + (g3 1085102592571150095 (g2 3689348814741910323 (g1 6148914691236517205 (mkN f 48)))) / 2 ^ 8) / 2 ^ 16) + (((g3 1085102592571150095 (g2 3689348814741910323 (g1 6148914691236517205 (mkN f 48)))) + (g3 1085102592571150095 (g2 3689348814741910323 (g1 6148914691236517205 (mkN f 48)))) / 2 ^ 8) + ((g3 1085102592571150095 (g2 3689348814741910323 (g1 6148914691236517205 (mkN f 48)))) + (g3 1085102592571150095 (g2 3689348814741910323 (g1 6148914691236517205 (mkN f 48)))) / 2 ^ 8) / 2 ^ 16) / 2 ^ 32)) (lN_add _ _) ?_
  refine x_ls hC [(0, .long (lN ((((g3 1085102592571150095 (g2 3689348814741910323 (g1 6148914691236517205 (mkN f 48)))) + (g3 1085102592571150095 (g2 3689348814741910323 (g1 6148914691236517205 (mkN f 48)))) / 2 ^ 8) + ((g3 1085102592571150095 (g2 3689348814741910323 (g1 6148914691236517205 (mkN f 48)))) + (g3 1085102592571150095 (g2 3689348814741910323 (g1 6148914691236517205 (mkN f 48)))) / 2 ^ 8) / 2 ^ 16) + (((g3 1085102592571150095 (g2 3689348814741910323 (g1 6148914691236517205 (mkN f 48)))) + (g3 1085102592571150095 (g2 3689348814741910323 (g1 6148914691236517205 (mkN f 48)))) / 2 ^ 8) + ((g3 1085102592571150095 (g2 3689348814741910323 (g1 6148914691236517205 (mkN f 48)))) + (g3 1085102592571150095 (g2 3689348814741910323 (g1 6148914691236517205 (mkN f 48)))) / 2 ^ 8) / 2 ^ 16) / 2 ^ 32)))] hl dJ13_bitCount_95d88_54 rfl (by decide) rfl (fun ls hl => ?_)
  refine x_ll hC hl 0 dJ13_bitCount_95d88_55 rfl rfl ?_
  refine x_l2i hC dJ13_bitCount_95d88_56 (nI ((((g3 1085102592571150095 (g2 3689348814741910323 (g1 6148914691236517205 (mkN f 48)))) + (g3 1085102592571150095 (g2 3689348814741910323 (g1 6148914691236517205 (mkN f 48)))) / 2 ^ 8) + ((g3 1085102592571150095 (g2 3689348814741910323 (g1 6148914691236517205 (mkN f 48)))) + (g3 1085102592571150095 (g2 3689348814741910323 (g1 6148914691236517205 (mkN f 48)))) / 2 ^ 8) / 2 ^ 16) + (((g3 1085102592571150095 (g2 3689348814741910323 (g1 6148914691236517205 (mkN f 48)))) + (g3 1085102592571150095 (g2 3689348814741910323 (g1 6148914691236517205 (mkN f 48)))) / 2 ^ 8) + ((g3 1085102592571150095 (g2 3689348814741910323 (g1 6148914691236517205 (mkN f 48)))) + (g3 1085102592571150095 (g2 3689348814741910323 (g1 6148914691236517205 (mkN f 48)))) / 2 ^ 8) / 2 ^ 16) / 2 ^ 32)) (lN_i _) ?_
  refine x_bi hC dJ13_bitCount_95d88_57 (by decide) ?_
  refine x_iand hC dJ13_bitCount_95d88_59 (iI ((cntN f 48 : Nat) : Int)) (by rw [iK5, fa_and, h48.2, cnt_mk f (Nat.le_refl 48), iI_nat]) ?_
  exact x_retI (rfl) hend hP hD hS dJ13_bitCount_95d88_60
