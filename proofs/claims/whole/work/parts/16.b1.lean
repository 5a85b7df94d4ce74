theorem lk0_92 : LkV RX0 92 yX0_isOpen cX0_isOpen 2 (some .boolean) 1 := ⟨tb_249, tb_246, tb_248, tb_0, tb_72, by decide +kernel⟩
theorem lk0_112 : LkS RX0 112 yX0_hoursOf cX0_hoursOf 2 (some .long) 2 := ⟨tb_245, tb_243, tb_244, tb_72, by decide +kernel⟩
theorem lk0_116 : LkV RX0 116 yX0_canHold cX0_canHold 5 (some .boolean) 3 := ⟨tb_253, tb_250, tb_252, tb_1, tb_72, by decide +kernel⟩
theorem lk0_120 : LkV RX0 120 yX0_rankByRule cX0_rankByRule 4 (some .int) 3 := ⟨tb_257, tb_254, tb_256, tb_2, tb_72, by decide +kernel⟩
theorem lk0_124 : LkV RX0 124 yX0_roomToOpen cX0_roomToOpen 6 (some .int) 1 := ⟨tb_271, tb_268, tb_270, tb_4, tb_72, by decide +kernel⟩
theorem lk0_127 : LkV RX0 127 yX0_gapAhead cX0_gapAhead 6 (some .int) 2 := ⟨tb_261, tb_258, tb_260, tb_3, tb_72, by decide +kernel⟩
theorem lk0_130 : LkS RX0 130 yJ13_bitCount_95d88 cJ13_bitCount_95d88 2 (some .int) 1 := ⟨tb_264, tb_262, tb_263, tb_78, by decide +kernel⟩
theorem lk4_79 : LkS RX4 79 yX4_isHour cX4_isHour 1 (some .boolean) 1 := ⟨tb_234, tb_232, tb_233, tb_71, by decide +kernel⟩
theorem lk4_157 : LkS RX4 157 yX4_isSize cX4_isSize 1 (some .boolean) 1 := ⟨tb_237, tb_235, tb_236, tb_71, by decide +kernel⟩
/-! boards: copies, the class's words -/
section X10
variable {p : Program} {l : Launch} {e : Env} {R : Room} {s : State} {m : MethodId} {args : Array Value} {below : List Frame} {meth : Method} {c : Code} {H H0 : Heap} {locs : List Loc} {cells slots : Nat} {Q : State → Prop} {A : Nat → Prop} {pc : Nat} {ls : Array Slot} {rest : List Value} {cc : ByteArray} {nL : Nat} {own : String} {D : va_G} {cs : Nat → ClassId} {ws : va_W} {a : Nat}
theorem x_topL {x : Int64} (y : Int64) (h : x = y) (kk : W p l e R s m args below meth c H locs cells slots Q (F0 m pc ls (.long y :: rest))) : W p l e R s m args below meth c H locs cells slots Q (F0 m pc ls (.long x :: rest)) := h ▸ kk
theorem arrV_ext {cI : ClassId} {N : Nat} {f g : Nat → Value} (h : ∀ j, j < N → f j = g j) : arrV cI N f = arrV cI N g := by
  unfold arrV
  congr 1
  apply Array.ext
  · simp
  · intro i h1 h2
    rw [Array.getElem_ofFn, Array.getElem_ofFn]
    exact h i (by simpa using h1)
theorem vP_set {q0 : Nat} {e e' : va_E} {cl : List vw_C} (h : va_P D cl (ws.set q0 (a, e)) H) (he : va_at D cl (a, e) H → va_at D cl (a, e') H) : va_P D cl (ws.set q0 (a, e')) H := by
  intro k q hk
  by_cases hkq : q0 = k
  · subst hkq
    have hl : q0 < ws.length := by
      have := (List.getElem?_eq_some_iff.mp hk).1
      simpa using this
    rw [List.getElem?_set_self hl] at hk
    have h2 := h q0 (a, e) (List.getElem?_set_self hl)
    rw [← Option.some.inj hk]
    exact he h2
  · rw [List.getElem?_set_ne hkq] at hk
    exact h k q (by rw [List.getElem?_set_ne hkq]; exact hk)
theorem vD_set {q0 : Nat} {e e' : va_E} (h : va_D A (ws.set q0 (a, e))) : va_D A (ws.set q0 (a, e')) := by
  by_cases hl : q0 < ws.length
  · have h1 := h.set (p := q0) (a := a) (e0 := e) (e := e') (List.getElem?_set_self hl)
    rw [List.set_set] at h1
    exact h1
  · rw [List.set_eq_of_length_le (by omega)] at h ⊢
    exact h
theorem x_copI (hC : Cx p s m args c cc nL own D cs) (hP : va_P D vwCl ws H) (hD : va_D A ws) (hS : va_S A H0 H locs) (q0 q1 : Nat) {a0 n : Nat} {f g : Int → Int} (ha0 : ws[q0]? = some (a0, arI (cs 0) n f)) (ha1 : ws[q1]? = some (a, arI (cs 0) n g)) {z : Int} (hz : z = n) (hn : n < 2 ^ 31) (hls : ls.size = nL) {idx : Nat}
    (k1 : Cond.methodLink own idx arraycopyName ∈ lw_tbl) (k2 : Cond.native arraycopyName ∈ lw_tbl) (k3 : Cond.static arraycopyName ∈ lw_tbl) (k4 : Cond.initialized "java/lang/System" ∈ lw_tbl) (hf : 1 ≤ R.frames) (hlo : (rest.map fun v => v.category).sum + 18 ≤ R.locals) (d : decode cc pc = .ok (.invokestatic idx, 3))
    (kk : ∀ (H1 : Heap) (locs1 : List Loc), va_P D vwCl (ws.set q1 (a, arI (cs 0) n f)) H1 → va_D A (ws.set q1 (a, arI (cs 0) n f)) → va_S A H0 H1 locs1 → W p l e R s m args below meth c H1 locs1 cells slots Q (F0 m (pc + 3) ls rest)) : W p l e R s m args below meth c H locs cells slots Q (F0 m pc ls (.int (iI z) :: .int (iI 0) :: .ref a :: .int (iI 0) :: .ref a0 :: rest)) := by
  subst hz
  have e0 : (iI 0).toNatClampNeg = 0 := rfl
  have en : (iI (n : Int)).toNatClampNeg = n := by rw [iI_clamp (by omega) (by omega)]; omega
  refine va_copyi hC.1 hC.2.1 (hC.2.2.1.trans hls.symm) hC.2.2.2.1 (x_w hC k1 rfl) (x_w hC k2 rfl) (x_w hC k3 rfl) (x_w hC k4 rfl) hC.2.2.2.2.2.1 hP hD hS q0 q1 0 0 ha0 ha1 rfl rfl rfl (by decide) (by decide) (fun h => by have := (iI_lt (a := (n : Int)) (b := 0) (by omega) (by omega)).mp h; omega) (by rw [e0, en]; omega) (by rw [e0, en]; omega) (fun i _ => rfl) hf hlo d ?_
  intro H1 locs1 hP1 hD1 hS1
  refine kk H1 locs1 (vP_set hP1 (fun h => ?_)) (vD_set hD1) hS1
  rw [e0, en] at h
  have h2 : H1[a]? = some (vp_cell (cs 0) (n, .inl (va_cpy (fun j : Nat => iI (f j)) (fun j : Nat => iI (g j)) 0 0 n))) := h
  show H1[a]? = some (vp_cell (cs 0) (n, .inl (fun j : Nat => iI (f j))))
  rw [h2]
  refine congrArg some ?_
  rw [vp_cell_i, vp_cell_i]
  refine arrV_ext (fun j hj => ?_)
  show Value.int (va_cpy _ _ 0 0 n j) = _
  unfold va_cpy
  rw [if_pos (by omega)]
  simp
theorem x_copJ (hC : Cx p s m args c cc nL own D cs) (hP : va_P D vwCl ws H) (hD : va_D A ws) (hS : va_S A H0 H locs) (q0 q1 : Nat) {a0 n : Nat} {f g : Int → Nat → Bool} (ha0 : ws[q0]? = some (a0, arL (cs 1) n f)) (ha1 : ws[q1]? = some (a, arL (cs 1) n g)) {z : Int} (hz : z = n) (hn : n < 2 ^ 31) (hls : ls.size = nL) {idx : Nat}
    (k1 : Cond.methodLink own idx arraycopyName ∈ lw_tbl) (k2 : Cond.native arraycopyName ∈ lw_tbl) (k3 : Cond.static arraycopyName ∈ lw_tbl) (k4 : Cond.initialized "java/lang/System" ∈ lw_tbl) (hf : 1 ≤ R.frames) (hlo : (rest.map fun v => v.category).sum + 18 ≤ R.locals) (d : decode cc pc = .ok (.invokestatic idx, 3))
    (kk : ∀ (H1 : Heap) (locs1 : List Loc), va_P D vwCl (ws.set q1 (a, arL (cs 1) n f)) H1 → va_D A (ws.set q1 (a, arL (cs 1) n f)) → va_S A H0 H1 locs1 → W p l e R s m args below meth c H1 locs1 cells slots Q (F0 m (pc + 3) ls rest)) : W p l e R s m args below meth c H locs cells slots Q (F0 m pc ls (.int (iI z) :: .int (iI 0) :: .ref a :: .int (iI 0) :: .ref a0 :: rest)) := by
  subst hz
  have e0 : (iI 0).toNatClampNeg = 0 := rfl
  have en : (iI (n : Int)).toNatClampNeg = n := by rw [iI_clamp (by omega) (by omega)]; omega
  refine va_copyl hC.1 hC.2.1 (hC.2.2.1.trans hls.symm) hC.2.2.2.1 (x_w hC k1 rfl) (x_w hC k2 rfl) (x_w hC k3 rfl) (x_w hC k4 rfl) hC.2.2.2.2.2.1 hP hD hS q0 q1 1 1 ha0 ha1 rfl rfl rfl (by decide) (by decide) (fun h => by have := (iI_lt (a := (n : Int)) (b := 0) (by omega) (by omega)).mp h; omega) (by rw [e0, en]; omega) (by rw [e0, en]; omega) (fun i _ => rfl) hf hlo d ?_
  intro H1 locs1 hP1 hD1 hS1
  refine kk H1 locs1 (vP_set hP1 (fun h => ?_)) (vD_set hD1) hS1
  rw [e0, en] at h
  have h2 : H1[a]? = some (vp_cell (cs 1) (n, .inr (.inl (va_cpy (fun j : Nat => lN (mkN (f j) 48)) (fun j : Nat => lN (mkN (g j) 48)) 0 0 n)))) := h
  show H1[a]? = some (vp_cell (cs 1) (n, .inr (.inl (fun j : Nat => lN (mkN (f j) 48)))))
  rw [h2]
  refine congrArg some ?_
  rw [vp_cell_l, vp_cell_l]
  refine arrV_ext (fun j hj => ?_)
  show Value.long (va_cpy _ _ 0 0 n j) = _
  unfold va_cpy
  rw [if_pos (by omega)]
  simp
end X10
/-- what a board keeps within -/
def IB (F E Z P R C : Int → Int) : Prop := (∀ t, 0 ≤ t → t < 20 → (-1 ≤ P t ∧ P t ≤ 7) ∧ (-100 ≤ Z t ∧ Z t ≤ 100) ∧ (¬ P t = -1 → 0 ≤ F t ∧ F t < E t ∧ E t ≤ 48)) ∧ ∀ r, 0 ≤ r → r < 8 → (1 ≤ R r ∧ R r ≤ 9) ∧ 1 ≤ C r ∧ C r ≤ 99
theorem ibT {F E Z P R C : Int → Int} (h : IB F E Z P R C) (t : Int) (ht : 0 ≤ t ∧ t < 20) : (-1 ≤ P t ∧ P t ≤ 7) ∧ (-100 ≤ Z t ∧ Z t ≤ 100) ∧ (¬ P t = -1 → 0 ≤ F t ∧ F t < E t ∧ E t ≤ 48) := h.1 t ht.1 ht.2
theorem ibR {F E Z P R C : Int → Int} (h : IB F E Z P R C) (r : Int) (hr : 0 ≤ r ∧ r < 8) : (1 ≤ R r ∧ R r ≤ 9) ∧ 1 ≤ C r ∧ C r ≤ 99 := h.2 r hr.1 hr.2
theorem IB_P {F E Z P R C : Int → Int} (h : IB F E Z P R C) {t v : Int} (hv : -1 ≤ v ∧ v ≤ 7) (hi : 0 ≤ F t ∧ F t < E t ∧ E t ≤ 48) : IB F E Z (u1 P t v) R C := by
  refine ⟨fun j h0 h1 => ?_, h.2⟩
  have hj := h.1 j h0 h1
  by_cases c : j = t
  · subst c
    rw [u1_s]
    exact ⟨hv, hj.2.1, fun _ => hi⟩
  · rw [u1_n c]
    exact hj
def bHold (R : Int → Int) (T : Int → Nat → Bool) (r z : Int) (f : Nat → Bool) : Prop := z ≤ R r ∧ ∀ k : Nat, k < 48 → (T r k && f k) = false
noncomputable def bGap (T : Int → Nat → Bool) (r b : Int) : Int := fstI (fun g => T r (b - 1 - g).toNat = true) b (b - 0).toNat 0
noncomputable def bRank (R : Int → Int) (T : Int → Nat → Bool) (r b rule : Int) : Int := iif (rule = 1) (bGap T r b) (iif (rule = 2) (R r) (iif (rule = 3) (-((cntN (T r) 48 : Nat) : Int)) 0))
theorem fstI_rg (p : Int → Prop) (d : Int) : ∀ (k : Nat) (i : Int), fstI p d k i = d ∨ (i ≤ fstI p d k i ∧ fstI p d k i < i + k)
  | 0, i => Or.inl rfl
  | k + 1, i => by
    have ih := fstI_rg p d k (i + 1)
    unfold fstI iif
    split
    · right; omega
    · omega
theorem bGap_rg (T : Int → Nat → Bool) (r : Int) {b : Int} (hb : 0 ≤ b) : 0 ≤ bGap T r b ∧ bGap T r b ≤ b := by
  have h := fstI_rg (fun g => T r (b - 1 - g).toNat = true) b (b - 0).toNat 0
  unfold bGap
  omega
theorem bRank_rg {R : Int → Int} (T : Int → Nat → Bool) (r : Int) {b : Int} (rule : Int) (hR : 1 ≤ R r ∧ R r ≤ 9) (hb : 0 ≤ b ∧ b ≤ 48) : -48 ≤ bRank R T r b rule ∧ bRank R T r b rule ≤ 48 := by
  have h1 := bGap_rg T r hb.1
  have h2 := cntN_le (T r) 48
  unfold bRank iif
  split
  · omega
  · split
    · omega
    · split <;> omega
noncomputable def bForS (O : Nat → Bool) (R : Int → Int) (T : Int → Nat → Bool) (b e z rule : Int) (r : Int) (x : Int × Int) : Int × Int := iif ((O r.toNat = true ∧ bHold R T r z (iv b e)) ∧ (x.1 = -1 ∨ bRank R T r b rule < x.2)) (r, bRank R T r b rule) x
noncomputable def bForX (O : Nat → Bool) (R : Int → Int) (T : Int → Nat → Bool) (b e z rule : Int) (n : Int) : Int × Int := fI (bForS O R T b e z rule) (-1, 0) n
theorem bForX_s (O : Nat → Bool) (R : Int → Int) (T : Int → Nat → Bool) (b e z rule : Int) {i : Int} (h : 0 ≤ i) : bForX O R T b e z rule (i + 1) = bForS O R T b e z rule i (bForX O R T b e z rule i) := fI_s h
theorem bForX_rg {O : Nat → Bool} {R : Int → Int} {T : Int → Nat → Bool} {b e z rule : Int} (hR : ∀ r, 0 ≤ r → r < 8 → 1 ≤ R r ∧ R r ≤ 9) (hb : 0 ≤ b ∧ b ≤ 48) {n : Int} (h0 : 0 ≤ n) (h8 : n ≤ 8) : (-1 ≤ (bForX O R T b e z rule n).1 ∧ (bForX O R T b e z rule n).1 < n) ∧ -48 ≤ (bForX O R T b e z rule n).2 ∧ (bForX O R T b e z rule n).2 ≤ 48 := by
  refine fI_ind (fun n (x : Int × Int) => (-1 ≤ x.1 ∧ x.1 < n) ∧ -48 ≤ x.2 ∧ x.2 ≤ 48) (by simp) (fun i x hi hin hx => ?_) h0
  have := bRank_rg T i rule (hR i hi (by omega)) hb
  unfold bForS iif
  split
  · dsimp only; omega
  · omega
noncomputable def bOpS (O : Nat → Bool) (R C : Int → Int) (z : Int) (r : Int) (x : Int × Int) : Int × Int := iif ((¬ O r.toNat = true ∧ z ≤ R r) ∧ (x.1 = -1 ∨ 10 * C r + R r < x.2)) (r, 10 * C r + R r) x
noncomputable def bOpX (O : Nat → Bool) (R C : Int → Int) (z n : Int) : Int × Int := fI (bOpS O R C z) (-1, 0) n
theorem bOpX_s (O : Nat → Bool) (R C : Int → Int) (z : Int) {i : Int} (h : 0 ≤ i) : bOpX O R C z (i + 1) = bOpS O R C z i (bOpX O R C z i) := fI_s h
theorem bOpX_rg {O : Nat → Bool} {R C : Int → Int} {z : Int} (hR : ∀ r, 0 ≤ r → r < 8 → (1 ≤ R r ∧ R r ≤ 9) ∧ 1 ≤ C r ∧ C r ≤ 99) {n : Int} (h0 : 0 ≤ n) (h8 : n ≤ 8) : (-1 ≤ (bOpX O R C z n).1 ∧ (bOpX O R C z n).1 < n) ∧ 0 ≤ (bOpX O R C z n).2 ∧ (bOpX O R C z n).2 ≤ 1000 := by
  refine fI_ind (fun n (x : Int × Int) => (-1 ≤ x.1 ∧ x.1 < n) ∧ 0 ≤ x.2 ∧ x.2 ≤ 1000) (by simp) (fun i x hi hin hx => ?_) h0
  have := hR i hi (by omega)
  unfold bOpS iif
  split
  · dsimp only; omega
  · omega
noncomputable def bFor (O : Nat → Bool) (R C : Int → Int) (T : Int → Nat → Bool) (b e z rule : Int) : Int := iif ((bForX O R T b e z rule 8).1 = -1) (bOpX O R C z 8).1 (bForX O R T b e z rule 8).1
theorem bFor_rg {F E Z P R C : Int → Int} (h : IB F E Z P R C) (O : Nat → Bool) (T : Int → Nat → Bool) {b : Int} (e z rule : Int) (hb : 0 ≤ b ∧ b ≤ 48) : -1 ≤ bFor O R C T b e z rule ∧ bFor O R C T b e z rule ≤ 7 := by
  have h1 := bForX_rg (O := O) (T := T) (e := e) (z := z) (rule := rule) (fun r h1 h2 => (h.2 r h1 h2).1) hb (n := 8) (by omega) (by omega)
  have h2 := bOpX_rg (O := O) (z := z) (fun r h1 h2 => h.2 r h1 h2) (n := 8) (by omega) (by omega)
  unfold bFor iif
  split <;> omega
noncomputable def bPutO (O : Nat → Bool) (r : Int) : Nat → Bool := iif (O r.toNat = true) O (oSet O r)
noncomputable def bPutG (O : Nat → Bool) (G C : Int → Int) (r : Int) : Int → Int := iif (O r.toNat = true) G (u1 (u1 G 10 (G 10 + 1)) 11 (G 11 + C r))
def bPutT (T : Int → Nat → Bool) (F E : Int → Int) (t r : Int) : Int → Nat → Bool := u1 T r (fun k => T r k || iv (F t) (E t) k)
def bOutT (T : Int → Nat → Bool) (F E : Int → Int) (t r : Int) : Int → Nat → Bool := u1 T r (fun k => T r k && !iv (F t) (E t) k)
def bGo (O : Nat → Bool) (F E Z P R : Int → Int) (T : Int → Nat → Bool) (t r : Int) : Prop := ¬ r = P t ∧ O r.toNat = true ∧ bHold R T r (Z t) (iv (F t) (E t))
noncomputable def bPl (P : Int → Int) (t : Int) : Int := iif (0 ≤ t ∧ t < 20) (P t) (-1)
theorem bPl_ok {P : Int → Int} {t : Int} (h : ¬ bPl P t = -1) : (0 ≤ t ∧ t < 20) ∧ bPl P t = P t := by
  by_cases c : 0 ≤ t ∧ t < 20
  · exact ⟨c, iif_t c⟩
  · exact absurd (iif_f c) h
theorem bPl_in {P : Int → Int} {t : Int} (h : 0 ≤ t ∧ t < 20) : bPl P t = P t := iif_t h
theorem bPl_rg {F E Z P R C : Int → Int} (h : IB F E Z P R C) (t : Int) : -1 ≤ bPl P t ∧ bPl P t ≤ 7 := by
  unfold bPl
  by_cases c : 0 ≤ t ∧ t < 20
  · rw [iif_t c]; exact (ibT h t c).1
  · rw [iif_f c]; omega
def bZero (T : Int → Nat → Bool) : Int → Nat → Bool := fI (fun r t => u1 t r (fun _ => false)) T 8
theorem bZero_in (T : Int → Nat → Bool) {r : Int} (hr : 0 ≤ r ∧ r < 8) (k : Nat) : bZero T r k = false := by
  refine fI_ind (fun n (t : Int → Nat → Bool) => ∀ r : Int, 0 ≤ r ∧ r < n → t r k = false) (fun r h => by omega) (fun i x hi hin hx r h => ?_) (by omega : (0 : Int) ≤ 8) r hr
  unfold u1
  split
  · rfl
  · exact hx r (by omega)

abbrev r4_isHour : Room := { frames := 0, cells := 0, slots := 0, locals := 0 }
set_option maxHeartbeats 4000000 in
set_option maxRecDepth 100000 in
theorem k4_isHour (l : Launch) (D : va_G) (cs : Nat → ClassId) (hour : Int) (g_hour : -2147483648 ≤ hour ∧ hour ≤ 2147483647) : CI l D cs yX4_isHour cX4_isHour 1 .boolean r4_isHour 0 0 [.int (iI hour)] (([] : va_W)) (([] : va_W)) (iI (b2p (0 ≤ hour ∧ hour ≤ 47))) := by
  refine CI_start (own := RX4) (by decide) rfl b2p_nar (Nat.le_of_ble_eq_true rfl) ?_
  intro p e s m args below meth c Q A ls hC hl hP hD hA hS hend
  have hl : lv_has ls 1 [(0, .int (iI hour))] := hl
  obtain ⟨H, hH⟩ : ∃ H : Heap, H = s.heap := ⟨_, rfl⟩
  have hS : va_S A s.heap H [] := by rw [hH]; exact hS
  rw [← hH] at hP
  obtain ⟨locs, hlocs⟩ : ∃ locs : List Loc, locs = [] := ⟨_, rfl⟩
  rw [← hlocs] at hS
  suffices hgo : W p l e r4_isHour s m args below meth c H locs 0 0 Q (F0 m 0 ls []) by rw [← hH, ← hlocs]; exact hgo
  clear hH hlocs
  refine x_il hC hl 0 dX4_isHour_0 rfl rfl ?_
  refine x_if_lt hC 14 dX4_isHour_1 (by decide) (by omega) (fun c_1 => ?_) (fun c_1 => ?_)
  · refine x_ic hC dX4_isHour_14 ?_
    exact x_retI (congrArg iI (b2p_f (by omega)).symm) hend hP hD hS dX4_isHour_15
  · refine x_il hC hl 0 dX4_isHour_4 rfl rfl ?_
    refine x_bi hC dX4_isHour_5 (by decide) ?_
    refine x_ic_ge hC 14 dX4_isHour_7 (by decide) (by omega) (by omega) (fun c_7 => ?_) (fun c_7 => ?_)
    · refine x_ic hC dX4_isHour_14 ?_
      exact x_retI (congrArg iI (b2p_f (by omega)).symm) hend hP hD hS dX4_isHour_15
    · refine x_ic hC dX4_isHour_10 ?_
      refine x_goto hC 15 dX4_isHour_11 (by decide) ?_
      exact x_retI (congrArg iI (b2p_t (by omega)).symm) hend hP hD hS dX4_isHour_15
abbrev r4_isSize : Room := { frames := 0, cells := 0, slots := 0, locals := 0 }
set_option maxHeartbeats 4000000 in
set_option maxRecDepth 100000 in
theorem k4_isSize (l : Launch) (D : va_G) (cs : Nat → ClassId) (size : Int) (g_size : -2147483648 ≤ size ∧ size ≤ 2147483647) : CI l D cs yX4_isSize cX4_isSize 1 .boolean r4_isSize 0 0 [.int (iI size)] (([] : va_W)) (([] : va_W)) (iI (b2p (1 ≤ size ∧ size ≤ 9))) := by
  refine CI_start (own := RX4) (by decide) rfl b2p_nar (Nat.le_of_ble_eq_true rfl) ?_
  intro p e s m args below meth c Q A ls hC hl hP hD hA hS hend
  have hl : lv_has ls 1 [(0, .int (iI size))] := hl
  obtain ⟨H, hH⟩ : ∃ H : Heap, H = s.heap := ⟨_, rfl⟩
  have hS : va_S A s.heap H [] := by rw [hH]; exact hS
  rw [← hH] at hP
  obtain ⟨locs, hlocs⟩ : ∃ locs : List Loc, locs = [] := ⟨_, rfl⟩
  rw [← hlocs] at hS
  suffices hgo : W p l e r4_isSize s m args below meth c H locs 0 0 Q (F0 m 0 ls []) by rw [← hH, ← hlocs]; exact hgo
  clear hH hlocs
  refine x_il hC hl 0 dX4_isSize_0 rfl rfl ?_
  refine x_ic hC dX4_isSize_1 ?_
  refine x_ic_lt hC 15 dX4_isSize_2 (by decide) (by omega) (by omega) (fun c_2 => ?_) (fun c_2 => ?_)
  · refine x_ic hC dX4_isSize_15 ?_
    exact x_retI (congrArg iI (b2p_f (by omega)).symm) hend hP hD hS dX4_isSize_16
  · refine x_il hC hl 0 dX4_isSize_5 rfl rfl ?_
    refine x_bi hC dX4_isSize_6 (by decide) ?_
    refine x_ic_gt hC 15 dX4_isSize_8 (by decide) (by omega) (by omega) (fun c_8 => ?_) (fun c_8 => ?_)
    · refine x_ic hC dX4_isSize_15 ?_
      exact x_retI (congrArg iI (b2p_f (by omega)).symm) hend hP hD hS dX4_isSize_16
    · refine x_ic hC dX4_isSize_11 ?_
      refine x_goto hC 16 dX4_isSize_12 (by decide) ?_
      exact x_retI (congrArg iI (b2p_t (by omega)).symm) hend hP hD hS dX4_isSize_16
abbrev r4_isRoom : Room := { frames := 0, cells := 0, slots := 0, locals := 0 }
set_option maxHeartbeats 4000000 in
set_option maxRecDepth 100000 in
theorem k4_isRoom (l : Launch) (D : va_G) (cs : Nat → ClassId) (room : Int) (g_room : -2147483648 ≤ room ∧ room ≤ 2147483647) : CI l D cs yX4_isRoom cX4_isRoom 1 .boolean r4_isRoom 0 0 [.int (iI room)] (([] : va_W)) (([] : va_W)) (iI (b2p (0 ≤ room ∧ room ≤ 7))) := by
  refine CI_start (own := RX4) (by decide) rfl b2p_nar (Nat.le_of_ble_eq_true rfl) ?_
  intro p e s m args below meth c Q A ls hC hl hP hD hA hS hend
  have hl : lv_has ls 1 [(0, .int (iI room))] := hl
  obtain ⟨H, hH⟩ : ∃ H : Heap, H = s.heap := ⟨_, rfl⟩
  have hS : va_S A s.heap H [] := by rw [hH]; exact hS
  rw [← hH] at hP
  obtain ⟨locs, hlocs⟩ : ∃ locs : List Loc, locs = [] := ⟨_, rfl⟩
  rw [← hlocs] at hS
  suffices hgo : W p l e r4_isRoom s m args below meth c H locs 0 0 Q (F0 m 0 ls []) by rw [← hH, ← hlocs]; exact hgo
  clear hH hlocs
  refine x_il hC hl 0 dX4_isRoom_0 rfl rfl ?_
  refine x_if_lt hC 14 dX4_isRoom_1 (by decide) (by omega) (fun c_1 => ?_) (fun c_1 => ?_)
  · refine x_ic hC dX4_isRoom_14 ?_
    exact x_retI (congrArg iI (b2p_f (by omega)).symm) hend hP hD hS dX4_isRoom_15
  · refine x_il hC hl 0 dX4_isRoom_4 rfl rfl ?_
    refine x_bi hC dX4_isRoom_5 (by decide) ?_
    refine x_ic_ge hC 14 dX4_isRoom_7 (by decide) (by omega) (by omega) (fun c_7 => ?_) (fun c_7 => ?_)
    · refine x_ic hC dX4_isRoom_14 ?_
      exact x_retI (congrArg iI (b2p_f (by omega)).symm) hend hP hD hS dX4_isRoom_15
    · refine x_ic hC dX4_isRoom_10 ?_
      refine x_goto hC 15 dX4_isRoom_11 (by decide) ?_
      exact x_retI (congrArg iI (b2p_t (by omega)).symm) hend hP hD hS dX4_isRoom_15
abbrev r4_isRule : Room := { frames := 0, cells := 0, slots := 0, locals := 0 }
set_option maxHeartbeats 4000000 in
set_option maxRecDepth 100000 in
theorem k4_isRule (l : Launch) (D : va_G) (cs : Nat → ClassId) (rule : Int) (g_rule : -2147483648 ≤ rule ∧ rule ≤ 2147483647) : CI l D cs yX4_isRule cX4_isRule 1 .boolean r4_isRule 0 0 [.int (iI rule)] (([] : va_W)) (([] : va_W)) (iI (b2p (0 ≤ rule ∧ rule ≤ 3))) := by
  refine CI_start (own := RX4) (by decide) rfl b2p_nar (Nat.le_of_ble_eq_true rfl) ?_
  intro p e s m args below meth c Q A ls hC hl hP hD hA hS hend
  have hl : lv_has ls 1 [(0, .int (iI rule))] := hl
  obtain ⟨H, hH⟩ : ∃ H : Heap, H = s.heap := ⟨_, rfl⟩
  have hS : va_S A s.heap H [] := by rw [hH]; exact hS
  rw [← hH] at hP
  obtain ⟨locs, hlocs⟩ : ∃ locs : List Loc, locs = [] := ⟨_, rfl⟩
  rw [← hlocs] at hS
  suffices hgo : W p l e r4_isRule s m args below meth c H locs 0 0 Q (F0 m 0 ls []) by rw [← hH, ← hlocs]; exact hgo
  clear hH hlocs
  refine x_il hC hl 0 dX4_isRule_0 rfl rfl ?_
  refine x_if_lt hC 13 dX4_isRule_1 (by decide) (by omega) (fun c_1 => ?_) (fun c_1 => ?_)
  · refine x_ic hC dX4_isRule_13 ?_
    exact x_retI (congrArg iI (b2p_f (by omega)).symm) hend hP hD hS dX4_isRule_14
  · refine x_il hC hl 0 dX4_isRule_4 rfl rfl ?_
    refine x_ic hC dX4_isRule_5 ?_
    refine x_ic_ge hC 13 dX4_isRule_6 (by decide) (by omega) (by omega) (fun c_6 => ?_) (fun c_6 => ?_)
    · refine x_ic hC dX4_isRule_13 ?_
      exact x_retI (congrArg iI (b2p_f (by omega)).symm) hend hP hD hS dX4_isRule_14
    · refine x_ic hC dX4_isRule_9 ?_
      refine x_goto hC 14 dX4_isRule_10 (by decide) ?_
      exact x_retI (congrArg iI (b2p_t (by omega)).symm) hend hP hD hS dX4_isRule_14
abbrev r4_isTalk : Room := { frames := 1, cells := 0, slots := 0, locals := 20 }
set_option maxHeartbeats 4000000 in
set_option maxRecDepth 100000 in
theorem k4_isTalk (l : Launch) (D : va_G) (cs : Nat → ClassId) (first : Int) (en : Int) (size : Int) (g_first : -2147483648 ≤ first ∧ first ≤ 2147483647) (g_en : -2147483648 ≤ en ∧ en ≤ 2147483647) (g_size : -2147483648 ≤ size ∧ size ≤ 2147483647) : CI l D cs yX4_isTalk cX4_isTalk 3 .boolean r4_isTalk 0 0 [.int (iI first), .int (iI en), .int (iI size)] (([] : va_W)) (([] : va_W)) (iI (b2p ((0 ≤ first ∧ first ≤ 47) ∧ (first + 1 ≤ en ∧ en ≤ 48) ∧ (1 ≤ size ∧ size ≤ 9)))) := by
  refine CI_start (own := RX4) (by decide) rfl b2p_nar (Nat.le_of_ble_eq_true rfl) ?_
  intro p e s m args below meth c Q A ls hC hl hP hD hA hS hend
  have hl : lv_has ls 3 [(0, .int (iI first)), (1, .int (iI en)), (2, .int (iI size))] := hl
  obtain ⟨H, hH⟩ : ∃ H : Heap, H = s.heap := ⟨_, rfl⟩
  have hS : va_S A s.heap H [] := by rw [hH]; exact hS
  rw [← hH] at hP
  obtain ⟨locs, hlocs⟩ : ∃ locs : List Loc, locs = [] := ⟨_, rfl⟩
  rw [← hlocs] at hS
  suffices hgo : W p l e r4_isTalk s m args below meth c H locs 0 0 Q (F0 m 0 ls []) by rw [← hH, ← hlocs]; exact hgo
  clear hH hlocs
  refine x_il hC hl 0 dX4_isTalk_0 rfl rfl ?_
  refine x_sI (As := [.int (iI first)]) hC (k4_isHour l D cs first (by first | assumption | omega)) lk4_79 (sub_none hP hD hS hA) hP hS rfl hl.1 rfl (Nat.le_of_ble_eq_true rfl) ⟨rfl, rfl⟩ ⟨Nat.le_of_ble_eq_true rfl, Nat.le_of_ble_eq_true rfl⟩ ⟨Nat.le_of_ble_eq_true rfl, Nat.le_of_ble_eq_true rfl⟩ dX4_isTalk_1 (fun H locs hP hD hS hHs => ?_)
  refine x_if_eq_b hC 29 dX4_isTalk_4 (by decide) (fun c_4 => ?_) (fun c_4 => ?_)
  · refine x_ic hC dX4_isTalk_29 ?_
    exact x_retI (congrArg iI (b2p_f (by omega)).symm) hend hP hD hS dX4_isTalk_30
  · refine x_il hC hl 1 dX4_isTalk_7 rfl rfl ?_
    refine x_il hC hl 0 dX4_isTalk_8 rfl rfl ?_
    refine x_ic_le hC 29 dX4_isTalk_9 (by decide) (by omega) (by omega) (fun c_9 => ?_) (fun c_9 => ?_)
    · refine x_ic hC dX4_isTalk_29 ?_
      exact x_retI (congrArg iI (b2p_f (by omega)).symm) hend hP hD hS dX4_isTalk_30
    · refine x_il hC hl 1 dX4_isTalk_12 rfl rfl ?_
      refine x_bi hC dX4_isTalk_13 (by decide) ?_
      refine x_ic_gt hC 29 dX4_isTalk_15 (by decide) (by omega) (by omega) (fun c_15 => ?_) (fun c_15 => ?_)
      · refine x_ic hC dX4_isTalk_29 ?_
        exact x_retI (congrArg iI (b2p_f (by omega)).symm) hend hP hD hS dX4_isTalk_30
      · refine x_il hC hl 2 dX4_isTalk_18 rfl rfl ?_
        refine x_sI (As := [.int (iI size)]) hC (k4_isSize l D cs size (by first | assumption | omega)) lk4_157 (sub_none hP hD hS hA) hP hS rfl hl.1 rfl (Nat.le_of_ble_eq_true rfl) ⟨rfl, rfl⟩ ⟨Nat.le_of_ble_eq_true rfl, Nat.le_of_ble_eq_true rfl⟩ ⟨Nat.le_of_ble_eq_true rfl, Nat.le_of_ble_eq_true rfl⟩ dX4_isTalk_19 (fun H locs hP hD hS hHs => ?_)
        refine x_if_eq_b hC 29 dX4_isTalk_22 (by decide) (fun c_22 => ?_) (fun c_22 => ?_)
        · refine x_ic hC dX4_isTalk_29 ?_
          exact x_retI (congrArg iI (b2p_f (by omega)).symm) hend hP hD hS dX4_isTalk_30
        · refine x_ic hC dX4_isTalk_25 ?_
          refine x_goto hC 30 dX4_isTalk_26 (by decide) ?_
          exact x_retI (congrArg iI (b2p_t (by omega)).symm) hend hP hD hS dX4_isTalk_30
abbrev r0_copyFrom : Room := { frames := 1, cells := 0, slots := 0, locals := 26 }
set_option maxHeartbeats 4000000 in
set_option maxRecDepth 100000 in
theorem k0_copyFrom (l : Launch) (D : va_G) (cs : Nat → ClassId) (h : Nat → Nat) (k : Nat → Nat) (bO : Nat → Bool) (bG : Int → Int) (bF : Int → Int) (bE : Int → Int) (bZ : Int → Int) (bP : Int → Int) (bR : Int → Int) (bC : Int → Int) (bT : Int → Nat → Bool) (cO : Nat → Bool) (cG : Int → Int) (cF : Int → Int) (cE : Int → Int) (cZ : Int → Int) (cP : Int → Int) (cR : Int → Int) (cC : Int → Int) (cT : Int → Nat → Bool)  : CV l D cs yX0_copyFrom cX0_copyFrom 2 r0_copyFrom 0 0 [.ref (h 0), .ref (k 0)] (wB h cs bO bG bF bE bZ bP bR bC bT ++ (wB k cs cO cG cF cE cZ cP cR cC cT)) (wB h cs cO cG cF cE cZ cP cR cC cT ++ (wB k cs cO cG cF cE cZ cP cR cC cT)) := by
  refine CV_start (own := RX0) (by decide) rfl (Nat.le_of_ble_eq_true rfl) ?_
  intro p e s m args below meth c Q A ls hC hl hP hD hA hS hname hend
  have hl : lv_has ls 2 [(0, .ref (h 0)), (1, .ref (k 0))] := hl
  obtain ⟨H, hH⟩ : ∃ H : Heap, H = s.heap := ⟨_, rfl⟩
  have hS : va_S A s.heap H [] := by rw [hH]; exact hS
  rw [← hH] at hP
  obtain ⟨locs, hlocs⟩ : ∃ locs : List Loc, locs = [] := ⟨_, rfl⟩
  rw [← hlocs] at hS
  suffices hgo : W p l e r0_copyFrom s m args below meth c H locs 0 0 Q (F0 m 0 ls []) by rw [← hH, ← hlocs]; exact hgo
  clear hH hlocs
  refine x_al hC hl 1 dX0_copyFrom_0 rfl rfl ?_
  refine x_get0 (v := .ref (k 1)) hC hP 8 rfl 0 (by decide) tb_96 rfl rfl dX0_copyFrom_1 ?_
  refine x_ic hC dX0_copyFrom_4 ?_
  refine x_al hC hl 0 dX0_copyFrom_5 rfl rfl ?_
  refine x_get0 (v := .ref (h 1)) hC hP 0 rfl 0 (by decide) tb_96 rfl rfl dX0_copyFrom_6 ?_
  refine x_ic hC dX0_copyFrom_9 ?_
  refine x_bi hC dX0_copyFrom_10 (by decide) ?_
  refine x_copI hC hP hD hS 9 1 rfl rfl rfl (by decide) hl.1 tb_222 tb_224 tb_223 tb_77 (Nat.le_of_ble_eq_true rfl) (Nat.le_of_ble_eq_true rfl) dX0_copyFrom_12 (fun H locs hP hD hS => ?_)
  have hP : va_P D vwCl (wB h cs bO bG cF bE bZ bP bR bC bT ++ (wB k cs cO cG cF cE cZ cP cR cC cT)) H := hP
  have hD : va_D A (wB h cs bO bG cF bE bZ bP bR bC bT ++ (wB k cs cO cG cF cE cZ cP cR cC cT)) := hD
  refine x_al hC hl 1 dX0_copyFrom_15 rfl rfl ?_
  refine x_get0 (v := .ref (k 2)) hC hP 8 rfl 1 (by decide) tb_97 rfl rfl dX0_copyFrom_16 ?_
  refine x_ic hC dX0_copyFrom_19 ?_
  refine x_al hC hl 0 dX0_copyFrom_20 rfl rfl ?_
  refine x_get0 (v := .ref (h 2)) hC hP 0 rfl 1 (by decide) tb_97 rfl rfl dX0_copyFrom_21 ?_
  refine x_ic hC dX0_copyFrom_24 ?_
  refine x_bi hC dX0_copyFrom_25 (by decide) ?_
  refine x_copI hC hP hD hS 10 2 rfl rfl rfl (by decide) hl.1 tb_222 tb_224 tb_223 tb_77 (Nat.le_of_ble_eq_true rfl) (Nat.le_of_ble_eq_true rfl) dX0_copyFrom_27 (fun H locs hP hD hS => ?_)
  have hP : va_P D vwCl (wB h cs bO bG cF cE bZ bP bR bC bT ++ (wB k cs cO cG cF cE cZ cP cR cC cT)) H := hP
  have hD : va_D A (wB h cs bO bG cF cE bZ bP bR bC bT ++ (wB k cs cO cG cF cE cZ cP cR cC cT)) := hD
  refine x_al hC hl 1 dX0_copyFrom_30 rfl rfl ?_
  refine x_get0 (v := .ref (k 3)) hC hP 8 rfl 2 (by decide) tb_98 rfl rfl dX0_copyFrom_31 ?_
  refine x_ic hC dX0_copyFrom_34 ?_
  refine x_al hC hl 0 dX0_copyFrom_35 rfl rfl ?_
  refine x_get0 (v := .ref (h 3)) hC hP 0 rfl 2 (by decide) tb_98 rfl rfl dX0_copyFrom_36 ?_
  refine x_ic hC dX0_copyFrom_39 ?_
  refine x_bi hC dX0_copyFrom_40 (by decide) ?_
  refine x_copI hC hP hD hS 11 3 rfl rfl rfl (by decide) hl.1 tb_222 tb_224 tb_223 tb_77 (Nat.le_of_ble_eq_true rfl) (Nat.le_of_ble_eq_true rfl) dX0_copyFrom_42 (fun H locs hP hD hS => ?_)
  have hP : va_P D vwCl (wB h cs bO bG cF cE cZ bP bR bC bT ++ (wB k cs cO cG cF cE cZ cP cR cC cT)) H := hP
  have hD : va_D A (wB h cs bO bG cF cE cZ bP bR bC bT ++ (wB k cs cO cG cF cE cZ cP cR cC cT)) := hD
  refine x_al hC hl 1 dX0_copyFrom_45 rfl rfl ?_
  refine x_get0 (v := .ref (k 4)) hC hP 8 rfl 3 (by decide) tb_99 rfl rfl dX0_copyFrom_46 ?_
  refine x_ic hC dX0_copyFrom_49 ?_
  refine x_al hC hl 0 dX0_copyFrom_50 rfl rfl ?_
  refine x_get0 (v := .ref (h 4)) hC hP 0 rfl 3 (by decide) tb_99 rfl rfl dX0_copyFrom_51 ?_
  refine x_ic hC dX0_copyFrom_54 ?_
  refine x_bi hC dX0_copyFrom_55 (by decide) ?_
  refine x_copI hC hP hD hS 12 4 rfl rfl rfl (by decide) hl.1 tb_222 tb_224 tb_223 tb_77 (Nat.le_of_ble_eq_true rfl) (Nat.le_of_ble_eq_true rfl) dX0_copyFrom_57 (fun H locs hP hD hS => ?_)
  have hP : va_P D vwCl (wB h cs bO bG cF cE cZ cP bR bC bT ++ (wB k cs cO cG cF cE cZ cP cR cC cT)) H := hP
  have hD : va_D A (wB h cs bO bG cF cE cZ cP bR bC bT ++ (wB k cs cO cG cF cE cZ cP cR cC cT)) := hD
  refine x_al hC hl 1 dX0_copyFrom_60 rfl rfl ?_
  refine x_get0 (v := .ref (k 5)) hC hP 8 rfl 4 (by decide) tb_100 rfl rfl dX0_copyFrom_61 ?_
  refine x_ic hC dX0_copyFrom_64 ?_
  refine x_al hC hl 0 dX0_copyFrom_65 rfl rfl ?_
  refine x_get0 (v := .ref (h 5)) hC hP 0 rfl 4 (by decide) tb_100 rfl rfl dX0_copyFrom_66 ?_
  refine x_ic hC dX0_copyFrom_69 ?_
  refine x_bi hC dX0_copyFrom_70 (by decide) ?_
  refine x_copI hC hP hD hS 13 5 rfl rfl rfl (by decide) hl.1 tb_222 tb_224 tb_223 tb_77 (Nat.le_of_ble_eq_true rfl) (Nat.le_of_ble_eq_true rfl) dX0_copyFrom_72 (fun H locs hP hD hS => ?_)
  have hP : va_P D vwCl (wB h cs bO bG cF cE cZ cP cR bC bT ++ (wB k cs cO cG cF cE cZ cP cR cC cT)) H := hP
  have hD : va_D A (wB h cs bO bG cF cE cZ cP cR bC bT ++ (wB k cs cO cG cF cE cZ cP cR cC cT)) := hD
  refine x_al hC hl 1 dX0_copyFrom_75 rfl rfl ?_
  refine x_get0 (v := .ref (k 6)) hC hP 8 rfl 5 (by decide) tb_101 rfl rfl dX0_copyFrom_76 ?_
  refine x_ic hC dX0_copyFrom_79 ?_
  refine x_al hC hl 0 dX0_copyFrom_80 rfl rfl ?_
  refine x_get0 (v := .ref (h 6)) hC hP 0 rfl 5 (by decide) tb_101 rfl rfl dX0_copyFrom_81 ?_
  refine x_ic hC dX0_copyFrom_84 ?_
  refine x_bi hC dX0_copyFrom_85 (by decide) ?_
  refine x_copI hC hP hD hS 14 6 rfl rfl rfl (by decide) hl.1 tb_222 tb_224 tb_223 tb_77 (Nat.le_of_ble_eq_true rfl) (Nat.le_of_ble_eq_true rfl) dX0_copyFrom_87 (fun H locs hP hD hS => ?_)
  have hP : va_P D vwCl (wB h cs bO bG cF cE cZ cP cR cC bT ++ (wB k cs cO cG cF cE cZ cP cR cC cT)) H := hP
  have hD : va_D A (wB h cs bO bG cF cE cZ cP cR cC bT ++ (wB k cs cO cG cF cE cZ cP cR cC cT)) := hD
  refine x_al hC hl 1 dX0_copyFrom_90 rfl rfl ?_
  refine x_get0 (v := .ref (k 7)) hC hP 8 rfl 6 (by decide) tb_102 rfl rfl dX0_copyFrom_91 ?_
  refine x_ic hC dX0_copyFrom_94 ?_
  refine x_al hC hl 0 dX0_copyFrom_95 rfl rfl ?_
  refine x_get0 (v := .ref (h 7)) hC hP 0 rfl 6 (by decide) tb_102 rfl rfl dX0_copyFrom_96 ?_
  refine x_ic hC dX0_copyFrom_99 ?_
  refine x_bi hC dX0_copyFrom_100 (by decide) ?_
  refine x_copJ hC hP hD hS 15 7 rfl rfl rfl (by decide) hl.1 tb_222 tb_224 tb_223 tb_77 (Nat.le_of_ble_eq_true rfl) (Nat.le_of_ble_eq_true rfl) dX0_copyFrom_102 (fun H locs hP hD hS => ?_)
  have hP : va_P D vwCl (wB h cs bO bG cF cE cZ cP cR cC cT ++ (wB k cs cO cG cF cE cZ cP cR cC cT)) H := hP
  have hD : va_D A (wB h cs bO bG cF cE cZ cP cR cC cT ++ (wB k cs cO cG cF cE cZ cP cR cC cT)) := hD
  refine x_al hC hl 0 dX0_copyFrom_105 rfl rfl ?_
  refine x_al hC hl 1 dX0_copyFrom_106 rfl rfl ?_
  refine x_get0 (v := .int (nI (mkN cO 8))) hC hP 8 rfl 7 (by decide) tb_103 rfl rfl dX0_copyFrom_107 ?_
  refine x_put0_7 (o' := cO) hC hP hD hS 0 rfl tb_103 dX0_copyFrom_110 (fun H locs hP hD hS => ?_)
  have hP : va_P D vwCl (wB h cs cO bG cF cE cZ cP cR cC cT ++ (wB k cs cO cG cF cE cZ cP cR cC cT)) H := hP
  have hD : va_D A (wB h cs cO bG cF cE cZ cP cR cC cT ++ (wB k cs cO cG cF cE cZ cP cR cC cT)) := hD
  refine x_al hC hl 0 dX0_copyFrom_113 rfl rfl ?_
  refine x_al hC hl 1 dX0_copyFrom_114 rfl rfl ?_
  refine x_get0 (v := .int (iI (cG 8))) hC hP 8 rfl 8 (by decide) tb_104 rfl rfl dX0_copyFrom_115 ?_
  refine x_put0_8 hC hP hD hS 0 rfl tb_104 dX0_copyFrom_118 (fun H locs hP hD hS => ?_)
  have hP : va_P D vwCl (wB h cs cO (u1 bG 8 (cG 8)) cF cE cZ cP cR cC cT ++ (wB k cs cO cG cF cE cZ cP cR cC cT)) H := hP
  have hD : va_D A (wB h cs cO (u1 bG 8 (cG 8)) cF cE cZ cP cR cC cT ++ (wB k cs cO cG cF cE cZ cP cR cC cT)) := hD
  refine x_al hC hl 0 dX0_copyFrom_121 rfl rfl ?_
  refine x_al hC hl 1 dX0_copyFrom_122 rfl rfl ?_
  refine x_get0 (v := .int (iI (cG 9))) hC hP 8 rfl 9 (by decide) tb_105 rfl rfl dX0_copyFrom_123 ?_
  refine x_put0_9 hC hP hD hS 0 rfl tb_105 dX0_copyFrom_126 (fun H locs hP hD hS => ?_)
  have hP : va_P D vwCl (wB h cs cO (u1 (u1 bG 8 (cG 8)) 9 (cG 9)) cF cE cZ cP cR cC cT ++ (wB k cs cO cG cF cE cZ cP cR cC cT)) H := hP
  have hD : va_D A (wB h cs cO (u1 (u1 bG 8 (cG 8)) 9 (cG 9)) cF cE cZ cP cR cC cT ++ (wB k cs cO cG cF cE cZ cP cR cC cT)) := hD
  refine x_al hC hl 0 dX0_copyFrom_129 rfl rfl ?_
  refine x_al hC hl 1 dX0_copyFrom_130 rfl rfl ?_
  refine x_get0 (v := .int (iI (cG 10))) hC hP 8 rfl 10 (by decide) tb_106 rfl rfl dX0_copyFrom_131 ?_
  refine x_put0_10 hC hP hD hS 0 rfl tb_106 dX0_copyFrom_134 (fun H locs hP hD hS => ?_)
  have hP : va_P D vwCl (wB h cs cO (u1 (u1 (u1 bG 8 (cG 8)) 9 (cG 9)) 10 (cG 10)) cF cE cZ cP cR cC cT ++ (wB k cs cO cG cF cE cZ cP cR cC cT)) H := hP
  have hD : va_D A (wB h cs cO (u1 (u1 (u1 bG 8 (cG 8)) 9 (cG 9)) 10 (cG 10)) cF cE cZ cP cR cC cT ++ (wB k cs cO cG cF cE cZ cP cR cC cT)) := hD
  refine x_al hC hl 0 dX0_copyFrom_137 rfl rfl ?_
  refine x_al hC hl 1 dX0_copyFrom_138 rfl rfl ?_
  refine x_get0 (v := .int (iI (cG 11))) hC hP 8 rfl 11 (by decide) tb_107 rfl rfl dX0_copyFrom_139 ?_
  refine x_put0_11 hC hP hD hS 0 rfl tb_107 dX0_copyFrom_142 (fun H locs hP hD hS => ?_)
  have hP : va_P D vwCl (wB h cs cO (u1 (u1 (u1 (u1 bG 8 (cG 8)) 9 (cG 9)) 10 (cG 10)) 11 (cG 11)) cF cE cZ cP cR cC cT ++ (wB k cs cO cG cF cE cZ cP cR cC cT)) H := hP
  have hD : va_D A (wB h cs cO (u1 (u1 (u1 (u1 bG 8 (cG 8)) 9 (cG 9)) 10 (cG 10)) 11 (cG 11)) cF cE cZ cP cR cC cT ++ (wB k cs cO cG cF cE cZ cP cR cC cT)) := hD
  refine x_al hC hl 0 dX0_copyFrom_145 rfl rfl ?_
  refine x_al hC hl 1 dX0_copyFrom_146 rfl rfl ?_
  refine x_get0 (v := .int (iI (cG 12))) hC hP 8 rfl 12 (by decide) tb_108 rfl rfl dX0_copyFrom_147 ?_
  refine x_put0_12 hC hP hD hS 0 rfl tb_108 dX0_copyFrom_150 (fun H locs hP hD hS => ?_)
  have hP : va_P D vwCl (wB h cs cO (u1 (u1 (u1 (u1 (u1 bG 8 (cG 8)) 9 (cG 9)) 10 (cG 10)) 11 (cG 11)) 12 (cG 12)) cF cE cZ cP cR cC cT ++ (wB k cs cO cG cF cE cZ cP cR cC cT)) H := hP
  have hD : va_D A (wB h cs cO (u1 (u1 (u1 (u1 (u1 bG 8 (cG 8)) 9 (cG 9)) 10 (cG 10)) 11 (cG 11)) 12 (cG 12)) cF cE cZ cP cR cC cT ++ (wB k cs cO cG cF cE cZ cP cR cC cT)) := hD
  have eww : (wB h cs cO (u1 (u1 (u1 (u1 (u1 bG 8 (cG 8)) 9 (cG 9)) 10 (cG 10)) 11 (cG 11)) 12 (cG 12)) cF cE cZ cP cR cC cT ++ (wB k cs cO cG cF cE cZ cP cR cC cT)) = (wB h cs cO cG cF cE cZ cP cR cC cT ++ (wB k cs cO cG cF cE cZ cP cR cC cT)) := by rfl
  have hP := vPe hP eww
  have hD := vDe hD eww
  exact hend H locs 153 ls hP hD hS dX0_copyFrom_153
abbrev r0_isOpen : Room := { frames := 0, cells := 0, slots := 0, locals := 0 }
set_option maxHeartbeats 4000000 in
set_option maxRecDepth 100000 in
theorem k0_isOpen (l : Launch) (D : va_G) (cs : Nat → ClassId) (h : Nat → Nat) (bO : Nat → Bool) (bG : Int → Int) (bF : Int → Int) (bE : Int → Int) (bZ : Int → Int) (bP : Int → Int) (bR : Int → Int) (bC : Int → Int) (bT : Int → Nat → Bool) (room : Int) (h1 : 0 ≤ room ∧ room < 8) : CI l D cs yX0_isOpen cX0_isOpen 2 .boolean r0_isOpen 0 0 [.ref (h 0), .int (iI room)] (wB h cs bO bG bF bE bZ bP bR bC bT) (wB h cs bO bG bF bE bZ bP bR bC bT) (iI (b2p (bO room.toNat = true))) := by
  refine CI_start (own := RX0) (by decide) rfl b2p_nar (Nat.le_of_ble_eq_true rfl) ?_
  intro p e s m args below meth c Q A ls hC hl hP hD hA hS hend
  have hl : lv_has ls 2 [(0, .ref (h 0)), (1, .int (iI room))] := hl
  obtain ⟨H, hH⟩ : ∃ H : Heap, H = s.heap := ⟨_, rfl⟩
  have hS : va_S A s.heap H [] := by rw [hH]; exact hS
  rw [← hH] at hP
  obtain ⟨locs, hlocs⟩ : ∃ locs : List Loc, locs = [] := ⟨_, rfl⟩
  rw [← hlocs] at hS
  suffices hgo : W p l e r0_isOpen s m args below meth c H locs 0 0 Q (F0 m 0 ls []) by rw [← hH, ← hlocs]; exact hgo
  clear hH hlocs
  refine x_al hC hl 0 dX0_isOpen_0 rfl rfl ?_
  refine x_get0 (v := .int (nI (mkN bO 8))) hC hP 0 rfl 7 (by decide) tb_103 rfl rfl dX0_isOpen_1 ?_
  refine x_il hC hl 1 dX0_isOpen_4 rfl rfl ?_
  refine x_ishr hC dX0_isOpen_5 (nI (mkN bO 8) >>> (iI room &&& 31)) rfl ?_
  refine x_ic hC dX0_isOpen_6 ?_
  refine x_iand hC dX0_isOpen_7 (iI (b2p (bO room.toNat = true))) (opBit bO room (by omega)) ?_
  refine x_ic hC dX0_isOpen_8 ?_
  refine x_ic_ne hC 16 dX0_isOpen_9 (by decide) (by first | exact b2p_rg _ | omega) (by first | exact b2p_rg _ | omega) (fun c_9 => ?_) (fun c_9 => ?_)
  · refine x_ic hC dX0_isOpen_16 ?_
    exact x_retI (congrArg iI (b2p_f (by first | exact b2p_1.mp c_9 | exact fun h => c_9 (b2p_1.mpr h))).symm) hend hP hD hS dX0_isOpen_17
  · refine x_ic hC dX0_isOpen_12 ?_
    refine x_goto hC 17 dX0_isOpen_13 (by decide) ?_
    exact x_retI (congrArg iI (b2p_t (by first | exact b2p_1.mp c_9 | exact fun h => c_9 (b2p_1.mpr h))).symm) hend hP hD hS dX0_isOpen_17
abbrev r0_hoursOf : Room := { frames := 0, cells := 0, slots := 0, locals := 0 }
set_option maxHeartbeats 4000000 in
set_option maxRecDepth 100000 in
theorem k0_hoursOf (l : Launch) (D : va_G) (cs : Nat → ClassId) (begin : Int) (stop : Int) (h1 : 0 ≤ begin ∧ begin < stop ∧ stop ≤ 48) : CL l D cs yX0_hoursOf cX0_hoursOf 2 r0_hoursOf 0 0 [.int (iI begin), .int (iI stop)] (([] : va_W)) (([] : va_W)) (lN (mkN (iv begin stop) 48)) := by
  refine CL_start (own := RX0) (by decide) rfl (Nat.le_of_ble_eq_true rfl) ?_
  intro p e s m args below meth c Q A ls hC hl hP hD hA hS hend
  have hl : lv_has ls 2 [(0, .int (iI begin)), (1, .int (iI stop))] := hl
  obtain ⟨H, hH⟩ : ∃ H : Heap, H = s.heap := ⟨_, rfl⟩
  have hS : va_S A s.heap H [] := by rw [hH]; exact hS
  rw [← hH] at hP
  obtain ⟨locs, hlocs⟩ : ∃ locs : List Loc, locs = [] := ⟨_, rfl⟩
  rw [← hlocs] at hS
  suffices hgo : W p l e r0_hoursOf s m args below meth c H locs 0 0 Q (F0 m 0 ls []) by rw [← hH, ← hlocs]; exact hgo
  clear hH hlocs
  refine x_lc (v := 1) hC dX0_hoursOf_0 rfl ?_
  refine x_il hC hl 1 dX0_hoursOf_1 rfl rfl ?_
  refine x_il hC hl 0 dX0_hoursOf_2 rfl rfl ?_
  refine x_isub hC dX0_hoursOf_3 ?_
  refine x_lshl hC dX0_hoursOf_4 ((1 : Int64) <<< ((iI (stop - begin)).toInt64 &&& 63)) rfl ?_
  refine x_lc (v := 1) hC dX0_hoursOf_5 rfl ?_
  refine x_lsub hC dX0_hoursOf_6 (((1 : Int64) <<< ((iI (stop - begin)).toInt64 &&& 63)) - 1) rfl ?_
  refine x_il hC hl 0 dX0_hoursOf_7 rfl rfl ?_
  refine x_lshl hC dX0_hoursOf_8 (lN (mkN (iv begin stop) 48)) (hrsEq _ _ h1) ?_
  exact x_retL (rfl) hend hP hD hS dX0_hoursOf_9
abbrev r0_canHold : Room := { frames := 0, cells := 0, slots := 0, locals := 0 }
set_option maxHeartbeats 4000000 in
set_option maxRecDepth 100000 in
theorem k0_canHold (l : Launch) (D : va_G) (cs : Nat → ClassId) (h : Nat → Nat) (bO : Nat → Bool) (bG : Int → Int) (bF : Int → Int) (bE : Int → Int) (bZ : Int → Int) (bP : Int → Int) (bR : Int → Int) (bC : Int → Int) (bT : Int → Nat → Bool) (room : Int) (need : Int) (hours : Nat → Bool) (hB : IB bF bE bZ bP bR bC) (h1 : 0 ≤ room ∧ room < 8) (g_need : -2147483648 ≤ need ∧ need ≤ 2147483647) : CI l D cs yX0_canHold cX0_canHold 5 .boolean r0_canHold 0 0 [.ref (h 0), .int (iI room), .int (iI need), .long (lN (mkN hours 48))] (wB h cs bO bG bF bE bZ bP bR bC bT) (wB h cs bO bG bF bE bZ bP bR bC bT) (iI (b2p (bHold bR bT room need hours))) := by
  refine CI_start (own := RX0) (by decide) rfl b2p_nar (Nat.le_of_ble_eq_true rfl) ?_
  intro p e s m args below meth c Q A ls hC hl hP hD hA hS hend
  have hl : lv_has ls 5 [(0, .ref (h 0)), (1, .int (iI room)), (2, .int (iI need)), (3, .long (lN (mkN hours 48)))] := hl
  obtain ⟨H, hH⟩ : ∃ H : Heap, H = s.heap := ⟨_, rfl⟩
  have hS : va_S A s.heap H [] := by rw [hH]; exact hS
  rw [← hH] at hP
  obtain ⟨locs, hlocs⟩ : ∃ locs : List Loc, locs = [] := ⟨_, rfl⟩
  rw [← hlocs] at hS
  suffices hgo : W p l e r0_canHold s m args below meth c H locs 0 0 Q (F0 m 0 ls []) by rw [← hH, ← hlocs]; exact hgo
  clear hH hlocs
  have qr := ibR hB room h1
  refine x_al hC hl 0 dX0_canHold_0 rfl rfl ?_
  refine x_get0 (v := .ref (h 5)) hC hP 0 rfl 4 (by decide) tb_100 rfl rfl dX0_canHold_1 ?_
  refine x_il hC hl 1 dX0_canHold_4 rfl rfl ?_
  refine x_iald hC hP 5 rfl (by omega) (by decide) dX0_canHold_5 ?_
  refine x_il hC hl 2 dX0_canHold_6 rfl rfl ?_
  refine x_ic_lt hC 27 dX0_canHold_7 (by decide) (by omega) (by omega) (fun c_7 => ?_) (fun c_7 => ?_)
  · refine x_ic hC dX0_canHold_27 ?_
    exact x_retI (congrArg iI (b2p_f (by unfold bHold; first | exact ⟨by omega, c_20⟩ | exact fun h => c_20 h.2 | exact fun h => by have := h.1; omega)).symm) hend hP hD hS dX0_canHold_28
  · refine x_al hC hl 0 dX0_canHold_10 rfl rfl ?_
    refine x_get0 (v := .ref (h 7)) hC hP 0 rfl 6 (by decide) tb_102 rfl rfl dX0_canHold_11 ?_
    refine x_il hC hl 1 dX0_canHold_14 rfl rfl ?_
    refine x_lald hC hP 7 rfl (by omega) (by decide) dX0_canHold_15 ?_
    refine x_ll hC hl 3 dX0_canHold_16 rfl rfl ?_
    refine x_land hC dX0_canHold_17 (lN (mkN (fun k => bT room k && hours k) 48)) (andHrs _ _) ?_
    refine x_lc (v := 0) hC dX0_canHold_18 rfl ?_
    refine W.lcmp hC.1 hC.2.1 dX0_canHold_19 ?_
    refine lv_if_ne (tgt := 27) hC.1 hC.2.1 dX0_canHold_20 (by decide) (fun c_20 => ?_) (fun c_20 => ?_)
    · rw [lz] at c_20
      refine x_ic hC dX0_canHold_27 ?_
      exact x_retI (congrArg iI (b2p_f (by unfold bHold; first | exact ⟨by omega, c_20⟩ | exact fun h => c_20 h.2 | exact fun h => by have := h.1; omega)).symm) hend hP hD hS dX0_canHold_28
    · rw [lz] at c_20
      refine x_ic hC dX0_canHold_23 ?_
      refine x_goto hC 28 dX0_canHold_24 (by decide) ?_
      exact x_retI (congrArg iI (b2p_t (by unfold bHold; first | exact ⟨by omega, c_20⟩ | exact fun h => c_20 h.2 | exact fun h => by have := h.1; omega)).symm) hend hP hD hS dX0_canHold_28
abbrev r0_isTaken : Room := { frames := 0, cells := 0, slots := 0, locals := 0 }
set_option maxHeartbeats 4000000 in
set_option maxRecDepth 100000 in
theorem k0_isTaken (l : Launch) (D : va_G) (cs : Nat → ClassId) (h : Nat → Nat) (bO : Nat → Bool) (bG : Int → Int) (bF : Int → Int) (bE : Int → Int) (bZ : Int → Int) (bP : Int → Int) (bR : Int → Int) (bC : Int → Int) (bT : Int → Nat → Bool) (room : Int) (hour : Int) (h1 : 0 ≤ room ∧ room < 8) (h2 : 0 ≤ hour ∧ hour < 48) : CI l D cs yX0_isTaken cX0_isTaken 3 .boolean r0_isTaken 0 0 [.ref (h 0), .int (iI room), .int (iI hour)] (wB h cs bO bG bF bE bZ bP bR bC bT) (wB h cs bO bG bF bE bZ bP bR bC bT) (iI (b2p (bT room hour.toNat = true))) := by
  refine CI_start (own := RX0) (by decide) rfl b2p_nar (Nat.le_of_ble_eq_true rfl) ?_
  intro p e s m args below meth c Q A ls hC hl hP hD hA hS hend
  have hl : lv_has ls 3 [(0, .ref (h 0)), (1, .int (iI room)), (2, .int (iI hour))] := hl
  obtain ⟨H, hH⟩ : ∃ H : Heap, H = s.heap := ⟨_, rfl⟩
  have hS : va_S A s.heap H [] := by rw [hH]; exact hS
  rw [← hH] at hP
  obtain ⟨locs, hlocs⟩ : ∃ locs : List Loc, locs = [] := ⟨_, rfl⟩
  rw [← hlocs] at hS
  suffices hgo : W p l e r0_isTaken s m args below meth c H locs 0 0 Q (F0 m 0 ls []) by rw [← hH, ← hlocs]; exact hgo
  clear hH hlocs
  refine x_al hC hl 0 dX0_isTaken_0 rfl rfl ?_
  refine x_get0 (v := .ref (h 7)) hC hP 0 rfl 6 (by decide) tb_102 rfl rfl dX0_isTaken_1 ?_
  refine x_il hC hl 1 dX0_isTaken_4 rfl rfl ?_
  refine x_lald hC hP 7 rfl (by omega) (by decide) dX0_isTaken_5 ?_
  refine x_il hC hl 2 dX0_isTaken_6 rfl rfl ?_
  refine x_lshr hC dX0_isTaken_7 ((lN (mkN (bT room) 48)) >>> ((iI hour).toInt64 &&& 63)) rfl ?_
  refine x_lc (v := 1) hC dX0_isTaken_8 rfl ?_
  refine x_land hC dX0_isTaken_9 (lN (bn (bT room hour.toNat))) (tkBit _ _ (by omega)) ?_
  refine x_lc (v := 1) hC dX0_isTaken_10 rfl ?_
  refine W.lcmp hC.1 hC.2.1 dX0_isTaken_11 ?_
  refine lv_if_ne (tgt := 19) hC.1 hC.2.1 dX0_isTaken_12 (by decide) (fun c_12 => ?_) (fun c_12 => ?_)
  · rw [lbn1] at c_12
    refine x_ic hC dX0_isTaken_19 ?_
    exact x_retI (congrArg iI (b2p_f (by first | exact c_12)).symm) hend hP hD hS dX0_isTaken_20
  · rw [lbn1] at c_12
    refine x_ic hC dX0_isTaken_15 ?_
    refine x_goto hC 20 dX0_isTaken_16 (by decide) ?_
    exact x_retI (congrArg iI (b2p_t (by first | exact c_12)).symm) hend hP hD hS dX0_isTaken_20
abbrev r0_takesHour : Room := { frames := 0, cells := 0, slots := 0, locals := 0 }
set_option maxHeartbeats 4000000 in
set_option maxRecDepth 100000 in
theorem k0_takesHour (l : Launch) (D : va_G) (cs : Nat → ClassId) (h : Nat → Nat) (bO : Nat → Bool) (bG : Int → Int) (bF : Int → Int) (bE : Int → Int) (bZ : Int → Int) (bP : Int → Int) (bR : Int → Int) (bC : Int → Int) (bT : Int → Nat → Bool) (talk : Int) (hour : Int) (hB : IB bF bE bZ bP bR bC) (h1 : 0 ≤ talk ∧ talk < 20) (g_hour : -2147483648 ≤ hour ∧ hour ≤ 2147483647) : CI l D cs yX0_takesHour cX0_takesHour 3 .boolean r0_takesHour 0 0 [.ref (h 0), .int (iI talk), .int (iI hour)] (wB h cs bO bG bF bE bZ bP bR bC bT) (wB h cs bO bG bF bE bZ bP bR bC bT) (iI (b2p (¬ bP talk = -1 ∧ bF talk ≤ hour ∧ hour < bE talk))) := by
  refine CI_start (own := RX0) (by decide) rfl b2p_nar (Nat.le_of_ble_eq_true rfl) ?_
  intro p e s m args below meth c Q A ls hC hl hP hD hA hS hend
  have hl : lv_has ls 3 [(0, .ref (h 0)), (1, .int (iI talk)), (2, .int (iI hour))] := hl
  obtain ⟨H, hH⟩ : ∃ H : Heap, H = s.heap := ⟨_, rfl⟩
  have hS : va_S A s.heap H [] := by rw [hH]; exact hS
  rw [← hH] at hP
  obtain ⟨locs, hlocs⟩ : ∃ locs : List Loc, locs = [] := ⟨_, rfl⟩
  rw [← hlocs] at hS
  suffices hgo : W p l e r0_takesHour s m args below meth c H locs 0 0 Q (F0 m 0 ls []) by rw [← hH, ← hlocs]; exact hgo
  clear hH hlocs
  have qt := ibT hB talk h1
  refine x_al hC hl 0 dX0_takesHour_0 rfl rfl ?_
  refine x_get0 (v := .ref (h 4)) hC hP 0 rfl 3 (by decide) tb_99 rfl rfl dX0_takesHour_1 ?_
  refine x_il hC hl 1 dX0_takesHour_4 rfl rfl ?_
  refine x_iald hC hP 4 rfl (by omega) (by decide) dX0_takesHour_5 ?_
  refine x_ic hC dX0_takesHour_6 ?_
  refine x_ic_eq hC 34 dX0_takesHour_7 (by decide) (by omega) (by omega) (fun c_7 => ?_) (fun c_7 => ?_)
  · refine x_ic hC dX0_takesHour_34 ?_
    exact x_retI (congrArg iI (b2p_f (by omega)).symm) hend hP hD hS dX0_takesHour_35
  · refine x_al hC hl 0 dX0_takesHour_10 rfl rfl ?_
    refine x_get0 (v := .ref (h 1)) hC hP 0 rfl 0 (by decide) tb_96 rfl rfl dX0_takesHour_11 ?_
    refine x_il hC hl 1 dX0_takesHour_14 rfl rfl ?_
    refine x_iald hC hP 1 rfl (by omega) (by decide) dX0_takesHour_15 ?_
    refine x_il hC hl 2 dX0_takesHour_16 rfl rfl ?_
    refine x_ic_gt hC 34 dX0_takesHour_17 (by decide) (by omega) (by omega) (fun c_17 => ?_) (fun c_17 => ?_)
    · refine x_ic hC dX0_takesHour_34 ?_
      exact x_retI (congrArg iI (b2p_f (by omega)).symm) hend hP hD hS dX0_takesHour_35
    · refine x_il hC hl 2 dX0_takesHour_20 rfl rfl ?_
      refine x_al hC hl 0 dX0_takesHour_21 rfl rfl ?_
      refine x_get0 (v := .ref (h 2)) hC hP 0 rfl 1 (by decide) tb_97 rfl rfl dX0_takesHour_22 ?_
      refine x_il hC hl 1 dX0_takesHour_25 rfl rfl ?_
      refine x_iald hC hP 2 rfl (by omega) (by decide) dX0_takesHour_26 ?_
      refine x_ic_ge hC 34 dX0_takesHour_27 (by decide) (by omega) (by omega) (fun c_27 => ?_) (fun c_27 => ?_)
      · refine x_ic hC dX0_takesHour_34 ?_
        exact x_retI (congrArg iI (b2p_f (by omega)).symm) hend hP hD hS dX0_takesHour_35
      · refine x_ic hC dX0_takesHour_30 ?_
        refine x_goto hC 35 dX0_takesHour_31 (by decide) ?_
        exact x_retI (congrArg iI (b2p_t (by omega)).symm) hend hP hD hS dX0_takesHour_35
abbrev r0_placeOf : Room := { frames := 0, cells := 0, slots := 0, locals := 0 }
set_option maxHeartbeats 4000000 in
set_option maxRecDepth 100000 in
theorem k0_placeOf (l : Launch) (D : va_G) (cs : Nat → ClassId) (h : Nat → Nat) (bO : Nat → Bool) (bG : Int → Int) (bF : Int → Int) (bE : Int → Int) (bZ : Int → Int) (bP : Int → Int) (bR : Int → Int) (bC : Int → Int) (bT : Int → Nat → Bool) (talk : Int) (g_talk : -2147483648 ≤ talk ∧ talk ≤ 2147483647) : CI l D cs yX0_placeOf cX0_placeOf 2 .int r0_placeOf 0 0 [.ref (h 0), .int (iI talk)] (wB h cs bO bG bF bE bZ bP bR bC bT) (wB h cs bO bG bF bE bZ bP bR bC bT) (iI (bPl bP talk)) := by
  refine CI_start (own := RX0) (by decide) rfl rfl (Nat.le_of_ble_eq_true rfl) ?_
  intro p e s m args below meth c Q A ls hC hl hP hD hA hS hend
  have hl : lv_has ls 2 [(0, .ref (h 0)), (1, .int (iI talk))] := hl
  obtain ⟨H, hH⟩ : ∃ H : Heap, H = s.heap := ⟨_, rfl⟩
  have hS : va_S A s.heap H [] := by rw [hH]; exact hS
  rw [← hH] at hP
  obtain ⟨locs, hlocs⟩ : ∃ locs : List Loc, locs = [] := ⟨_, rfl⟩
  rw [← hlocs] at hS
  suffices hgo : W p l e r0_placeOf s m args below meth c H locs 0 0 Q (F0 m 0 ls []) by rw [← hH, ← hlocs]; exact hgo
  clear hH hlocs
  refine x_il hC hl 1 dX0_placeOf_0 rfl rfl ?_
  refine x_if_lt hC 19 dX0_placeOf_1 (by decide) (by omega) (fun c_1 => ?_) (fun c_1 => ?_)
  · refine x_ic hC dX0_placeOf_19 ?_
    exact x_retI (congrArg iI (by unfold bPl; first | exact (iif_t (by omega)).symm | exact (iif_f (by omega)).symm : (-1) = bPl bP talk)) hend hP hD hS dX0_placeOf_20
  · refine x_il hC hl 1 dX0_placeOf_4 rfl rfl ?_
    refine x_bi hC dX0_placeOf_5 (by decide) ?_
    refine x_ic_ge hC 19 dX0_placeOf_7 (by decide) (by omega) (by omega) (fun c_7 => ?_) (fun c_7 => ?_)
    · refine x_ic hC dX0_placeOf_19 ?_
      exact x_retI (congrArg iI (by unfold bPl; first | exact (iif_t (by omega)).symm | exact (iif_f (by omega)).symm : (-1) = bPl bP talk)) hend hP hD hS dX0_placeOf_20
    · refine x_al hC hl 0 dX0_placeOf_10 rfl rfl ?_
      refine x_get0 (v := .ref (h 4)) hC hP 0 rfl 3 (by decide) tb_99 rfl rfl dX0_placeOf_11 ?_
      refine x_il hC hl 1 dX0_placeOf_14 rfl rfl ?_
      refine x_iald hC hP 4 rfl (by omega) (by decide) dX0_placeOf_15 ?_
      refine x_goto hC 20 dX0_placeOf_16 (by decide) ?_
      exact x_retI (congrArg iI (by unfold bPl; first | exact (iif_t (by omega)).symm | exact (iif_f (by omega)).symm : bP talk = bPl bP talk)) hend hP hD hS dX0_placeOf_20
abbrev r0_gapAhead : Room := { frames := 0, cells := 0, slots := 0, locals := 0 }
set_option maxHeartbeats 4000000 in
set_option maxRecDepth 100000 in
theorem k0_gapAhead (l : Launch) (D : va_G) (cs : Nat → ClassId) (h : Nat → Nat) (bO : Nat → Bool) (bG : Int → Int) (bF : Int → Int) (bE : Int → Int) (bZ : Int → Int) (bP : Int → Int) (bR : Int → Int) (bC : Int → Int) (bT : Int → Nat → Bool) (room : Int) (begin : Int) (h1 : 0 ≤ room ∧ room < 8) (h2 : 0 ≤ begin ∧ begin < 48) : CI l D cs yX0_gapAhead cX0_gapAhead 6 .int r0_gapAhead 0 0 [.ref (h 0), .int (iI room), .int (iI begin)] (wB h cs bO bG bF bE bZ bP bR bC bT) (wB h cs bO bG bF bE bZ bP bR bC bT) (iI (bGap bT room begin)) := by
  refine CI_start (own := RX0) (by decide) rfl rfl (Nat.le_of_ble_eq_true rfl) ?_
  intro p e s m args below meth c Q A ls hC hl hP hD hA hS hend
  have hl : lv_has ls 6 [(0, .ref (h 0)), (1, .int (iI room)), (2, .int (iI begin))] := hl
  obtain ⟨H, hH⟩ : ∃ H : Heap, H = s.heap := ⟨_, rfl⟩
  have hS : va_S A s.heap H [] := by rw [hH]; exact hS
  rw [← hH] at hP
  obtain ⟨locs, hlocs⟩ : ∃ locs : List Loc, locs = [] := ⟨_, rfl⟩
  rw [← hlocs] at hS
  suffices hgo : W p l e r0_gapAhead s m args below meth c H locs 0 0 Q (F0 m 0 ls []) by rw [← hH, ← hlocs]; exact hgo
  clear hH hlocs
  refine x_al hC hl 0 dX0_gapAhead_0 rfl rfl ?_
  refine x_get0 (v := .ref (h 7)) hC hP 0 rfl 6 (by decide) tb_102 rfl rfl dX0_gapAhead_1 ?_
  refine x_il hC hl 1 dX0_gapAhead_4 rfl rfl ?_
  refine x_lald hC hP 7 rfl (by omega) (by decide) dX0_gapAhead_5 ?_
  refine x_ls hC [(3, .long (lN (mkN (bT room) 48))), (0, .ref (h 0)), (1, .int (iI room)), (2, .int (iI begin))] hl dX0_gapAhead_6 rfl (by decide) rfl (fun ls hl => ?_)
  refine x_ic hC dX0_gapAhead_7 ?_
  refine x_isw hC [(5, .int (iI 0)), (3, .long (lN (mkN (bT room) 48))), (0, .ref (h 0)), (1, .int (iI room)), (2, .int (iI begin))] hl dX0_gapAhead_8 (by decide) rfl (fun ls hl => ?_)
  have loop_10 : ∀ (n : Nat) (i : Int), (hi0 : 0 ≤ i) → (hiN : i ≤ begin) → (hf : fstI (fun g => bT room (begin - 1 - g).toNat = true) begin (begin - i).toNat i = bGap bT room begin) → (begin - i) < (n : Int) → ∀ (H : Heap) (locs : List Loc) (ls : Array Slot), va_P D vwCl (wB h cs bO bG bF bE bZ bP bR bC bT) H → va_D A (wB h cs bO bG bF bE bZ bP bR bC bT) → va_S A s.heap H locs → lv_has ls 6 [(5, .int (iI i)), (3, .long (lN (mkN (bT room) 48))), (0, .ref (h 0)), (1, .int (iI room)), (2, .int (iI begin))] → W p l e r0_gapAhead s m args below meth c H locs 0 0 Q (F0 m 10 ls []) := by
    intro n
    induction n with
    | zero =>
      intro i hi0 hiN hf hnn
      exfalso; omega
    | succ n ih_10 =>
      intro i hi0 hiN hf hnn H locs ls hP hD hS hl
      refine x_ilw hC hl 0 dX0_gapAhead_10 rfl ?_
      refine x_il hC hl 4 dX0_gapAhead_12 rfl rfl ?_
      refine x_ic_ge hC 37 dX0_gapAhead_13 (by decide) (by omega) (by omega) (fun c_13 => ?_) (fun c_13 => ?_)
      · refine x_ilw hC hl 0 dX0_gapAhead_37 rfl ?_
        exact x_retI (congrArg iI (by first | exact (fstI_t (by omega) c_28).symm.trans hf | (rw [← hf, fstI_e (by omega)]; omega) : i = bGap bT room begin)) hend hP hD hS dX0_gapAhead_39
      · refine x_ll hC hl 1 dX0_gapAhead_16 rfl rfl ?_
        refine x_il hC hl 4 dX0_gapAhead_17 rfl rfl ?_
        refine x_ic hC dX0_gapAhead_18 ?_
        refine x_isub hC dX0_gapAhead_19 ?_
        refine x_ilw hC hl 0 dX0_gapAhead_20 rfl ?_
        refine x_isub hC dX0_gapAhead_22 ?_
        refine x_lshr hC dX0_gapAhead_23 ((lN (mkN (bT room) 48)) >>> ((iI (begin - 1 - i)).toInt64 &&& 63)) rfl ?_
        refine x_lc (v := 1) hC dX0_gapAhead_24 rfl ?_
        refine x_land hC dX0_gapAhead_25 (lN (bn (bT room (begin - 1 - i).toNat))) (tkBit _ _ (by omega)) ?_
        refine x_lc (v := 0) hC dX0_gapAhead_26 rfl ?_
        refine W.lcmp hC.1 hC.2.1 dX0_gapAhead_27 ?_
        refine lv_if_ne (tgt := 37) hC.1 hC.2.1 dX0_gapAhead_28 (by decide) (fun c_28 => ?_) (fun c_28 => ?_)
        · have c_28 : bT room (begin - 1 - i).toNat = true := by rw [lbn0] at c_28; simpa using c_28
          refine x_ilw hC hl 0 dX0_gapAhead_37 rfl ?_
          exact x_retI (congrArg iI (by first | exact (fstI_t (by omega) c_28).symm.trans hf | (rw [← hf, fstI_e (by omega)]; omega) : i = bGap bT room begin)) hend hP hD hS dX0_gapAhead_39
        · have c_28 : bT room (begin - 1 - i).toNat = false := (lbn0 _).mp c_28
          refine x_iinc hC [(5, .int (iI (i + 1))), (3, .long (lN (mkN (bT room) 48))), (0, .ref (h 0)), (1, .int (iI room)), (2, .int (iI begin))] 0 hl dX0_gapAhead_31 rfl (by decide) rfl (fun ls hl => ?_)
          refine x_goto hC 10 dX0_gapAhead_34 (by decide) ?_
          have hl := lv_sub (l' := [(5, .int (iI (i + 1))), (3, .long (lN (mkN (bT room) 48))), (0, .ref (h 0)), (1, .int (iI room)), (2, .int (iI begin))]) hl [0, 1, 2, 3, 4] rfl
          exact ih_10 (i + 1) (by omega) (by omega) ((fstI_f (by omega) (by rw [c_28]; exact Bool.noConfusion)).symm.trans hf) (by omega) H locs ls hP hD hS hl
  have hl := lv_sub (l' := [(5, .int (iI 0)), (3, .long (lN (mkN (bT room) 48))), (0, .ref (h 0)), (1, .int (iI room)), (2, .int (iI begin))]) hl [0, 1, 2, 3, 4] rfl
  exact loop_10 (Int.toNat (begin - 0) + 1) 0 (by omega) (by omega) rfl (by omega) H locs ls hP hD hS hl
abbrev r0_rankByRule : Room := { frames := 1, cells := 0, slots := 0, locals := 25 }
set_option maxHeartbeats 4000000 in
set_option maxRecDepth 100000 in
theorem k0_rankByRule (l : Launch) (D : va_G) (cs : Nat → ClassId) (h : Nat → Nat) (bO : Nat → Bool) (bG : Int → Int) (bF : Int → Int) (bE : Int → Int) (bZ : Int → Int) (bP : Int → Int) (bR : Int → Int) (bC : Int → Int) (bT : Int → Nat → Bool) (room : Int) (begin : Int) (byRule : Int) (hB : IB bF bE bZ bP bR bC) (h1 : 0 ≤ room ∧ room < 8) (h2 : 0 ≤ begin ∧ begin < 48) (h3 : 0 ≤ byRule ∧ byRule ≤ 3) : CI l D cs yX0_rankByRule cX0_rankByRule 4 .int r0_rankByRule 0 0 [.ref (h 0), .int (iI room), .int (iI begin), .int (iI byRule)] (wB h cs bO bG bF bE bZ bP bR bC bT) (wB h cs bO bG bF bE bZ bP bR bC bT) (iI (bRank bR bT room begin byRule)) := by
  refine CI_start (own := RX0) (by decide) rfl rfl (Nat.le_of_ble_eq_true rfl) ?_
  intro p e s m args below meth c Q A ls hC hl hP hD hA hS hend
  have hl : lv_has ls 4 [(0, .ref (h 0)), (1, .int (iI room)), (2, .int (iI begin)), (3, .int (iI byRule))] := hl
  obtain ⟨H, hH⟩ : ∃ H : Heap, H = s.heap := ⟨_, rfl⟩
  have hS : va_S A s.heap H [] := by rw [hH]; exact hS
  rw [← hH] at hP
  obtain ⟨locs, hlocs⟩ : ∃ locs : List Loc, locs = [] := ⟨_, rfl⟩
  rw [← hlocs] at hS
  suffices hgo : W p l e r0_rankByRule s m args below meth c H locs 0 0 Q (F0 m 0 ls []) by rw [← hH, ← hlocs]; exact hgo
  clear hH hlocs
  refine x_il hC hl 3 dX0_rankByRule_0 rfl rfl ?_
  by_cases c_1_1 : byRule = 1
  · refine x_tsIn hC 28 dX0_rankByRule_1 (by rw [c_1_1]; omega) (by rw [c_1_1]; decide) (by rw [c_1_1]; decide) (by rw [c_1_1]; rfl) (by decide) ?_
    refine x_al hC hl 0 dX0_rankByRule_28 rfl rfl ?_
    refine x_il hC hl 1 dX0_rankByRule_29 rfl rfl ?_
    refine x_il hC hl 2 dX0_rankByRule_30 rfl rfl ?_
    refine x_vI (As := [.int (iI room), .int (iI begin)]) hC (k0_gapAhead l D cs h bO bG bF bE bZ bP bR bC bT room begin (by first | assumption | omega) (by first | assumption | omega)) lk0_127 (q0 := 0) (ci := 0) rfl rfl rfl (sub_all hP hD hS hA) hP hS rfl hl.1 rfl (Nat.le_of_ble_eq_true rfl) ⟨rfl, rfl⟩ ⟨Nat.le_of_ble_eq_true rfl, Nat.le_of_ble_eq_true rfl⟩ ⟨Nat.le_of_ble_eq_true rfl, Nat.le_of_ble_eq_true rfl⟩ dX0_rankByRule_31 (fun H locs hP hD hS hHs => ?_)
    have q_31 := bGap_rg bT room (b := begin) (by omega)
    exact x_retI (congrArg iI (by unfold bRank; first | (rw [iif_t (by omega)]; done) | (rw [iif_f (by omega), iif_t (by omega)]; done) | (rw [iif_f (by omega), iif_f (by omega), iif_t (by omega)]; done) | (rw [iif_f (by omega), iif_f (by omega), iif_f (by omega)]; done) : bGap bT room begin = bRank bR bT room begin byRule)) hend hP hD hS dX0_rankByRule_34
  by_cases c_1_2 : byRule = 2
  · refine x_tsIn hC 35 dX0_rankByRule_1 (by rw [c_1_2]; omega) (by rw [c_1_2]; decide) (by rw [c_1_2]; decide) (by rw [c_1_2]; rfl) (by decide) ?_
    refine x_al hC hl 0 dX0_rankByRule_35 rfl rfl ?_
    refine x_get0 (v := .ref (h 5)) hC hP 0 rfl 4 (by decide) tb_100 rfl rfl dX0_rankByRule_36 ?_
    refine x_il hC hl 1 dX0_rankByRule_39 rfl rfl ?_
    refine x_iald hC hP 5 rfl (by omega) (by decide) dX0_rankByRule_40 ?_
    exact x_retI (congrArg iI (by unfold bRank; first | (rw [iif_t (by omega)]; done) | (rw [iif_f (by omega), iif_t (by omega)]; done) | (rw [iif_f (by omega), iif_f (by omega), iif_t (by omega)]; done) | (rw [iif_f (by omega), iif_f (by omega), iif_f (by omega)]; done) : bR room = bRank bR bT room begin byRule)) hend hP hD hS dX0_rankByRule_41
  by_cases c_1_3 : byRule = 3
  · refine x_tsIn hC 42 dX0_rankByRule_1 (by rw [c_1_3]; omega) (by rw [c_1_3]; decide) (by rw [c_1_3]; decide) (by rw [c_1_3]; rfl) (by decide) ?_
    refine x_al hC hl 0 dX0_rankByRule_42 rfl rfl ?_
    refine x_get0 (v := .ref (h 7)) hC hP 0 rfl 6 (by decide) tb_102 rfl rfl dX0_rankByRule_43 ?_
    refine x_il hC hl 1 dX0_rankByRule_46 rfl rfl ?_
    refine x_lald hC hP 7 rfl (by omega) (by decide) dX0_rankByRule_47 ?_
    refine x_sI (As := [.long (lN (mkN (bT room) 48))]) hC (k13_bitCount_95d88 l D cs (lN (mkN (bT room) 48)) (bT room) (rfl)) lk0_130 (sub_none hP hD hS hA) hP hS rfl hl.1 rfl (Nat.le_of_ble_eq_true rfl) ⟨rfl, rfl⟩ ⟨Nat.le_of_ble_eq_true rfl, Nat.le_of_ble_eq_true rfl⟩ ⟨Nat.le_of_ble_eq_true rfl, Nat.le_of_ble_eq_true rfl⟩ dX0_rankByRule_48 (fun H locs hP hD hS hHs => ?_)
    have q_48 := cntN_le (bT room) 48
    refine x_ineg hC dX0_rankByRule_51 ?_
    exact x_retI (congrArg iI (by unfold bRank; first | (rw [iif_t (by omega)]; done) | (rw [iif_f (by omega), iif_t (by omega)]; done) | (rw [iif_f (by omega), iif_f (by omega), iif_t (by omega)]; done) | (rw [iif_f (by omega), iif_f (by omega), iif_f (by omega)]; done) : -((cntN (bT room) 48 : Nat) : Int) = bRank bR bT room begin byRule)) hend hP hD hS dX0_rankByRule_52
  refine x_tsOut hC 53 dX0_rankByRule_1 (by omega) (by omega) (by decide) ?_
  refine x_ic hC dX0_rankByRule_53 ?_
  exact x_retI (congrArg iI (by unfold bRank; first | (rw [iif_t (by omega)]; done) | (rw [iif_f (by omega), iif_t (by omega)]; done) | (rw [iif_f (by omega), iif_f (by omega), iif_t (by omega)]; done) | (rw [iif_f (by omega), iif_f (by omega), iif_f (by omega)]; done) : 0 = bRank bR bT room begin byRule)) hend hP hD hS dX0_rankByRule_54
abbrev r0_roomToOpen : Room := { frames := 1, cells := 0, slots := 0, locals := 21 }
set_option maxHeartbeats 4000000 in
set_option maxRecDepth 100000 in
theorem k0_roomToOpen (l : Launch) (D : va_G) (cs : Nat → ClassId) (h : Nat → Nat) (bO : Nat → Bool) (bG : Int → Int) (bF : Int → Int) (bE : Int → Int) (bZ : Int → Int) (bP : Int → Int) (bR : Int → Int) (bC : Int → Int) (bT : Int → Nat → Bool) (need : Int) (hB : IB bF bE bZ bP bR bC) (g_need : -2147483648 ≤ need ∧ need ≤ 2147483647) : CI l D cs yX0_roomToOpen cX0_roomToOpen 6 .int r0_roomToOpen 0 0 [.ref (h 0), .int (iI need)] (wB h cs bO bG bF bE bZ bP bR bC bT) (wB h cs bO bG bF bE bZ bP bR bC bT) (iI ((bOpX bO bR bC need 8).1)) := by
  refine CI_start (own := RX0) (by decide) rfl rfl (Nat.le_of_ble_eq_true rfl) ?_
  intro p e s m args below meth c Q A ls hC hl hP hD hA hS hend
  have hl : lv_has ls 6 [(0, .ref (h 0)), (1, .int (iI need))] := hl
  obtain ⟨H, hH⟩ : ∃ H : Heap, H = s.heap := ⟨_, rfl⟩
  have hS : va_S A s.heap H [] := by rw [hH]; exact hS
  rw [← hH] at hP
  obtain ⟨locs, hlocs⟩ : ∃ locs : List Loc, locs = [] := ⟨_, rfl⟩
  rw [← hlocs] at hS
  suffices hgo : W p l e r0_roomToOpen s m args below meth c H locs 0 0 Q (F0 m 0 ls []) by rw [← hH, ← hlocs]; exact hgo
  clear hH hlocs
  refine x_ic hC dX0_roomToOpen_0 ?_
  refine x_is hC [(2, .int (iI (-1))), (0, .ref (h 0)), (1, .int (iI need))] hl dX0_roomToOpen_1 rfl (by decide) rfl (fun ls hl => ?_)
  refine x_ic hC dX0_roomToOpen_2 ?_
  refine x_is hC [(3, .int (iI 0)), (2, .int (iI (-1))), (0, .ref (h 0)), (1, .int (iI need))] hl dX0_roomToOpen_3 rfl (by decide) rfl (fun ls hl => ?_)
  refine x_ic hC dX0_roomToOpen_4 ?_
  refine x_isw hC [(4, .int (iI 0)), (3, .int (iI 0)), (2, .int (iI (-1))), (0, .ref (h 0)), (1, .int (iI need))] hl dX0_roomToOpen_5 (by decide) rfl (fun ls hl => ?_)
  have loop_7 : ∀ (n : Nat) (i : Int), (hi0 : 0 ≤ i) → (hiN : i ≤ 8) → (8 - i) < (n : Int) → ∀ (H : Heap) (locs : List Loc) (ls : Array Slot), va_P D vwCl (wB h cs bO bG bF bE bZ bP bR bC bT) H → va_D A (wB h cs bO bG bF bE bZ bP bR bC bT) → va_S A s.heap H locs → lv_has ls 6 [(4, .int (iI i)), (3, .int (iI ((bOpX bO bR bC need i).2))), (2, .int (iI ((bOpX bO bR bC need i).1))), (0, .ref (h 0)), (1, .int (iI need))] → W p l e r0_roomToOpen s m args below meth c H locs 0 0 Q (F0 m 7 ls []) := by
    intro n
    induction n with
    | zero =>
      intro i hi0 hiN hnn
      exfalso; omega
    | succ n ih_7 =>
      intro i hi0 hiN hnn H locs ls hP hD hS hl
      have hx := bOpX_rg (O := bO) (z := need) hB.2 hi0 hiN
      refine x_ilw hC hl 0 dX0_roomToOpen_7 rfl ?_
      refine x_bi hC dX0_roomToOpen_9 (by decide) ?_
      refine x_ic_ge hC 77 dX0_roomToOpen_11 (by decide) (by omega) (by omega) (fun c_11 => ?_) (fun c_11 => ?_)
      · obtain rfl : i = 8 := by omega
        refine x_il hC hl 2 dX0_roomToOpen_77 rfl rfl ?_
        exact x_retI (rfl) hend hP hD hS dX0_roomToOpen_78
      · refine x_al hC hl 3 dX0_roomToOpen_14 rfl rfl ?_
        refine x_ilw hC hl 0 dX0_roomToOpen_15 rfl ?_
        refine x_vI (As := [.int (iI i)]) hC (k0_isOpen l D cs h bO bG bF bE bZ bP bR bC bT i (by first | assumption | omega)) lk0_92 (q0 := 0) (ci := 0) rfl rfl rfl (sub_all hP hD hS hA) hP hS rfl hl.1 rfl (Nat.le_of_ble_eq_true rfl) ⟨rfl, rfl⟩ ⟨Nat.le_of_ble_eq_true rfl, Nat.le_of_ble_eq_true rfl⟩ ⟨Nat.le_of_ble_eq_true rfl, Nat.le_of_ble_eq_true rfl⟩ dX0_roomToOpen_17 (fun H locs hP hD hS hHs => ?_)
        refine x_if_ne_b hC 71 dX0_roomToOpen_20 (by decide) (fun c_20 => ?_) (fun c_20 => ?_)
        · refine x_iinc hC [(4, .int (iI (i + 1))), (3, .int (iI ((bOpX bO bR bC need i).2))), (2, .int (iI ((bOpX bO bR bC need i).1))), (0, .ref (h 0)), (1, .int (iI need))] 0 hl dX0_roomToOpen_71 rfl (by decide) rfl (fun ls hl => ?_)
          refine x_goto hC 7 dX0_roomToOpen_74 (by decide) ?_
          have hl : lv_has ls 6 [(4, .int (iI (i + 1))), (3, .int (iI ((bOpX bO bR bC need (i + 1)).2))), (2, .int (iI ((bOpX bO bR bC need (i + 1)).1))), (0, .ref (h 0)), (1, .int (iI need))] := lvE (lv_sub (l' := [(4, .int (iI (i + 1))), (3, .int (iI ((bOpX bO bR bC need i).2))), (2, .int (iI ((bOpX bO bR bC need i).1))), (0, .ref (h 0)), (1, .int (iI need))]) hl [0, 1, 2, 3, 4] rfl) (lcE rfl (lcE (congrArg (fun z => Value.int (iI z)) (by rw [bOpX_s _ _ _ _ hi0]; unfold bOpS iif; grind : (bOpX bO bR bC need i).2 = (bOpX bO bR bC need (i + 1)).2)) (lcE (congrArg (fun z => Value.int (iI z)) (by rw [bOpX_s _ _ _ _ hi0]; unfold bOpS iif; grind : (bOpX bO bR bC need i).1 = (bOpX bO bR bC need (i + 1)).1)) (lcE rfl (lcE rfl (rfl))))))
          exact ih_7 (i + 1) (by omega) (by omega) (by omega) H locs ls hP hD hS hl
        · have qr := ibR hB i (by omega)
          refine x_al hC hl 3 dX0_roomToOpen_23 rfl rfl ?_
          refine x_get0 (v := .ref (h 5)) hC hP 0 rfl 4 (by decide) tb_100 rfl rfl dX0_roomToOpen_24 ?_
          refine x_ilw hC hl 0 dX0_roomToOpen_27 rfl ?_
          refine x_iald hC hP 5 rfl (by omega) (by decide) dX0_roomToOpen_29 ?_
          refine x_il hC hl 4 dX0_roomToOpen_30 rfl rfl ?_
          refine x_ic_lt hC 71 dX0_roomToOpen_31 (by decide) (by omega) (by omega) (fun c_31 => ?_) (fun c_31 => ?_)
          · refine x_iinc hC [(4, .int (iI (i + 1))), (3, .int (iI ((bOpX bO bR bC need i).2))), (2, .int (iI ((bOpX bO bR bC need i).1))), (0, .ref (h 0)), (1, .int (iI need))] 0 hl dX0_roomToOpen_71 rfl (by decide) rfl (fun ls hl => ?_)
            refine x_goto hC 7 dX0_roomToOpen_74 (by decide) ?_
            have hl : lv_has ls 6 [(4, .int (iI (i + 1))), (3, .int (iI ((bOpX bO bR bC need (i + 1)).2))), (2, .int (iI ((bOpX bO bR bC need (i + 1)).1))), (0, .ref (h 0)), (1, .int (iI need))] := lvE (lv_sub (l' := [(4, .int (iI (i + 1))), (3, .int (iI ((bOpX bO bR bC need i).2))), (2, .int (iI ((bOpX bO bR bC need i).1))), (0, .ref (h 0)), (1, .int (iI need))]) hl [0, 1, 2, 3, 4] rfl) (lcE rfl (lcE (congrArg (fun z => Value.int (iI z)) (by rw [bOpX_s _ _ _ _ hi0]; unfold bOpS iif; grind : (bOpX bO bR bC need i).2 = (bOpX bO bR bC need (i + 1)).2)) (lcE (congrArg (fun z => Value.int (iI z)) (by rw [bOpX_s _ _ _ _ hi0]; unfold bOpS iif; grind : (bOpX bO bR bC need i).1 = (bOpX bO bR bC need (i + 1)).1)) (lcE rfl (lcE rfl (rfl))))))
            exact ih_7 (i + 1) (by omega) (by omega) (by omega) H locs ls hP hD hS hl
          · refine x_bi hC dX0_roomToOpen_34 (by decide) ?_
            refine x_al hC hl 3 dX0_roomToOpen_36 rfl rfl ?_
            refine x_get0 (v := .ref (h 6)) hC hP 0 rfl 5 (by decide) tb_101 rfl rfl dX0_roomToOpen_37 ?_
            refine x_ilw hC hl 0 dX0_roomToOpen_40 rfl ?_
            refine x_iald hC hP 6 rfl (by omega) (by decide) dX0_roomToOpen_42 ?_
            refine x_imul hC dX0_roomToOpen_43 ?_
            refine x_al hC hl 3 dX0_roomToOpen_44 rfl rfl ?_
            refine x_get0 (v := .ref (h 5)) hC hP 0 rfl 4 (by decide) tb_100 rfl rfl dX0_roomToOpen_45 ?_
            refine x_ilw hC hl 0 dX0_roomToOpen_48 rfl ?_
            refine x_iald hC hP 5 rfl (by omega) (by decide) dX0_roomToOpen_50 ?_
            refine x_iadd hC dX0_roomToOpen_51 ?_
            refine x_isw hC [(5, .int (iI ((10 * (bC i)) + (bR i)))), (4, .int (iI i)), (3, .int (iI ((bOpX bO bR bC need i).2))), (2, .int (iI ((bOpX bO bR bC need i).1))), (0, .ref (h 0)), (1, .int (iI need))] hl dX0_roomToOpen_52 (by decide) rfl (fun ls hl => ?_)
            refine x_il hC hl 3 dX0_roomToOpen_54 rfl rfl ?_
            refine x_ic hC dX0_roomToOpen_55 ?_
            refine x_ic_eq hC 65 dX0_roomToOpen_56 (by decide) (by omega) (by omega) (fun c_56 => ?_) (fun c_56 => ?_)
            · refine x_ilw hC hl 1 dX0_roomToOpen_65 rfl ?_
              refine x_is hC [(2, .int (iI i)), (5, .int (iI ((10 * (bC i)) + (bR i)))), (4, .int (iI i)), (3, .int (iI ((bOpX bO bR bC need i).2))), (0, .ref (h 0)), (1, .int (iI need))] hl dX0_roomToOpen_67 rfl (by decide) rfl (fun ls hl => ?_)
              refine x_ilw hC hl 1 dX0_roomToOpen_68 rfl ?_
              refine x_is hC [(3, .int (iI ((10 * (bC i)) + (bR i)))), (2, .int (iI i)), (5, .int (iI ((10 * (bC i)) + (bR i)))), (4, .int (iI i)), (0, .ref (h 0)), (1, .int (iI need))] hl dX0_roomToOpen_70 rfl (by decide) rfl (fun ls hl => ?_)
              refine x_iinc hC [(4, .int (iI (i + 1))), (3, .int (iI ((10 * (bC i)) + (bR i)))), (2, .int (iI i)), (5, .int (iI ((10 * (bC i)) + (bR i)))), (0, .ref (h 0)), (1, .int (iI need))] 3 hl dX0_roomToOpen_71 rfl (by decide) rfl (fun ls hl => ?_)
              refine x_goto hC 7 dX0_roomToOpen_74 (by decide) ?_
              have hl : lv_has ls 6 [(4, .int (iI (i + 1))), (3, .int (iI ((bOpX bO bR bC need (i + 1)).2))), (2, .int (iI ((bOpX bO bR bC need (i + 1)).1))), (0, .ref (h 0)), (1, .int (iI need))] := lvE (lv_sub (l' := [(4, .int (iI (i + 1))), (3, .int (iI ((10 * (bC i)) + (bR i)))), (2, .int (iI i)), (0, .ref (h 0)), (1, .int (iI need))]) hl [0, 1, 2, 4, 5] rfl) (lcE rfl (lcE (congrArg (fun z => Value.int (iI z)) (by rw [bOpX_s _ _ _ _ hi0]; unfold bOpS iif; grind : (10 * (bC i)) + (bR i) = (bOpX bO bR bC need (i + 1)).2)) (lcE (congrArg (fun z => Value.int (iI z)) (by rw [bOpX_s _ _ _ _ hi0]; unfold bOpS iif; grind : i = (bOpX bO bR bC need (i + 1)).1)) (lcE rfl (lcE rfl (rfl))))))
              exact ih_7 (i + 1) (by omega) (by omega) (by omega) H locs ls hP hD hS hl
            · refine x_ilw hC hl 0 dX0_roomToOpen_59 rfl ?_
              refine x_il hC hl 2 dX0_roomToOpen_61 rfl rfl ?_
              refine x_ic_ge hC 71 dX0_roomToOpen_62 (by decide) (by omega) (by omega) (fun c_62 => ?_) (fun c_62 => ?_)
              · refine x_iinc hC [(4, .int (iI (i + 1))), (5, .int (iI ((10 * (bC i)) + (bR i)))), (3, .int (iI ((bOpX bO bR bC need i).2))), (2, .int (iI ((bOpX bO bR bC need i).1))), (0, .ref (h 0)), (1, .int (iI need))] 1 hl dX0_roomToOpen_71 rfl (by decide) rfl (fun ls hl => ?_)
                refine x_goto hC 7 dX0_roomToOpen_74 (by decide) ?_
                have hl : lv_has ls 6 [(4, .int (iI (i + 1))), (3, .int (iI ((bOpX bO bR bC need (i + 1)).2))), (2, .int (iI ((bOpX bO bR bC need (i + 1)).1))), (0, .ref (h 0)), (1, .int (iI need))] := lvE (lv_sub (l' := [(4, .int (iI (i + 1))), (3, .int (iI ((bOpX bO bR bC need i).2))), (2, .int (iI ((bOpX bO bR bC need i).1))), (0, .ref (h 0)), (1, .int (iI need))]) hl [0, 2, 3, 4, 5] rfl) (lcE rfl (lcE (congrArg (fun z => Value.int (iI z)) (by rw [bOpX_s _ _ _ _ hi0]; unfold bOpS iif; grind : (bOpX bO bR bC need i).2 = (bOpX bO bR bC need (i + 1)).2)) (lcE (congrArg (fun z => Value.int (iI z)) (by rw [bOpX_s _ _ _ _ hi0]; unfold bOpS iif; grind : (bOpX bO bR bC need i).1 = (bOpX bO bR bC need (i + 1)).1)) (lcE rfl (lcE rfl (rfl))))))
                exact ih_7 (i + 1) (by omega) (by omega) (by omega) H locs ls hP hD hS hl
              · refine x_ilw hC hl 1 dX0_roomToOpen_65 rfl ?_
                refine x_is hC [(2, .int (iI i)), (5, .int (iI ((10 * (bC i)) + (bR i)))), (4, .int (iI i)), (3, .int (iI ((bOpX bO bR bC need i).2))), (0, .ref (h 0)), (1, .int (iI need))] hl dX0_roomToOpen_67 rfl (by decide) rfl (fun ls hl => ?_)
                refine x_ilw hC hl 1 dX0_roomToOpen_68 rfl ?_
                refine x_is hC [(3, .int (iI ((10 * (bC i)) + (bR i)))), (2, .int (iI i)), (5, .int (iI ((10 * (bC i)) + (bR i)))), (4, .int (iI i)), (0, .ref (h 0)), (1, .int (iI need))] hl dX0_roomToOpen_70 rfl (by decide) rfl (fun ls hl => ?_)
                refine x_iinc hC [(4, .int (iI (i + 1))), (3, .int (iI ((10 * (bC i)) + (bR i)))), (2, .int (iI i)), (5, .int (iI ((10 * (bC i)) + (bR i)))), (0, .ref (h 0)), (1, .int (iI need))] 3 hl dX0_roomToOpen_71 rfl (by decide) rfl (fun ls hl => ?_)
                refine x_goto hC 7 dX0_roomToOpen_74 (by decide) ?_
                have hl : lv_has ls 6 [(4, .int (iI (i + 1))), (3, .int (iI ((bOpX bO bR bC need (i + 1)).2))), (2, .int (iI ((bOpX bO bR bC need (i + 1)).1))), (0, .ref (h 0)), (1, .int (iI need))] := lvE (lv_sub (l' := [(4, .int (iI (i + 1))), (3, .int (iI ((10 * (bC i)) + (bR i)))), (2, .int (iI i)), (0, .ref (h 0)), (1, .int (iI need))]) hl [0, 1, 2, 4, 5] rfl) (lcE rfl (lcE (congrArg (fun z => Value.int (iI z)) (by rw [bOpX_s _ _ _ _ hi0]; unfold bOpS iif; grind : (10 * (bC i)) + (bR i) = (bOpX bO bR bC need (i + 1)).2)) (lcE (congrArg (fun z => Value.int (iI z)) (by rw [bOpX_s _ _ _ _ hi0]; unfold bOpS iif; grind : i = (bOpX bO bR bC need (i + 1)).1)) (lcE rfl (lcE rfl (rfl))))))
                exact ih_7 (i + 1) (by omega) (by omega) (by omega) H locs ls hP hD hS hl
  have hl := lv_sub (l' := [(4, .int (iI 0)), (3, .int (iI ((bOpX bO bR bC need 0).2))), (2, .int (iI ((bOpX bO bR bC need 0).1))), (0, .ref (h 0)), (1, .int (iI need))]) hl [0, 1, 2, 3, 4] rfl
  exact loop_7 (Int.toNat (8 - 0) + 1) 0 (by omega) (by omega) (by omega) H locs ls hP hD hS hl
abbrev r0_roomFor : Room := { frames := 2, cells := 0, slots := 0, locals := 48 }
set_option maxHeartbeats 4000000 in
set_option maxRecDepth 100000 in
theorem k0_roomFor (l : Launch) (D : va_G) (cs : Nat → ClassId) (h : Nat → Nat) (bO : Nat → Bool) (bG : Int → Int) (bF : Int → Int) (bE : Int → Int) (bZ : Int → Int) (bP : Int → Int) (bR : Int → Int) (bC : Int → Int) (bT : Int → Nat → Bool) (begin : Int) (stop : Int) (need : Int) (byRule : Int) (hB : IB bF bE bZ bP bR bC) (h2 : 0 ≤ begin ∧ begin < stop ∧ stop ≤ 48) (g_need : -2147483648 ≤ need ∧ need ≤ 2147483647) (h3 : 0 ≤ byRule ∧ byRule ≤ 3) : CI l D cs yX0_roomFor cX0_roomFor 11 .int r0_roomFor 0 0 [.ref (h 0), .int (iI begin), .int (iI stop), .int (iI need), .int (iI byRule)] (wB h cs bO bG bF bE bZ bP bR bC bT) (wB h cs bO bG bF bE bZ bP bR bC bT) (iI (bFor bO bR bC bT begin stop need byRule)) := by
  refine CI_start (own := RX0) (by decide) rfl rfl (Nat.le_of_ble_eq_true rfl) ?_
  intro p e s m args below meth c Q A ls hC hl hP hD hA hS hend
  have hl : lv_has ls 11 [(0, .ref (h 0)), (1, .int (iI begin)), (2, .int (iI stop)), (3, .int (iI need)), (4, .int (iI byRule))] := hl
  obtain ⟨H, hH⟩ : ∃ H : Heap, H = s.heap := ⟨_, rfl⟩
  have hS : va_S A s.heap H [] := by rw [hH]; exact hS
  rw [← hH] at hP
  obtain ⟨locs, hlocs⟩ : ∃ locs : List Loc, locs = [] := ⟨_, rfl⟩
  rw [← hlocs] at hS
  suffices hgo : W p l e r0_roomFor s m args below meth c H locs 0 0 Q (F0 m 0 ls []) by rw [← hH, ← hlocs]; exact hgo
  clear hH hlocs
  refine x_il hC hl 1 dX0_roomFor_0 rfl rfl ?_
  refine x_il hC hl 2 dX0_roomFor_1 rfl rfl ?_
  refine x_sL (As := [.int (iI begin), .int (iI stop)]) hC (k0_hoursOf l D cs begin stop (by first | assumption | omega)) lk0_112 (sub_none hP hD hS hA) hP hS rfl hl.1 rfl (Nat.le_of_ble_eq_true rfl) ⟨rfl, rfl⟩ ⟨Nat.le_of_ble_eq_true rfl, Nat.le_of_ble_eq_true rfl⟩ ⟨Nat.le_of_ble_eq_true rfl, Nat.le_of_ble_eq_true rfl⟩ dX0_roomFor_2 (fun H locs hP hD hS hHs => ?_)
  refine x_lsw hC [(5, .long (lN (mkN (iv begin stop) 48))), (0, .ref (h 0)), (1, .int (iI begin)), (2, .int (iI stop)), (3, .int (iI need)), (4, .int (iI byRule))] hl dX0_roomFor_5 (by decide) rfl (fun ls hl => ?_)
  refine x_ic hC dX0_roomFor_7 ?_
  refine x_isw hC [(7, .int (iI (-1))), (5, .long (lN (mkN (iv begin stop) 48))), (0, .ref (h 0)), (1, .int (iI begin)), (2, .int (iI stop)), (3, .int (iI need)), (4, .int (iI byRule))] hl dX0_roomFor_8 (by decide) rfl (fun ls hl => ?_)
  refine x_ic hC dX0_roomFor_10 ?_
  refine x_isw hC [(8, .int (iI 0)), (7, .int (iI (-1))), (5, .long (lN (mkN (iv begin stop) 48))), (0, .ref (h 0)), (1, .int (iI begin)), (2, .int (iI stop)), (3, .int (iI need)), (4, .int (iI byRule))] hl dX0_roomFor_11 (by decide) rfl (fun ls hl => ?_)
  refine x_ic hC dX0_roomFor_13 ?_
  refine x_isw hC [(9, .int (iI 0)), (8, .int (iI 0)), (7, .int (iI (-1))), (5, .long (lN (mkN (iv begin stop) 48))), (0, .ref (h 0)), (1, .int (iI begin)), (2, .int (iI stop)), (3, .int (iI need)), (4, .int (iI byRule))] hl dX0_roomFor_14 (by decide) rfl (fun ls hl => ?_)
  have loop_16 : ∀ (n : Nat) (i : Int), (hi0 : 0 ≤ i) → (hiN : i ≤ 8) → (8 - i) < (n : Int) → ∀ (H : Heap) (locs : List Loc) (ls : Array Slot), va_P D vwCl (wB h cs bO bG bF bE bZ bP bR bC bT) H → va_D A (wB h cs bO bG bF bE bZ bP bR bC bT) → va_S A s.heap H locs → lv_has ls 11 [(9, .int (iI i)), (8, .int (iI ((bForX bO bR bT begin stop need byRule i).2))), (7, .int (iI ((bForX bO bR bT begin stop need byRule i).1))), (5, .long (lN (mkN (iv begin stop) 48))), (0, .ref (h 0)), (1, .int (iI begin)), (2, .int (iI stop)), (3, .int (iI need)), (4, .int (iI byRule))] → W p l e r0_roomFor s m args below meth c H locs 0 0 Q (F0 m 16 ls []) := by
    intro n
    induction n with
    | zero =>
      intro i hi0 hiN hnn
      exfalso; omega
    | succ n ih_16 =>
      intro i hi0 hiN hnn H locs ls hP hD hS hl
      have hx := bForX_rg (O := bO) (T := bT) (e := stop) (z := need) (rule := byRule) (fun r h1 h2 => (hB.2 r h1 h2).1) (b := begin) (by omega) hi0 hiN
      refine x_ilw hC hl 0 dX0_roomFor_16 rfl ?_
      refine x_bi hC dX0_roomFor_18 (by decide) ?_
      refine x_ic_ge hC 82 dX0_roomFor_20 (by decide) (by omega) (by omega) (fun c_20 => ?_) (fun c_20 => ?_)
      · obtain rfl : i = 8 := by omega
        have hx8 := bForX_rg (O := bO) (T := bT) (e := stop) (z := need) (rule := byRule) (fun r h1 h2 => (hB.2 r h1 h2).1) (b := begin) (by omega) (n := 8) (by omega) (by omega)
        refine x_ilw hC hl 2 dX0_roomFor_82 rfl ?_
        refine x_ic hC dX0_roomFor_84 ?_
        refine x_ic_ne hC 96 dX0_roomFor_85 (by decide) (by omega) (by omega) (fun c_85 => ?_) (fun c_85 => ?_)
        · refine x_ilw hC hl 2 dX0_roomFor_96 rfl ?_
          exact x_retI (congrArg iI (by unfold bFor; first | exact (iif_t (by assumption)).symm | exact (iif_f (by assumption)).symm : (bForX bO bR bT begin stop need byRule 8).1 = bFor bO bR bC bT begin stop need byRule)) hend hP hD hS dX0_roomFor_98
        · refine x_al hC hl 4 dX0_roomFor_88 rfl rfl ?_
          refine x_il hC hl 7 dX0_roomFor_89 rfl rfl ?_
          refine x_vI (As := [.int (iI need)]) hC (k0_roomToOpen l D cs h bO bG bF bE bZ bP bR bC bT need (by first | assumption | omega) (by first | assumption | omega)) lk0_124 (q0 := 0) (ci := 0) rfl rfl rfl (sub_all hP hD hS hA) hP hS rfl hl.1 rfl (Nat.le_of_ble_eq_true rfl) ⟨rfl, rfl⟩ ⟨Nat.le_of_ble_eq_true rfl, Nat.le_of_ble_eq_true rfl⟩ ⟨Nat.le_of_ble_eq_true rfl, Nat.le_of_ble_eq_true rfl⟩ dX0_roomFor_90 (fun H locs hP hD hS hHs => ?_)
          refine x_goto hC 98 dX0_roomFor_93 (by decide) ?_
          exact x_retI (congrArg iI (by unfold bFor; first | exact (iif_t (by assumption)).symm | exact (iif_f (by assumption)).symm : (bOpX bO bR bC need 8).1 = bFor bO bR bC bT begin stop need byRule)) hend hP hD hS dX0_roomFor_98
      · refine x_al hC hl 4 dX0_roomFor_23 rfl rfl ?_
        refine x_ilw hC hl 0 dX0_roomFor_24 rfl ?_
        refine x_vI (As := [.int (iI i)]) hC (k0_isOpen l D cs h bO bG bF bE bZ bP bR bC bT i (by first | assumption | omega)) lk0_92 (q0 := 0) (ci := 0) rfl rfl rfl (sub_all hP hD hS hA) hP hS rfl hl.1 rfl (Nat.le_of_ble_eq_true rfl) ⟨rfl, rfl⟩ ⟨Nat.le_of_ble_eq_true rfl, Nat.le_of_ble_eq_true rfl⟩ ⟨Nat.le_of_ble_eq_true rfl, Nat.le_of_ble_eq_true rfl⟩ dX0_roomFor_26 (fun H locs hP hD hS hHs => ?_)
        refine x_if_eq_b hC 76 dX0_roomFor_29 (by decide) (fun c_29 => ?_) (fun c_29 => ?_)
        · refine x_iinc hC [(9, .int (iI (i + 1))), (8, .int (iI ((bForX bO bR bT begin stop need byRule i).2))), (7, .int (iI ((bForX bO bR bT begin stop need byRule i).1))), (5, .long (lN (mkN (iv begin stop) 48))), (0, .ref (h 0)), (1, .int (iI begin)), (2, .int (iI stop)), (3, .int (iI need)), (4, .int (iI byRule))] 0 hl dX0_roomFor_76 rfl (by decide) rfl (fun ls hl => ?_)
          refine x_goto hC 16 dX0_roomFor_79 (by decide) ?_
          have hl : lv_has ls 11 [(9, .int (iI (i + 1))), (8, .int (iI ((bForX bO bR bT begin stop need byRule (i + 1)).2))), (7, .int (iI ((bForX bO bR bT begin stop need byRule (i + 1)).1))), (5, .long (lN (mkN (iv begin stop) 48))), (0, .ref (h 0)), (1, .int (iI begin)), (2, .int (iI stop)), (3, .int (iI need)), (4, .int (iI byRule))] := lvE (lv_sub (l' := [(9, .int (iI (i + 1))), (8, .int (iI ((bForX bO bR bT begin stop need byRule i).2))), (7, .int (iI ((bForX bO bR bT begin stop need byRule i).1))), (5, .long (lN (mkN (iv begin stop) 48))), (0, .ref (h 0)), (1, .int (iI begin)), (2, .int (iI stop)), (3, .int (iI need)), (4, .int (iI byRule))]) hl [0, 1, 2, 3, 4, 5, 6, 7, 8] rfl) (lcE rfl (lcE (congrArg (fun z => Value.int (iI z)) (by rw [bForX_s _ _ _ _ _ _ _ hi0]; unfold bForS iif; grind : (bForX bO bR bT begin stop need byRule i).2 = (bForX bO bR bT begin stop need byRule (i + 1)).2)) (lcE (congrArg (fun z => Value.int (iI z)) (by rw [bForX_s _ _ _ _ _ _ _ hi0]; unfold bForS iif; grind : (bForX bO bR bT begin stop need byRule i).1 = (bForX bO bR bT begin stop need byRule (i + 1)).1)) (lcE rfl (lcE rfl (lcE rfl (lcE rfl (lcE rfl (lcE rfl (rfl))))))))))
          exact ih_16 (i + 1) (by omega) (by omega) (by omega) H locs ls hP hD hS hl
        · refine x_al hC hl 4 dX0_roomFor_32 rfl rfl ?_
          refine x_ilw hC hl 0 dX0_roomFor_33 rfl ?_
          refine x_il hC hl 7 dX0_roomFor_35 rfl rfl ?_
          refine x_llw hC hl 3 dX0_roomFor_36 rfl ?_
          refine x_vI (As := [.int (iI i), .int (iI need), .long (lN (mkN (iv begin stop) 48))]) hC (k0_canHold l D cs h bO bG bF bE bZ bP bR bC bT i need (iv begin stop) (by first | assumption | omega) (by first | assumption | omega) (by first | assumption | omega)) lk0_116 (q0 := 0) (ci := 0) rfl rfl rfl (sub_all hP hD hS hA) hP hS rfl hl.1 rfl (Nat.le_of_ble_eq_true rfl) ⟨rfl, rfl⟩ ⟨Nat.le_of_ble_eq_true rfl, Nat.le_of_ble_eq_true rfl⟩ ⟨Nat.le_of_ble_eq_true rfl, Nat.le_of_ble_eq_true rfl⟩ dX0_roomFor_38 (fun H locs hP hD hS hHs => ?_)
          refine x_if_eq_b hC 76 dX0_roomFor_41 (by decide) (fun c_41 => ?_) (fun c_41 => ?_)
          · refine x_iinc hC [(9, .int (iI (i + 1))), (8, .int (iI ((bForX bO bR bT begin stop need byRule i).2))), (7, .int (iI ((bForX bO bR bT begin stop need byRule i).1))), (5, .long (lN (mkN (iv begin stop) 48))), (0, .ref (h 0)), (1, .int (iI begin)), (2, .int (iI stop)), (3, .int (iI need)), (4, .int (iI byRule))] 0 hl dX0_roomFor_76 rfl (by decide) rfl (fun ls hl => ?_)
            refine x_goto hC 16 dX0_roomFor_79 (by decide) ?_
            have hl : lv_has ls 11 [(9, .int (iI (i + 1))), (8, .int (iI ((bForX bO bR bT begin stop need byRule (i + 1)).2))), (7, .int (iI ((bForX bO bR bT begin stop need byRule (i + 1)).1))), (5, .long (lN (mkN (iv begin stop) 48))), (0, .ref (h 0)), (1, .int (iI begin)), (2, .int (iI stop)), (3, .int (iI need)), (4, .int (iI byRule))] := lvE (lv_sub (l' := [(9, .int (iI (i + 1))), (8, .int (iI ((bForX bO bR bT begin stop need byRule i).2))), (7, .int (iI ((bForX bO bR bT begin stop need byRule i).1))), (5, .long (lN (mkN (iv begin stop) 48))), (0, .ref (h 0)), (1, .int (iI begin)), (2, .int (iI stop)), (3, .int (iI need)), (4, .int (iI byRule))]) hl [0, 1, 2, 3, 4, 5, 6, 7, 8] rfl) (lcE rfl (lcE (congrArg (fun z => Value.int (iI z)) (by rw [bForX_s _ _ _ _ _ _ _ hi0]; unfold bForS iif; grind : (bForX bO bR bT begin stop need byRule i).2 = (bForX bO bR bT begin stop need byRule (i + 1)).2)) (lcE (congrArg (fun z => Value.int (iI z)) (by rw [bForX_s _ _ _ _ _ _ _ hi0]; unfold bForS iif; grind : (bForX bO bR bT begin stop need byRule i).1 = (bForX bO bR bT begin stop need byRule (i + 1)).1)) (lcE rfl (lcE rfl (lcE rfl (lcE rfl (lcE rfl (lcE rfl (rfl))))))))))
            exact ih_16 (i + 1) (by omega) (by omega) (by omega) H locs ls hP hD hS hl
          · refine x_al hC hl 4 dX0_roomFor_44 rfl rfl ?_
            refine x_ilw hC hl 0 dX0_roomFor_45 rfl ?_
            refine x_il hC hl 5 dX0_roomFor_47 rfl rfl ?_
            refine x_ilw hC hl 8 dX0_roomFor_48 rfl ?_
            refine x_vI (As := [.int (iI i), .int (iI begin), .int (iI byRule)]) hC (k0_rankByRule l D cs h bO bG bF bE bZ bP bR bC bT i begin byRule (by first | assumption | omega) (by first | assumption | omega) (by first | assumption | omega) (by first | assumption | omega)) lk0_120 (q0 := 0) (ci := 0) rfl rfl rfl (sub_all hP hD hS hA) hP hS rfl hl.1 rfl (Nat.le_of_ble_eq_true rfl) ⟨rfl, rfl⟩ ⟨Nat.le_of_ble_eq_true rfl, Nat.le_of_ble_eq_true rfl⟩ ⟨Nat.le_of_ble_eq_true rfl, Nat.le_of_ble_eq_true rfl⟩ dX0_roomFor_50 (fun H locs hP hD hS hHs => ?_)
            have q_50 := bRank_rg (R := bR) bT i (b := begin) byRule (by have := ibR (by assumption) i (by omega); omega) (by omega)
            refine x_isw hC [(10, .int (iI (bRank bR bT i begin byRule))), (9, .int (iI i)), (8, .int (iI ((bForX bO bR bT begin stop need byRule i).2))), (7, .int (iI ((bForX bO bR bT begin stop need byRule i).1))), (5, .long (lN (mkN (iv begin stop) 48))), (0, .ref (h 0)), (1, .int (iI begin)), (2, .int (iI stop)), (3, .int (iI need)), (4, .int (iI byRule))] hl dX0_roomFor_53 (by decide) rfl (fun ls hl => ?_)
            refine x_ilw hC hl 3 dX0_roomFor_55 rfl ?_
            refine x_ic hC dX0_roomFor_57 ?_
            refine x_ic_eq hC 68 dX0_roomFor_58 (by decide) (by omega) (by omega) (fun c_58 => ?_) (fun c_58 => ?_)
            · refine x_ilw hC hl 1 dX0_roomFor_68 rfl ?_
              refine x_isw hC [(7, .int (iI i)), (10, .int (iI (bRank bR bT i begin byRule))), (9, .int (iI i)), (8, .int (iI ((bForX bO bR bT begin stop need byRule i).2))), (5, .long (lN (mkN (iv begin stop) 48))), (0, .ref (h 0)), (1, .int (iI begin)), (2, .int (iI stop)), (3, .int (iI need)), (4, .int (iI byRule))] hl dX0_roomFor_70 (by decide) rfl (fun ls hl => ?_)
              refine x_ilw hC hl 1 dX0_roomFor_72 rfl ?_
              refine x_isw hC [(8, .int (iI (bRank bR bT i begin byRule))), (7, .int (iI i)), (10, .int (iI (bRank bR bT i begin byRule))), (9, .int (iI i)), (5, .long (lN (mkN (iv begin stop) 48))), (0, .ref (h 0)), (1, .int (iI begin)), (2, .int (iI stop)), (3, .int (iI need)), (4, .int (iI byRule))] hl dX0_roomFor_74 (by decide) rfl (fun ls hl => ?_)
              refine x_iinc hC [(9, .int (iI (i + 1))), (8, .int (iI (bRank bR bT i begin byRule))), (7, .int (iI i)), (10, .int (iI (bRank bR bT i begin byRule))), (5, .long (lN (mkN (iv begin stop) 48))), (0, .ref (h 0)), (1, .int (iI begin)), (2, .int (iI stop)), (3, .int (iI need)), (4, .int (iI byRule))] 3 hl dX0_roomFor_76 rfl (by decide) rfl (fun ls hl => ?_)
              refine x_goto hC 16 dX0_roomFor_79 (by decide) ?_
              have hl : lv_has ls 11 [(9, .int (iI (i + 1))), (8, .int (iI ((bForX bO bR bT begin stop need byRule (i + 1)).2))), (7, .int (iI ((bForX bO bR bT begin stop need byRule (i + 1)).1))), (5, .long (lN (mkN (iv begin stop) 48))), (0, .ref (h 0)), (1, .int (iI begin)), (2, .int (iI stop)), (3, .int (iI need)), (4, .int (iI byRule))] := lvE (lv_sub (l' := [(9, .int (iI (i + 1))), (8, .int (iI (bRank bR bT i begin byRule))), (7, .int (iI i)), (5, .long (lN (mkN (iv begin stop) 48))), (0, .ref (h 0)), (1, .int (iI begin)), (2, .int (iI stop)), (3, .int (iI need)), (4, .int (iI byRule))]) hl [0, 1, 2, 4, 5, 6, 7, 8, 9] rfl) (lcE rfl (lcE (congrArg (fun z => Value.int (iI z)) (by rw [bForX_s _ _ _ _ _ _ _ hi0]; unfold bForS iif; grind : bRank bR bT i begin byRule = (bForX bO bR bT begin stop need byRule (i + 1)).2)) (lcE (congrArg (fun z => Value.int (iI z)) (by rw [bForX_s _ _ _ _ _ _ _ hi0]; unfold bForS iif; grind : i = (bForX bO bR bT begin stop need byRule (i + 1)).1)) (lcE rfl (lcE rfl (lcE rfl (lcE rfl (lcE rfl (lcE rfl (rfl))))))))))
              exact ih_16 (i + 1) (by omega) (by omega) (by omega) H locs ls hP hD hS hl
            · refine x_ilw hC hl 0 dX0_roomFor_61 rfl ?_
              refine x_ilw hC hl 2 dX0_roomFor_63 rfl ?_
              refine x_ic_ge hC 76 dX0_roomFor_65 (by decide) (by omega) (by omega) (fun c_65 => ?_) (fun c_65 => ?_)
              · refine x_iinc hC [(9, .int (iI (i + 1))), (10, .int (iI (bRank bR bT i begin byRule))), (8, .int (iI ((bForX bO bR bT begin stop need byRule i).2))), (7, .int (iI ((bForX bO bR bT begin stop need byRule i).1))), (5, .long (lN (mkN (iv begin stop) 48))), (0, .ref (h 0)), (1, .int (iI begin)), (2, .int (iI stop)), (3, .int (iI need)), (4, .int (iI byRule))] 1 hl dX0_roomFor_76 rfl (by decide) rfl (fun ls hl => ?_)
                refine x_goto hC 16 dX0_roomFor_79 (by decide) ?_
                have hl : lv_has ls 11 [(9, .int (iI (i + 1))), (8, .int (iI ((bForX bO bR bT begin stop need byRule (i + 1)).2))), (7, .int (iI ((bForX bO bR bT begin stop need byRule (i + 1)).1))), (5, .long (lN (mkN (iv begin stop) 48))), (0, .ref (h 0)), (1, .int (iI begin)), (2, .int (iI stop)), (3, .int (iI need)), (4, .int (iI byRule))] := lvE (lv_sub (l' := [(9, .int (iI (i + 1))), (8, .int (iI ((bForX bO bR bT begin stop need byRule i).2))), (7, .int (iI ((bForX bO bR bT begin stop need byRule i).1))), (5, .long (lN (mkN (iv begin stop) 48))), (0, .ref (h 0)), (1, .int (iI begin)), (2, .int (iI stop)), (3, .int (iI need)), (4, .int (iI byRule))]) hl [0, 2, 3, 4, 5, 6, 7, 8, 9] rfl) (lcE rfl (lcE (congrArg (fun z => Value.int (iI z)) (by rw [bForX_s _ _ _ _ _ _ _ hi0]; unfold bForS iif; grind : (bForX bO bR bT begin stop need byRule i).2 = (bForX bO bR bT begin stop need byRule (i + 1)).2)) (lcE (congrArg (fun z => Value.int (iI z)) (by rw [bForX_s _ _ _ _ _ _ _ hi0]; unfold bForS iif; grind : (bForX bO bR bT begin stop need byRule i).1 = (bForX bO bR bT begin stop need byRule (i + 1)).1)) (lcE rfl (lcE rfl (lcE rfl (lcE rfl (lcE rfl (lcE rfl (rfl))))))))))
                exact ih_16 (i + 1) (by omega) (by omega) (by omega) H locs ls hP hD hS hl
              · refine x_ilw hC hl 1 dX0_roomFor_68 rfl ?_
                refine x_isw hC [(7, .int (iI i)), (10, .int (iI (bRank bR bT i begin byRule))), (9, .int (iI i)), (8, .int (iI ((bForX bO bR bT begin stop need byRule i).2))), (5, .long (lN (mkN (iv begin stop) 48))), (0, .ref (h 0)), (1, .int (iI begin)), (2, .int (iI stop)), (3, .int (iI need)), (4, .int (iI byRule))] hl dX0_roomFor_70 (by decide) rfl (fun ls hl => ?_)
                refine x_ilw hC hl 1 dX0_roomFor_72 rfl ?_
                refine x_isw hC [(8, .int (iI (bRank bR bT i begin byRule))), (7, .int (iI i)), (10, .int (iI (bRank bR bT i begin byRule))), (9, .int (iI i)), (5, .long (lN (mkN (iv begin stop) 48))), (0, .ref (h 0)), (1, .int (iI begin)), (2, .int (iI stop)), (3, .int (iI need)), (4, .int (iI byRule))] hl dX0_roomFor_74 (by decide) rfl (fun ls hl => ?_)
                refine x_iinc hC [(9, .int (iI (i + 1))), (8, .int (iI (bRank bR bT i begin byRule))), (7, .int (iI i)), (10, .int (iI (bRank bR bT i begin byRule))), (5, .long (lN (mkN (iv begin stop) 48))), (0, .ref (h 0)), (1, .int (iI begin)), (2, .int (iI stop)), (3, .int (iI need)), (4, .int (iI byRule))] 3 hl dX0_roomFor_76 rfl (by decide) rfl (fun ls hl => ?_)
                refine x_goto hC 16 dX0_roomFor_79 (by decide) ?_
                have hl : lv_has ls 11 [(9, .int (iI (i + 1))), (8, .int (iI ((bForX bO bR bT begin stop need byRule (i + 1)).2))), (7, .int (iI ((bForX bO bR bT begin stop need byRule (i + 1)).1))), (5, .long (lN (mkN (iv begin stop) 48))), (0, .ref (h 0)), (1, .int (iI begin)), (2, .int (iI stop)), (3, .int (iI need)), (4, .int (iI byRule))] := lvE (lv_sub (l' := [(9, .int (iI (i + 1))), (8, .int (iI (bRank bR bT i begin byRule))), (7, .int (iI i)), (5, .long (lN (mkN (iv begin stop) 48))), (0, .ref (h 0)), (1, .int (iI begin)), (2, .int (iI stop)), (3, .int (iI need)), (4, .int (iI byRule))]) hl [0, 1, 2, 4, 5, 6, 7, 8, 9] rfl) (lcE rfl (lcE (congrArg (fun z => Value.int (iI z)) (by rw [bForX_s _ _ _ _ _ _ _ hi0]; unfold bForS iif; grind : bRank bR bT i begin byRule = (bForX bO bR bT begin stop need byRule (i + 1)).2)) (lcE (congrArg (fun z => Value.int (iI z)) (by rw [bForX_s _ _ _ _ _ _ _ hi0]; unfold bForS iif; grind : i = (bForX bO bR bT begin stop need byRule (i + 1)).1)) (lcE rfl (lcE rfl (lcE rfl (lcE rfl (lcE rfl (lcE rfl (rfl))))))))))
                exact ih_16 (i + 1) (by omega) (by omega) (by omega) H locs ls hP hD hS hl
  have hl := lv_sub (l' := [(9, .int (iI 0)), (8, .int (iI ((bForX bO bR bT begin stop need byRule 0).2))), (7, .int (iI ((bForX bO bR bT begin stop need byRule 0).1))), (5, .long (lN (mkN (iv begin stop) 48))), (0, .ref (h 0)), (1, .int (iI begin)), (2, .int (iI stop)), (3, .int (iI need)), (4, .int (iI byRule))]) hl [0, 1, 2, 3, 4, 5, 6, 7, 8] rfl
  exact loop_16 (Int.toNat (8 - 0) + 1) 0 (by omega) (by omega) (by omega) H locs ls hP hD hS hl
abbrev r0_putIn : Room := { frames := 1, cells := 0, slots := 0, locals := 21 }
set_option maxHeartbeats 4000000 in
set_option maxRecDepth 100000 in
theorem k0_putIn (l : Launch) (D : va_G) (cs : Nat → ClassId) (h : Nat → Nat) (bO : Nat → Bool) (bG : Int → Int) (bF : Int → Int) (bE : Int → Int) (bZ : Int → Int) (bP : Int → Int) (bR : Int → Int) (bC : Int → Int) (bT : Int → Nat → Bool) (talk : Int) (room : Int) (h1 : 0 ≤ talk ∧ talk < 20) (h2 : 0 ≤ room ∧ room < 8) (h3 : 0 ≤ bF talk ∧ bF talk < bE talk ∧ bE talk ≤ 48) : CV l D cs yX0_putIn cX0_putIn 3 r0_putIn 0 0 [.ref (h 0), .int (iI talk), .int (iI room)] (wB h cs bO bG bF bE bZ bP bR bC bT) (wB h cs (bPutO bO room) (bPutG bO bG bC room) bF bE bZ (u1 bP talk room) bR bC (bPutT bT bF bE talk room)) := by
  refine CV_start (own := RX0) (by decide) rfl (Nat.le_of_ble_eq_true rfl) ?_
  intro p e s m args below meth c Q A ls hC hl hP hD hA hS hname hend
  have hl : lv_has ls 3 [(0, .ref (h 0)), (1, .int (iI talk)), (2, .int (iI room))] := hl
  obtain ⟨H, hH⟩ : ∃ H : Heap, H = s.heap := ⟨_, rfl⟩
  have hS : va_S A s.heap H [] := by rw [hH]; exact hS
  rw [← hH] at hP
  obtain ⟨locs, hlocs⟩ : ∃ locs : List Loc, locs = [] := ⟨_, rfl⟩
  rw [← hlocs] at hS
  suffices hgo : W p l e r0_putIn s m args below meth c H locs 0 0 Q (F0 m 0 ls []) by rw [← hH, ← hlocs]; exact hgo
  clear hH hlocs
  refine x_al hC hl 0 dX0_putIn_0 rfl rfl ?_
  refine x_il hC hl 2 dX0_putIn_1 rfl rfl ?_
  refine x_vI (As := [.int (iI room)]) hC (k0_isOpen l D cs h bO bG bF bE bZ bP bR bC bT room (by first | assumption | omega)) lk0_92 (q0 := 0) (ci := 0) rfl rfl rfl (sub_all hP hD hS hA) hP hS rfl hl.1 rfl (Nat.le_of_ble_eq_true rfl) ⟨rfl, rfl⟩ ⟨Nat.le_of_ble_eq_true rfl, Nat.le_of_ble_eq_true rfl⟩ ⟨Nat.le_of_ble_eq_true rfl, Nat.le_of_ble_eq_true rfl⟩ dX0_putIn_2 (fun H locs hP hD hS hHs => ?_)
  refine x_if_ne_b hC 45 dX0_putIn_5 (by decide) (fun c_5 => ?_) (fun c_5 => ?_)
  · refine x_al hC hl 0 dX0_putIn_45 rfl rfl ?_
    refine x_get0 (v := .ref (h 4)) hC hP 0 rfl 3 (by decide) tb_99 rfl rfl dX0_putIn_46 ?_
    refine x_il hC hl 1 dX0_putIn_49 rfl rfl ?_
    refine x_il hC hl 2 dX0_putIn_50 rfl rfl ?_
    refine x_iast hC hP hD hS 4 rfl (by omega) (by decide) dX0_putIn_51 (fun H locs hP hD hS => ?_)
    have hP : va_P D vwCl (wB h cs bO bG bF bE bZ (u1 bP talk room) bR bC bT) H := hP
    have hD : va_D A (wB h cs bO bG bF bE bZ (u1 bP talk room) bR bC bT) := hD
    refine x_al hC hl 0 dX0_putIn_52 rfl rfl ?_
    refine x_get0 (v := .ref (h 7)) hC hP 0 rfl 6 (by decide) tb_102 rfl rfl dX0_putIn_53 ?_
    refine x_il hC hl 2 dX0_putIn_56 rfl rfl ?_
    refine x_dup2 hC dX0_putIn_57 rfl rfl ?_
    refine x_lald hC hP 7 rfl (by omega) (by decide) dX0_putIn_58 ?_
    refine x_al hC hl 0 dX0_putIn_59 rfl rfl ?_
    refine x_get0 (v := .ref (h 1)) hC hP 0 rfl 0 (by decide) tb_96 rfl rfl dX0_putIn_60 ?_
    refine x_il hC hl 1 dX0_putIn_63 rfl rfl ?_
    refine x_iald hC hP 1 rfl (by omega) (by decide) dX0_putIn_64 ?_
    refine x_al hC hl 0 dX0_putIn_65 rfl rfl ?_
    refine x_get0 (v := .ref (h 2)) hC hP 0 rfl 1 (by decide) tb_97 rfl rfl dX0_putIn_66 ?_
    refine x_il hC hl 1 dX0_putIn_69 rfl rfl ?_
    refine x_iald hC hP 2 rfl (by omega) (by decide) dX0_putIn_70 ?_
    refine x_sL (As := [.int (iI (bF talk)), .int (iI (bE talk))]) hC (k0_hoursOf l D cs (bF talk) (bE talk) (by first | assumption | omega)) lk0_112 (sub_none hP hD hS hA) hP hS rfl hl.1 rfl (Nat.le_of_ble_eq_true rfl) ⟨rfl, rfl⟩ ⟨Nat.le_of_ble_eq_true rfl, Nat.le_of_ble_eq_true rfl⟩ ⟨Nat.le_of_ble_eq_true rfl, Nat.le_of_ble_eq_true rfl⟩ dX0_putIn_71 (fun H locs hP hD hS hHs => ?_)
    refine x_lor hC dX0_putIn_74 (lN (mkN (fun k => bT room k || iv (bF talk) (bE talk) k) 48)) (orHrs _ _) ?_
    refine x_last (f := fun k => bT room k || iv (bF talk) (bE talk) k) hC hP hD hS 7 rfl (by omega) (by decide) dX0_putIn_75 (fun H locs hP hD hS => ?_)
    have hP : va_P D vwCl (wB h cs bO bG bF bE bZ (u1 bP talk room) bR bC (u1 bT room (fun k => bT room k || iv (bF talk) (bE talk) k))) H := hP
    have hD : va_D A (wB h cs bO bG bF bE bZ (u1 bP talk room) bR bC (u1 bT room (fun k => bT room k || iv (bF talk) (bE talk) k))) := hD
    have ew : (wB h cs bO bG bF bE bZ (u1 bP talk room) bR bC (u1 bT room (fun k => bT room k || iv (bF talk) (bE talk) k))) = (wB h cs (bPutO bO room) (bPutG bO bG bC room) bF bE bZ (u1 bP talk room) bR bC (bPutT bT bF bE talk room)) := (wBc (by first | exact (iif_t c_5).symm | exact (iif_f c_5).symm : bO = bPutO bO room) (by first | exact (iif_t c_5).symm | exact (iif_f c_5).symm : bG = bPutG bO bG bC room) rfl rfl rfl rfl rfl rfl rfl)
    have hP := vPe hP ew
    have hD := vDe hD ew
    exact hend H locs 76 ls hP hD hS dX0_putIn_76
  · refine x_al hC hl 0 dX0_putIn_8 rfl rfl ?_
    refine x_dup hC dX0_putIn_9 rfl ?_
    refine x_get0 (v := .int (nI (mkN bO 8))) hC hP 0 rfl 7 (by decide) tb_103 rfl rfl dX0_putIn_10 ?_
    refine x_ic hC dX0_putIn_13 ?_
    refine x_il hC hl 2 dX0_putIn_14 rfl rfl ?_
    refine x_ishl hC dX0_putIn_15 (iI 1 <<< (iI room &&& 31)) rfl ?_
    refine x_ior hC dX0_putIn_16 (nI (mkN (oSet bO room) 8)) (opOr bO room (by omega)) ?_
    refine x_put0_7 (o' := oSet bO room) hC hP hD hS 0 rfl tb_103 dX0_putIn_17 (fun H locs hP hD hS => ?_)
    have hP : va_P D vwCl (wB h cs (oSet bO room) bG bF bE bZ bP bR bC bT) H := hP
    have hD : va_D A (wB h cs (oSet bO room) bG bF bE bZ bP bR bC bT) := hD
    refine x_al hC hl 0 dX0_putIn_20 rfl rfl ?_
    refine x_dup hC dX0_putIn_21 rfl ?_
    refine x_get0 (v := .int (iI (bG 10))) hC hP 0 rfl 10 (by decide) tb_106 rfl rfl dX0_putIn_22 ?_
    refine x_ic hC dX0_putIn_25 ?_
    refine x_iadd hC dX0_putIn_26 ?_
    refine x_put0_10 hC hP hD hS 0 rfl tb_106 dX0_putIn_27 (fun H locs hP hD hS => ?_)
    have hP : va_P D vwCl (wB h cs (oSet bO room) (u1 bG 10 ((bG 10) + 1)) bF bE bZ bP bR bC bT) H := hP
    have hD : va_D A (wB h cs (oSet bO room) (u1 bG 10 ((bG 10) + 1)) bF bE bZ bP bR bC bT) := hD
    refine x_al hC hl 0 dX0_putIn_30 rfl rfl ?_
    refine x_dup hC dX0_putIn_31 rfl ?_
    refine x_get0 (v := .int (iI (bG 11))) hC hP 0 rfl 11 (by decide) tb_107 rfl rfl dX0_putIn_32 ?_
    refine x_al hC hl 0 dX0_putIn_35 rfl rfl ?_
    refine x_get0 (v := .ref (h 6)) hC hP 0 rfl 5 (by decide) tb_101 rfl rfl dX0_putIn_36 ?_
    refine x_il hC hl 2 dX0_putIn_39 rfl rfl ?_
    refine x_iald hC hP 6 rfl (by omega) (by decide) dX0_putIn_40 ?_
    refine x_iadd hC dX0_putIn_41 ?_
    refine x_put0_11 hC hP hD hS 0 rfl tb_107 dX0_putIn_42 (fun H locs hP hD hS => ?_)
    have hP : va_P D vwCl (wB h cs (oSet bO room) (u1 (u1 bG 10 ((bG 10) + 1)) 11 ((bG 11) + (bC room))) bF bE bZ bP bR bC bT) H := hP
    have hD : va_D A (wB h cs (oSet bO room) (u1 (u1 bG 10 ((bG 10) + 1)) 11 ((bG 11) + (bC room))) bF bE bZ bP bR bC bT) := hD
    refine x_al hC hl 0 dX0_putIn_45 rfl rfl ?_
    refine x_get0 (v := .ref (h 4)) hC hP 0 rfl 3 (by decide) tb_99 rfl rfl dX0_putIn_46 ?_
    refine x_il hC hl 1 dX0_putIn_49 rfl rfl ?_
    refine x_il hC hl 2 dX0_putIn_50 rfl rfl ?_
    refine x_iast hC hP hD hS 4 rfl (by omega) (by decide) dX0_putIn_51 (fun H locs hP hD hS => ?_)
    have hP : va_P D vwCl (wB h cs (oSet bO room) (u1 (u1 bG 10 ((bG 10) + 1)) 11 ((bG 11) + (bC room))) bF bE bZ (u1 bP talk room) bR bC bT) H := hP
    have hD : va_D A (wB h cs (oSet bO room) (u1 (u1 bG 10 ((bG 10) + 1)) 11 ((bG 11) + (bC room))) bF bE bZ (u1 bP talk room) bR bC bT) := hD
    refine x_al hC hl 0 dX0_putIn_52 rfl rfl ?_
    refine x_get0 (v := .ref (h 7)) hC hP 0 rfl 6 (by decide) tb_102 rfl rfl dX0_putIn_53 ?_
    refine x_il hC hl 2 dX0_putIn_56 rfl rfl ?_
    refine x_dup2 hC dX0_putIn_57 rfl rfl ?_
    refine x_lald hC hP 7 rfl (by omega) (by decide) dX0_putIn_58 ?_
    refine x_al hC hl 0 dX0_putIn_59 rfl rfl ?_
    refine x_get0 (v := .ref (h 1)) hC hP 0 rfl 0 (by decide) tb_96 rfl rfl dX0_putIn_60 ?_
    refine x_il hC hl 1 dX0_putIn_63 rfl rfl ?_
    refine x_iald hC hP 1 rfl (by omega) (by decide) dX0_putIn_64 ?_
    refine x_al hC hl 0 dX0_putIn_65 rfl rfl ?_
    refine x_get0 (v := .ref (h 2)) hC hP 0 rfl 1 (by decide) tb_97 rfl rfl dX0_putIn_66 ?_
    refine x_il hC hl 1 dX0_putIn_69 rfl rfl ?_
    refine x_iald hC hP 2 rfl (by omega) (by decide) dX0_putIn_70 ?_
    refine x_sL (As := [.int (iI (bF talk)), .int (iI (bE talk))]) hC (k0_hoursOf l D cs (bF talk) (bE talk) (by first | assumption | omega)) lk0_112 (sub_none hP hD hS hA) hP hS rfl hl.1 rfl (Nat.le_of_ble_eq_true rfl) ⟨rfl, rfl⟩ ⟨Nat.le_of_ble_eq_true rfl, Nat.le_of_ble_eq_true rfl⟩ ⟨Nat.le_of_ble_eq_true rfl, Nat.le_of_ble_eq_true rfl⟩ dX0_putIn_71 (fun H locs hP hD hS hHs => ?_)
    refine x_lor hC dX0_putIn_74 (lN (mkN (fun k => bT room k || iv (bF talk) (bE talk) k) 48)) (orHrs _ _) ?_
    refine x_last (f := fun k => bT room k || iv (bF talk) (bE talk) k) hC hP hD hS 7 rfl (by omega) (by decide) dX0_putIn_75 (fun H locs hP hD hS => ?_)
    have hP : va_P D vwCl (wB h cs (oSet bO room) (u1 (u1 bG 10 ((bG 10) + 1)) 11 ((bG 11) + (bC room))) bF bE bZ (u1 bP talk room) bR bC (u1 bT room (fun k => bT room k || iv (bF talk) (bE talk) k))) H := hP
    have hD : va_D A (wB h cs (oSet bO room) (u1 (u1 bG 10 ((bG 10) + 1)) 11 ((bG 11) + (bC room))) bF bE bZ (u1 bP talk room) bR bC (u1 bT room (fun k => bT room k || iv (bF talk) (bE talk) k))) := hD
    have ew_2 : (wB h cs (oSet bO room) (u1 (u1 bG 10 ((bG 10) + 1)) 11 ((bG 11) + (bC room))) bF bE bZ (u1 bP talk room) bR bC (u1 bT room (fun k => bT room k || iv (bF talk) (bE talk) k))) = (wB h cs (bPutO bO room) (bPutG bO bG bC room) bF bE bZ (u1 bP talk room) bR bC (bPutT bT bF bE talk room)) := (wBc (by first | exact (iif_t c_5).symm | exact (iif_f c_5).symm : oSet bO room = bPutO bO room) (by first | exact (iif_t c_5).symm | exact (iif_f c_5).symm : u1 (u1 bG 10 ((bG 10) + 1)) 11 ((bG 11) + (bC room)) = bPutG bO bG bC room) rfl rfl rfl rfl rfl rfl rfl)
    have hP := vPe hP ew_2
    have hD := vDe hD ew_2
    exact hend H locs 76 ls hP hD hS dX0_putIn_76
abbrev r0_takeOut : Room := { frames := 1, cells := 0, slots := 0, locals := 21 }
set_option maxHeartbeats 4000000 in
set_option maxRecDepth 100000 in
theorem k0_takeOut (l : Launch) (D : va_G) (cs : Nat → ClassId) (h : Nat → Nat) (bO : Nat → Bool) (bG : Int → Int) (bF : Int → Int) (bE : Int → Int) (bZ : Int → Int) (bP : Int → Int) (bR : Int → Int) (bC : Int → Int) (bT : Int → Nat → Bool) (talk : Int) (room : Int) (h1 : 0 ≤ talk ∧ talk < 20) (h2 : 0 ≤ room ∧ room < 8) (h3 : 0 ≤ bF talk ∧ bF talk < bE talk ∧ bE talk ≤ 48) : CV l D cs yX0_takeOut cX0_takeOut 3 r0_takeOut 0 0 [.ref (h 0), .int (iI talk), .int (iI room)] (wB h cs bO bG bF bE bZ bP bR bC bT) (wB h cs bO bG bF bE bZ (u1 bP talk (-1)) bR bC (bOutT bT bF bE talk room)) := by
  refine CV_start (own := RX0) (by decide) rfl (Nat.le_of_ble_eq_true rfl) ?_
  intro p e s m args below meth c Q A ls hC hl hP hD hA hS hname hend
  have hl : lv_has ls 3 [(0, .ref (h 0)), (1, .int (iI talk)), (2, .int (iI room))] := hl
  obtain ⟨H, hH⟩ : ∃ H : Heap, H = s.heap := ⟨_, rfl⟩
  have hS : va_S A s.heap H [] := by rw [hH]; exact hS
  rw [← hH] at hP
  obtain ⟨locs, hlocs⟩ : ∃ locs : List Loc, locs = [] := ⟨_, rfl⟩
  rw [← hlocs] at hS
  suffices hgo : W p l e r0_takeOut s m args below meth c H locs 0 0 Q (F0 m 0 ls []) by rw [← hH, ← hlocs]; exact hgo
  clear hH hlocs
  refine x_al hC hl 0 dX0_takeOut_0 rfl rfl ?_
  refine x_get0 (v := .ref (h 4)) hC hP 0 rfl 3 (by decide) tb_99 rfl rfl dX0_takeOut_1 ?_
  refine x_il hC hl 1 dX0_takeOut_4 rfl rfl ?_
  refine x_ic hC dX0_takeOut_5 ?_
  refine x_iast hC hP hD hS 4 rfl (by omega) (by decide) dX0_takeOut_6 (fun H locs hP hD hS => ?_)
  have hP : va_P D vwCl (wB h cs bO bG bF bE bZ (u1 bP talk (-1)) bR bC bT) H := hP
  have hD : va_D A (wB h cs bO bG bF bE bZ (u1 bP talk (-1)) bR bC bT) := hD
  refine x_al hC hl 0 dX0_takeOut_7 rfl rfl ?_
  refine x_get0 (v := .ref (h 7)) hC hP 0 rfl 6 (by decide) tb_102 rfl rfl dX0_takeOut_8 ?_
  refine x_il hC hl 2 dX0_takeOut_11 rfl rfl ?_
  refine x_dup2 hC dX0_takeOut_12 rfl rfl ?_
  refine x_lald hC hP 7 rfl (by omega) (by decide) dX0_takeOut_13 ?_
  refine x_al hC hl 0 dX0_takeOut_14 rfl rfl ?_
  refine x_get0 (v := .ref (h 1)) hC hP 0 rfl 0 (by decide) tb_96 rfl rfl dX0_takeOut_15 ?_
  refine x_il hC hl 1 dX0_takeOut_18 rfl rfl ?_
  refine x_iald hC hP 1 rfl (by omega) (by decide) dX0_takeOut_19 ?_
  refine x_al hC hl 0 dX0_takeOut_20 rfl rfl ?_
  refine x_get0 (v := .ref (h 2)) hC hP 0 rfl 1 (by decide) tb_97 rfl rfl dX0_takeOut_21 ?_
  refine x_il hC hl 1 dX0_takeOut_24 rfl rfl ?_
  refine x_iald hC hP 2 rfl (by omega) (by decide) dX0_takeOut_25 ?_
  refine x_sL (As := [.int (iI (bF talk)), .int (iI (bE talk))]) hC (k0_hoursOf l D cs (bF talk) (bE talk) (by first | assumption | omega)) lk0_112 (sub_none hP hD hS hA) hP hS rfl hl.1 rfl (Nat.le_of_ble_eq_true rfl) ⟨rfl, rfl⟩ ⟨Nat.le_of_ble_eq_true rfl, Nat.le_of_ble_eq_true rfl⟩ ⟨Nat.le_of_ble_eq_true rfl, Nat.le_of_ble_eq_true rfl⟩ dX0_takeOut_26 (fun H locs hP hD hS hHs => ?_)
  refine lv_ldc2 (v := (-1 : Int64)) hC.1 hC.2.1 hC.2.2.2.1 (x_w hC tb_310 rfl) dX0_takeOut_29 ?_
  refine x_lxor hC dX0_takeOut_32 (lN (mkN (iv (bF talk) (bE talk)) 48) ^^^ (-1 : Int64)) rfl ?_
  refine x_land hC dX0_takeOut_33 (lN (mkN (fun k => bT room k && !iv (bF talk) (bE talk) k) 48)) (clrHrs _ _) ?_
  refine x_last (f := fun k => bT room k && !iv (bF talk) (bE talk) k) hC hP hD hS 7 rfl (by omega) (by decide) dX0_takeOut_34 (fun H locs hP hD hS => ?_)
  have hP : va_P D vwCl (wB h cs bO bG bF bE bZ (u1 bP talk (-1)) bR bC (u1 bT room (fun k => bT room k && !iv (bF talk) (bE talk) k))) H := hP
  have hD : va_D A (wB h cs bO bG bF bE bZ (u1 bP talk (-1)) bR bC (u1 bT room (fun k => bT room k && !iv (bF talk) (bE talk) k))) := hD
  exact hend H locs 35 ls hP hD hS dX0_takeOut_35
abbrev r0_couldGo : Room := { frames := 1, cells := 0, slots := 0, locals := 24 }
set_option maxHeartbeats 4000000 in
set_option maxRecDepth 100000 in
theorem k0_couldGo (l : Launch) (D : va_G) (cs : Nat → ClassId) (h : Nat → Nat) (bO : Nat → Bool) (bG : Int → Int) (bF : Int → Int) (bE : Int → Int) (bZ : Int → Int) (bP : Int → Int) (bR : Int → Int) (bC : Int → Int) (bT : Int → Nat → Bool) (talk : Int) (room : Int) (hB : IB bF bE bZ bP bR bC) (h1 : 0 ≤ talk ∧ talk < 20) (h2 : 0 ≤ room ∧ room < 8) (h3 : ¬ bP talk = -1) : CI l D cs yX0_couldGo cX0_couldGo 3 .boolean r0_couldGo 0 0 [.ref (h 0), .int (iI talk), .int (iI room)] (wB h cs bO bG bF bE bZ bP bR bC bT) (wB h cs bO bG bF bE bZ bP bR bC bT) (iI (b2p (bGo bO bF bE bZ bP bR bT talk room))) := by
  refine CI_start (own := RX0) (by decide) rfl b2p_nar (Nat.le_of_ble_eq_true rfl) ?_
  intro p e s m args below meth c Q A ls hC hl hP hD hA hS hend
  have hl : lv_has ls 3 [(0, .ref (h 0)), (1, .int (iI talk)), (2, .int (iI room))] := hl
  obtain ⟨H, hH⟩ : ∃ H : Heap, H = s.heap := ⟨_, rfl⟩
  have hS : va_S A s.heap H [] := by rw [hH]; exact hS
  rw [← hH] at hP
  obtain ⟨locs, hlocs⟩ : ∃ locs : List Loc, locs = [] := ⟨_, rfl⟩
  rw [← hlocs] at hS
  suffices hgo : W p l e r0_couldGo s m args below meth c H locs 0 0 Q (F0 m 0 ls []) by rw [← hH, ← hlocs]; exact hgo
  clear hH hlocs
  have qt := ibT hB talk h1
  have qf := qt.2.2 h3
  refine x_il hC hl 2 dX0_couldGo_0 rfl rfl ?_
  refine x_al hC hl 0 dX0_couldGo_1 rfl rfl ?_
  refine x_get0 (v := .ref (h 4)) hC hP 0 rfl 3 (by decide) tb_99 rfl rfl dX0_couldGo_2 ?_
  refine x_il hC hl 1 dX0_couldGo_5 rfl rfl ?_
  refine x_iald hC hP 4 rfl (by omega) (by decide) dX0_couldGo_6 ?_
  refine x_ic_eq hC 51 dX0_couldGo_7 (by decide) (by omega) (by omega) (fun c_7 => ?_) (fun c_7 => ?_)
  · refine x_ic hC dX0_couldGo_51 ?_
    exact x_retI (congrArg iI (b2p_f (by unfold bGo; first | exact ⟨c_7, c_15, c_44⟩ | exact fun h => c_44 h.2.2 | exact fun h => c_15 h.2.1 | exact fun h => h.1 c_7)).symm) hend hP hD hS dX0_couldGo_52
  · refine x_al hC hl 0 dX0_couldGo_10 rfl rfl ?_
    refine x_il hC hl 2 dX0_couldGo_11 rfl rfl ?_
    refine x_vI (As := [.int (iI room)]) hC (k0_isOpen l D cs h bO bG bF bE bZ bP bR bC bT room (by first | assumption | omega)) lk0_92 (q0 := 0) (ci := 0) rfl rfl rfl (sub_all hP hD hS hA) hP hS rfl hl.1 rfl (Nat.le_of_ble_eq_true rfl) ⟨rfl, rfl⟩ ⟨Nat.le_of_ble_eq_true rfl, Nat.le_of_ble_eq_true rfl⟩ ⟨Nat.le_of_ble_eq_true rfl, Nat.le_of_ble_eq_true rfl⟩ dX0_couldGo_12 (fun H locs hP hD hS hHs => ?_)
    refine x_if_eq_b hC 51 dX0_couldGo_15 (by decide) (fun c_15 => ?_) (fun c_15 => ?_)
    · refine x_ic hC dX0_couldGo_51 ?_
      exact x_retI (congrArg iI (b2p_f (by unfold bGo; first | exact ⟨c_7, c_15, c_44⟩ | exact fun h => c_44 h.2.2 | exact fun h => c_15 h.2.1 | exact fun h => h.1 c_7)).symm) hend hP hD hS dX0_couldGo_52
    · refine x_al hC hl 0 dX0_couldGo_18 rfl rfl ?_
      refine x_il hC hl 2 dX0_couldGo_19 rfl rfl ?_
      refine x_al hC hl 0 dX0_couldGo_20 rfl rfl ?_
      refine x_get0 (v := .ref (h 3)) hC hP 0 rfl 2 (by decide) tb_98 rfl rfl dX0_couldGo_21 ?_
      refine x_il hC hl 1 dX0_couldGo_24 rfl rfl ?_
      refine x_iald hC hP 3 rfl (by omega) (by decide) dX0_couldGo_25 ?_
      refine x_al hC hl 0 dX0_couldGo_26 rfl rfl ?_
      refine x_get0 (v := .ref (h 1)) hC hP 0 rfl 0 (by decide) tb_96 rfl rfl dX0_couldGo_27 ?_
      refine x_il hC hl 1 dX0_couldGo_30 rfl rfl ?_
      refine x_iald hC hP 1 rfl (by omega) (by decide) dX0_couldGo_31 ?_
      refine x_al hC hl 0 dX0_couldGo_32 rfl rfl ?_
      refine x_get0 (v := .ref (h 2)) hC hP 0 rfl 1 (by decide) tb_97 rfl rfl dX0_couldGo_33 ?_
      refine x_il hC hl 1 dX0_couldGo_36 rfl rfl ?_
      refine x_iald hC hP 2 rfl (by omega) (by decide) dX0_couldGo_37 ?_
      refine x_sL (As := [.int (iI (bF talk)), .int (iI (bE talk))]) hC (k0_hoursOf l D cs (bF talk) (bE talk) (by first | assumption | omega)) lk0_112 (sub_none hP hD hS hA) hP hS rfl hl.1 rfl (Nat.le_of_ble_eq_true rfl) ⟨rfl, rfl⟩ ⟨Nat.le_of_ble_eq_true rfl, Nat.le_of_ble_eq_true rfl⟩ ⟨Nat.le_of_ble_eq_true rfl, Nat.le_of_ble_eq_true rfl⟩ dX0_couldGo_38 (fun H locs hP hD hS hHs => ?_)
      refine x_vI (As := [.int (iI room), .int (iI (bZ talk)), .long (lN (mkN (iv (bF talk) (bE talk)) 48))]) hC (k0_canHold l D cs h bO bG bF bE bZ bP bR bC bT room (bZ talk) (iv (bF talk) (bE talk)) (by first | assumption | omega) (by first | assumption | omega) (by first | assumption | omega)) lk0_116 (q0 := 0) (ci := 0) rfl rfl rfl (sub_all hP hD hS hA) hP hS rfl hl.1 rfl (Nat.le_of_ble_eq_true rfl) ⟨rfl, rfl⟩ ⟨Nat.le_of_ble_eq_true rfl, Nat.le_of_ble_eq_true rfl⟩ ⟨Nat.le_of_ble_eq_true rfl, Nat.le_of_ble_eq_true rfl⟩ dX0_couldGo_41 (fun H locs hP hD hS hHs => ?_)
      refine x_if_eq_b hC 51 dX0_couldGo_44 (by decide) (fun c_44 => ?_) (fun c_44 => ?_)
      · refine x_ic hC dX0_couldGo_51 ?_
        exact x_retI (congrArg iI (b2p_f (by unfold bGo; first | exact ⟨c_7, c_15, c_44⟩ | exact fun h => c_44 h.2.2 | exact fun h => c_15 h.2.1 | exact fun h => h.1 c_7)).symm) hend hP hD hS dX0_couldGo_52
      · refine x_ic hC dX0_couldGo_47 ?_
        refine x_goto hC 52 dX0_couldGo_48 (by decide) ?_
        exact x_retI (congrArg iI (b2p_t (by unfold bGo; first | exact ⟨c_7, c_15, c_44⟩ | exact fun h => c_44 h.2.2 | exact fun h => c_15 h.2.1 | exact fun h => h.1 c_7)).symm) hend hP hD hS dX0_couldGo_52
abbrev r0_forgetRooms : Room := { frames := 0, cells := 0, slots := 0, locals := 0 }
set_option maxHeartbeats 4000000 in
set_option maxRecDepth 100000 in
theorem k0_forgetRooms (l : Launch) (D : va_G) (cs : Nat → ClassId) (h : Nat → Nat) (bO : Nat → Bool) (bG : Int → Int) (bF : Int → Int) (bE : Int → Int) (bZ : Int → Int) (bP : Int → Int) (bR : Int → Int) (bC : Int → Int) (bT : Int → Nat → Bool)  : CV l D cs yX0_forgetRooms cX0_forgetRooms 2 r0_forgetRooms 0 0 [.ref (h 0)] (wB h cs bO bG bF bE bZ bP bR bC bT) (wB h cs (fun _ => false) (u1 bG 11 0) bF bE bZ bP bR bC (bZero bT)) := by
  refine CV_start (own := RX0) (by decide) rfl (Nat.le_of_ble_eq_true rfl) ?_
  intro p e s m args below meth c Q A ls hC hl hP hD hA hS hname hend
  have hl : lv_has ls 2 [(0, .ref (h 0))] := hl
  obtain ⟨H, hH⟩ : ∃ H : Heap, H = s.heap := ⟨_, rfl⟩
  have hS : va_S A s.heap H [] := by rw [hH]; exact hS
  rw [← hH] at hP
  obtain ⟨locs, hlocs⟩ : ∃ locs : List Loc, locs = [] := ⟨_, rfl⟩
  rw [← hlocs] at hS
  suffices hgo : W p l e r0_forgetRooms s m args below meth c H locs 0 0 Q (F0 m 0 ls []) by rw [← hH, ← hlocs]; exact hgo
  clear hH hlocs
  refine x_ic hC dX0_forgetRooms_0 ?_
  refine x_is hC [(1, .int (iI 0)), (0, .ref (h 0))] hl dX0_forgetRooms_1 rfl (by decide) rfl (fun ls hl => ?_)
  have loop_2 : ∀ (n : Nat) (i : Int), (hi0 : 0 ≤ i) → (hiN : i ≤ 8) → (8 - i) < (n : Int) → ∀ (H : Heap) (locs : List Loc) (ls : Array Slot), va_P D vwCl (wB h cs bO bG bF bE bZ bP bR bC (fI (fun r t => u1 t r (fun _ => false)) bT i)) H → va_D A (wB h cs bO bG bF bE bZ bP bR bC (fI (fun r t => u1 t r (fun _ => false)) bT i)) → va_S A s.heap H locs → lv_has ls 2 [(1, .int (iI i)), (0, .ref (h 0))] → W p l e r0_forgetRooms s m args below meth c H locs 0 0 Q (F0 m 2 ls []) := by
    intro n
    induction n with
    | zero =>
      intro i hi0 hiN hnn
      exfalso; omega
    | succ n ih_2 =>
      intro i hi0 hiN hnn H locs ls hP hD hS hl
      refine x_il hC hl 0 dX0_forgetRooms_2 rfl rfl ?_
      refine x_bi hC dX0_forgetRooms_3 (by decide) ?_
      refine x_ic_ge hC 21 dX0_forgetRooms_5 (by decide) (by omega) (by omega) (fun c_5 => ?_) (fun c_5 => ?_)
      · obtain rfl : i = 8 := by omega
        refine x_al hC hl 1 dX0_forgetRooms_21 rfl rfl ?_
        refine x_ic hC dX0_forgetRooms_22 ?_
        refine x_top (nI (mkN (fun _ => false) 8)) (by decide : (iI 0) = nI (mkN (fun _ => false) 8)) ?_
        refine x_put0_7 (o' := fun _ => false) hC hP hD hS 0 rfl tb_103 dX0_forgetRooms_23 (fun H locs hP hD hS => ?_)
        have hP : va_P D vwCl (wB h cs (fun _ => false) bG bF bE bZ bP bR bC (fI (fun r t => u1 t r (fun _ => false)) bT 8)) H := hP
        have hD : va_D A (wB h cs (fun _ => false) bG bF bE bZ bP bR bC (fI (fun r t => u1 t r (fun _ => false)) bT 8)) := hD
        refine x_al hC hl 1 dX0_forgetRooms_26 rfl rfl ?_
        refine x_ic hC dX0_forgetRooms_27 ?_
        refine x_put0_11 hC hP hD hS 0 rfl tb_107 dX0_forgetRooms_28 (fun H locs hP hD hS => ?_)
        have hP : va_P D vwCl (wB h cs (fun _ => false) (u1 bG 11 0) bF bE bZ bP bR bC (fI (fun r t => u1 t r (fun _ => false)) bT 8)) H := hP
        have hD : va_D A (wB h cs (fun _ => false) (u1 bG 11 0) bF bE bZ bP bR bC (fI (fun r t => u1 t r (fun _ => false)) bT 8)) := hD
        exact hend H locs 31 ls hP hD hS dX0_forgetRooms_31
      · refine x_al hC hl 1 dX0_forgetRooms_8 rfl rfl ?_
        refine x_get0 (v := .ref (h 7)) hC hP 0 rfl 6 (by decide) tb_102 rfl rfl dX0_forgetRooms_9 ?_
        refine x_il hC hl 0 dX0_forgetRooms_12 rfl rfl ?_
        refine x_lc (v := 0) hC dX0_forgetRooms_13 rfl ?_
        refine x_topL (lN (mkN (fun _ => false) 48)) (by decide : (0 : Int64) = lN (mkN (fun _ => false) 48)) ?_
        refine x_last (f := fun _ => false) hC hP hD hS 7 rfl (by omega) (by decide) dX0_forgetRooms_14 (fun H locs hP hD hS => ?_)
        have hP : va_P D vwCl (wB h cs bO bG bF bE bZ bP bR bC (u1 (fI (fun r t => u1 t r (fun _ => false)) bT i) i (fun _ => false))) H := hP
        have hD : va_D A (wB h cs bO bG bF bE bZ bP bR bC (u1 (fI (fun r t => u1 t r (fun _ => false)) bT i) i (fun _ => false))) := hD
        refine x_iinc hC [(1, .int (iI (i + 1))), (0, .ref (h 0))] 0 hl dX0_forgetRooms_15 rfl (by decide) rfl (fun ls hl => ?_)
        refine x_goto hC 2 dX0_forgetRooms_18 (by decide) ?_
        have ew : (wB h cs bO bG bF bE bZ bP bR bC (u1 (fI (fun r t => u1 t r (fun _ => false)) bT i) i (fun _ => false))) = (wB h cs bO bG bF bE bZ bP bR bC (fI (fun r t => u1 t r (fun _ => false)) bT (i + 1))) := (wBc rfl rfl rfl rfl rfl rfl rfl rfl (by rw [fI_s (by omega)] : u1 (fI (fun r t => u1 t r (fun _ => false)) bT i) i (fun _ => false) = fI (fun r t => u1 t r (fun _ => false)) bT (i + 1)))
        have hP := vPe hP ew
        have hD := vDe hD ew
        have hl := lv_sub (l' := [(1, .int (iI (i + 1))), (0, .ref (h 0))]) hl [0, 1] rfl
        exact ih_2 (i + 1) (by omega) (by omega) (by omega) H locs ls hP hD hS hl
  have hl := lv_sub (l' := [(1, .int (iI 0)), (0, .ref (h 0))]) hl [0, 1] rfl
  exact loop_2 (Int.toNat (8 - 0) + 1) 0 (by omega) (by omega) (by omega) H locs ls hP hD hS hl
