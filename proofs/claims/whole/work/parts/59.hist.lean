/-! the history of the class -/
def wK (cs : Nat → ClassId) : Option ((Nat → Nat) × Bd) → va_W
  | none => []
  | some x => wb x.1 cs x.2
def hN (K : Nat → Option ((Nat → Nat) × Bd)) : Nat → Option Nat := fun j => (K j).map (fun x => x.1 0)
def wHist (hh : Nat → Nat) (cs : Nat → ClassId) (G : Int → Int) (K : Nat → Option ((Nat → Nat) × Bd)) : va_W := wH hh cs G (hN K) ++ (wK cs (K 0) ++ (wK cs (K 1) ++ (wK cs (K 2) ++ wK cs (K 3))))
def wR (cs : Nat → ClassId) (K : Nat → Option ((Nat → Nat) × Bd)) : Nat → va_W
  | 0 => wK cs (K 1) ++ (wK cs (K 2) ++ wK cs (K 3))
  | 1 => wK cs (K 0) ++ (wK cs (K 2) ++ wK cs (K 3))
  | 2 => wK cs (K 0) ++ (wK cs (K 1) ++ wK cs (K 3))
  | _ => wK cs (K 0) ++ (wK cs (K 1) ++ wK cs (K 2))
theorem wR_up (cs : Nat → ClassId) (K : Nat → Option ((Nat → Nat) × Bd)) {j : Nat} (hj : j < 4) (x : Option ((Nat → Nat) × Bd)) : wR cs (va_up K j x) j = wR cs K j := by
  match j, hj with
  | 0, _ => rfl
  | 1, _ => rfl
  | 2, _ => rfl
  | 3, _ => rfl
theorem wK_perm (cs : Nat → ClassId) (K : Nat → Option ((Nat → Nat) × Bd)) {j : Nat} (hj : j < 4) : List.Perm (wK cs (K 0) ++ (wK cs (K 1) ++ (wK cs (K 2) ++ wK cs (K 3)))) (wK cs (K j) ++ wR cs K j) := by
  match j, hj with
  | 0, _ => exact List.Perm.refl _
  | 1, _ => exact List.perm_append_comm_assoc _ _ _
  | 2, _ => exact (List.Perm.append_left _ (List.perm_append_comm_assoc _ _ _)).trans (List.perm_append_comm_assoc _ _ _)
  | 3, _ => exact (List.Perm.append_left _ ((List.Perm.append_left _ List.perm_append_comm).trans (List.perm_append_comm_assoc _ _ _))).trans (List.perm_append_comm_assoc _ _ _)
theorem wHist_perm (hh : Nat → Nat) (cs : Nat → ClassId) (G : Int → Int) (K : Nat → Option ((Nat → Nat) × Bd)) {j : Nat} (hj : j < 4) (B : va_W) : List.Perm (wHist hh cs G K ++ B) (((wH hh cs G (hN K) ++ B) ++ wK cs (K j)) ++ wR cs K j) := by
  have h1 : List.Perm (wHist hh cs G K) (wH hh cs G (hN K) ++ (wK cs (K j) ++ wR cs K j)) := List.Perm.append_left _ (wK_perm cs K hj)
  refine (h1.append_right B).trans ?_
  rw [List.append_assoc (wH hh cs G (hN K)) (wK cs (K j) ++ wR cs K j) B, List.append_assoc (wH hh cs G (hN K) ++ B) (wK cs (K j)) (wR cs K j), List.append_assoc (wH hh cs G (hN K)) B (wK cs (K j) ++ wR cs K j)]
  exact List.Perm.append_left _ List.perm_append_comm
def HW (hh : Nat → Nat) (cs : Nat → ClassId) (Q : List Bd) (U : Int) (w : va_W) : Prop := ∃ (G : Int → Int) (K : Nat → Option ((Nat → Nat) × Bd)), w = wHist hh cs G K ∧ (G 2 = (Q.length : Int) ∧ Q.length ≤ 4) ∧ (G 2 ≤ G 1 ∧ G 1 ≤ U) ∧ ∀ (j : Nat) (b : Bd), Q[j]? = some b → ∃ h : Nat → Nat, K ((G 1 - G 2 + j) % 4).toNat = some (h, b)
theorem and3 {a : Int} (h : -1 ≤ a ∧ a ≤ 2147483647) : iI a &&& iI 3 = iI (a % 4) := by
  by_cases c : a = -1
  · subst c; decide
  · obtain ⟨n, rfl⟩ := Int.eq_ofNat_of_zero_le (a := a) (by omega)
    rw [show (iI 3 : Int32) = nI 3 from rfl, iI_nat, fa_and, show (3 : Nat) = 2 ^ 2 - 1 from rfl, Nat.and_two_pow_sub_one_eq_mod, ← iI_nat]
    congr 1
theorem hN_up (K : Nat → Option ((Nat → Nat) × Bd)) (j : Nat) (h : Nat → Nat) (b : Bd) : hN (va_up K j (some (h, b))) = va_up (hN K) j (some (h 0)) := by
  funext i
  unfold hN va_up
  by_cases c : i = j
  · rw [if_pos c, if_pos c]; rfl
  · rw [if_neg c, if_neg c]
theorem hN_same (K : Nat → Option ((Nat → Nat) × Bd)) {j : Nat} {h : Nat → Nat} {b0 : Bd} (b : Bd) (hK : K j = some (h, b0)) : hN (va_up K j (some (h, b))) = hN K := by
  funext i
  unfold hN va_up
  by_cases c : i = j
  · rw [if_pos c, c, hK]; rfl
  · rw [if_neg c]
theorem HW_push {hh : Nat → Nat} {cs : Nat → ClassId} {Q : List Bd} {U : Int} {G : Int → Int} {K : Nat → Option ((Nat → Nat) × Bd)} (h2 : G 2 = (Q.length : Int) ∧ Q.length ≤ 4) (h3 : G 2 ≤ G 1 ∧ G 1 ≤ U) (h4 : ∀ (j : Nat) (b : Bd), Q[j]? = some b → ∃ h : Nat → Nat, K ((G 1 - G 2 + j) % 4).toNat = some (h, b)) (h : Nat → Nat) (b : Bd) : HW hh cs (qPush Q b) (U + 1) (wHist hh cs (u1 (u1 G 1 (G 1 + 1)) 2 (mmin2 (G 2 + 1) 4)) (va_up K (G 1 % 4).toNat (some (h, b)))) := by
  have hl := push_len Q b h2.2
  have e1 : u1 (u1 G 1 (G 1 + 1)) 2 (mmin2 (G 2 + 1) 4) 1 = G 1 + 1 := by rw [u1_n (by omega), u1_s]
  have e2 : u1 (u1 G 1 (G 1 + 1)) 2 (mmin2 (G 2 + 1) 4) 2 = mmin2 (G 2 + 1) 4 := u1_s
  refine ⟨_, _, rfl, ?_⟩
  rw [e1, e2]
  by_cases c : Q.length = 4
  · have em : mmin2 (G 2 + 1) 4 = 4 := by unfold mmin2; exact iif_t (by omega)
    rw [if_pos c] at hl
    rw [em]
    refine ⟨⟨by rw [hl]; rfl, by omega⟩, by omega, fun j d hj => ?_⟩
    have hjl : j < 4 := by rw [← hl]; exact (List.getElem?_eq_some_iff.mp hj).1
    unfold qPush at hj
    rw [if_pos c] at hj
    have ht : Q.tail.length = 3 := by rw [List.length_tail]; omega
    unfold va_up
    by_cases c3 : j = 3
    · subst c3
      rw [List.getElem?_append_right (by omega), ht] at hj
      have hd : b = d := Option.some.inj hj
      subst hd
      exact ⟨h, by rw [if_pos (by omega)]⟩
    · rw [List.getElem?_append_left (by omega), List.getElem?_tail] at hj
      obtain ⟨g, hg⟩ := h4 (j + 1) d hj
      refine ⟨g, ?_⟩
      rw [if_neg (by omega), ← hg]
      congr 2; omega
  · have em : mmin2 (G 2 + 1) 4 = G 2 + 1 := by unfold mmin2; exact iif_f (by omega)
    rw [if_neg c] at hl
    rw [em]
    refine ⟨⟨by rw [hl]; omega, by omega⟩, by omega, fun j d hj => ?_⟩
    have hjl : j < Q.length + 1 := by rw [← hl]; exact (List.getElem?_eq_some_iff.mp hj).1
    unfold qPush at hj
    rw [if_neg c] at hj
    unfold va_up
    by_cases c3 : j = Q.length
    · subst c3
      rw [List.getElem?_append_right (by omega), Nat.sub_self] at hj
      have hd : b = d := Option.some.inj hj
      subst hd
      exact ⟨h, by rw [if_pos (by omega)]⟩
    · rw [List.getElem?_append_left (by omega)] at hj
      obtain ⟨g, hg⟩ := h4 j d hj
      refine ⟨g, ?_⟩
      rw [if_neg (by omega), ← hg]
      congr 2; omega
theorem lkI1_21 : LkI RX1 21 yX0_init cX0_init 2 0 := ⟨tb_94, tb_289, tb_93, tb_72, rfl, by decide +kernel⟩
theorem lk1_22 : LkV RX1 22 yX0_copyFrom cX0_copyFrom 2 none 1 := ⟨tb_221, tb_290, tb_219, tb_220, tb_72, by decide +kernel⟩
theorem HW_0 {hh : Nat → Nat} {cs : Nat → ClassId} : HW hh cs [] 0 (wH hh cs (fun _ => 0) (fun _ => none)) :=
  ⟨fun _ => 0, fun _ => none, (List.append_nil _).symm, ⟨rfl, Nat.zero_le _⟩, by show (0 : Int) ≤ 0 ∧ (0 : Int) ≤ 0; omega, fun j b hj => by simp at hj⟩
theorem HW_mono {hh : Nat → Nat} {cs : Nat → ClassId} {Q : List Bd} {U U2 : Int} {w : va_W} (h : HW hh cs Q U w) (hU : U ≤ U2) : HW hh cs Q U2 w := by
  obtain ⟨G, K, a, b, c, d⟩ := h
  exact ⟨G, K, a, b, by omega, d⟩
abbrev r1_keep : Room := { frames := 4, cells := 8, slots := 117, locals := 80 }
set_option maxHeartbeats 4000000 in
set_option maxRecDepth 100000 in
theorem k1_keep (l : Launch) (D : va_G) (cs : Nat → ClassId) (hh hb : Nat → Nat) (Q : List Bd) (U : Int) (w : va_W) (b : Bd) (hw : HW hh cs Q U w) (hU : U ≤ 1000000) : CY l D cs yX1_keep cX1_keep 4 r1_keep 8 117 [.ref (hh 0), .ref (hb 0)] (w ++ wb hb cs b) (fun w1 => ∃ w' : va_W, HW hh cs (qPush Q b) (U + 1) w' ∧ w1 = w' ++ wb hb cs b) := by
  refine CY_start (own := RX1) (by decide) rfl (Nat.le_of_ble_eq_true rfl) ?_
  intro p e s m args below meth c Q0 A ls hC hl hP hD hA hS hname hend
  have hl : lv_has ls 4 [(0, .ref (hh 0)), (1, .ref (hb 0))] := hl
  obtain ⟨H, hH⟩ : ∃ H : Heap, H = s.heap := ⟨_, rfl⟩
  have hS : va_S A s.heap H [] := by rw [hH]; exact hS
  rw [← hH] at hP
  obtain ⟨locs, hlocs⟩ : ∃ locs : List Loc, locs = [] := ⟨_, rfl⟩
  rw [← hlocs] at hS
  suffices hgo : W p l e r1_keep s m args below meth c H locs 0 0 Q0 (F0 m 0 ls []) by rw [← hH, ← hlocs]; exact hgo
  clear hH hlocs
  obtain ⟨G, K, rfl, h2, h3, h4⟩ := hw
  obtain ⟨j, hj⟩ : ∃ j : Nat, j = (G 1 % 4).toNat := ⟨_, rfl⟩
  have hj4 : j < 4 := by omega
  have hji : (j : Int) = G 1 % 4 := by omega
  have hperm := wHist_perm hh cs G K hj4 (wb hb cs b)
  have hP := vP_perm hP hperm
  have hD := vD_perm hD hperm
  have hpush := fun h => HW_push (hh := hh) (cs := cs) h2 h3 h4 h b
  rw [← hj] at hpush
  have tail : ∀ (hj2 : Nat → Nat) (d : Bd) (H : Heap) (locs : List Loc) (ls : Array Slot), va_P D vwCl (((wH hh cs G (hN (va_up K j (some (hj2, b)))) ++ wB hb cs b.1 b.2.1 b.2.2.1 b.2.2.2.1 b.2.2.2.2.1 b.2.2.2.2.2.1 b.2.2.2.2.2.2.1 b.2.2.2.2.2.2.2.1 b.2.2.2.2.2.2.2.2) ++ wB hj2 cs d.1 d.2.1 d.2.2.1 d.2.2.2.1 d.2.2.2.2.1 d.2.2.2.2.2.1 d.2.2.2.2.2.2.1 d.2.2.2.2.2.2.2.1 d.2.2.2.2.2.2.2.2) ++ wR cs K j) H → va_D A (((wH hh cs G (hN (va_up K j (some (hj2, b)))) ++ wB hb cs b.1 b.2.1 b.2.2.1 b.2.2.2.1 b.2.2.2.2.1 b.2.2.2.2.2.1 b.2.2.2.2.2.2.1 b.2.2.2.2.2.2.2.1 b.2.2.2.2.2.2.2.2) ++ wB hj2 cs d.1 d.2.1 d.2.2.1 d.2.2.2.1 d.2.2.2.2.1 d.2.2.2.2.2.1 d.2.2.2.2.2.2.1 d.2.2.2.2.2.2.2.1 d.2.2.2.2.2.2.2.2) ++ wR cs K j) → va_S A s.heap H locs → lv_has ls 4 [(3, .ref (hj2 0)), (0, .ref (hh 0)), (1, .ref (hb 0))] → W p l e r1_keep s m args below meth c H locs 8 117 Q0 (F0 m 33 ls []) := by
    intro hj2 d H locs ls hP hD hS hl
    refine x_al hC hl 0 dX1_keep_33 rfl rfl ?_
    refine x_al hC hl 2 dX1_keep_34 rfl rfl ?_
    refine x_vV (As := [.ref (hb 0)]) hC (k0_copyFrom l D cs hj2 hb d.1 d.2.1 d.2.2.1 d.2.2.2.1 d.2.2.2.2.1 d.2.2.2.2.2.1 d.2.2.2.2.2.2.1 d.2.2.2.2.2.2.2.1 d.2.2.2.2.2.2.2.2 b.1 b.2.1 b.2.2.1 b.2.2.2.1 b.2.2.2.2.1 b.2.2.2.2.2.1 b.2.2.2.2.2.2.1 b.2.2.2.2.2.2.2.1 b.2.2.2.2.2.2.2.2) lk1_22 (q0 := 10) (ci := 0) rfl rfl rfl (sub_part (pre' := (wH hh cs G (hN (va_up K j (some (hj2, b)))) ++ wB hb cs b.1 b.2.1 b.2.2.1 b.2.2.2.1 b.2.2.2.2.1 b.2.2.2.2.2.1 b.2.2.2.2.2.2.1 b.2.2.2.2.2.2.2.1 b.2.2.2.2.2.2.2.2) ++ wB hj2 cs b.1 b.2.1 b.2.2.1 b.2.2.2.1 b.2.2.2.2.1 b.2.2.2.2.2.1 b.2.2.2.2.2.2.1 b.2.2.2.2.2.2.2.1 b.2.2.2.2.2.2.2.2) [10, 11, 12, 13, 14, 15, 16, 17, 2, 3, 4, 5, 6, 7, 8, 9] [0, 1] hP hD hS hA (mapE rfl (mapE rfl (mapE rfl (mapE rfl (mapE rfl (mapE rfl (mapE rfl (mapE rfl (mapE rfl (mapE rfl (mapE rfl (mapE rfl (mapE rfl (mapE rfl (mapE rfl (mapE rfl mapN)))))))))))))))) (mapE rfl (mapE rfl (mapE rfl (mapE rfl (mapE rfl (mapE rfl (mapE rfl (mapE rfl (mapE rfl (mapE rfl (mapE rfl (mapE rfl (mapE rfl (mapE rfl (mapE rfl (mapE rfl mapN)))))))))))))))) (by decide) (lenE 18 rfl rfl) (mapG rfl rfl (mapG rfl rfl mapM)) rfl) hP hS rfl hl.1 rfl (Nat.le_of_ble_eq_true rfl) ⟨rfl, rfl⟩ ⟨Nat.le_of_ble_eq_true rfl, Nat.le_of_ble_eq_true rfl⟩ ⟨Nat.le_of_ble_eq_true rfl, Nat.le_of_ble_eq_true rfl⟩ dX1_keep_35 (fun H locs hP hD hS hHs => ?_)
    have hP : va_P D vwCl (((wH hh cs G (hN (va_up K j (some (hj2, b)))) ++ wB hb cs b.1 b.2.1 b.2.2.1 b.2.2.2.1 b.2.2.2.2.1 b.2.2.2.2.2.1 b.2.2.2.2.2.2.1 b.2.2.2.2.2.2.2.1 b.2.2.2.2.2.2.2.2) ++ wB hj2 cs b.1 b.2.1 b.2.2.1 b.2.2.2.1 b.2.2.2.2.1 b.2.2.2.2.2.1 b.2.2.2.2.2.2.1 b.2.2.2.2.2.2.2.1 b.2.2.2.2.2.2.2.2) ++ wR cs K j) H := hP
    have hD : va_D A (((wH hh cs G (hN (va_up K j (some (hj2, b)))) ++ wB hb cs b.1 b.2.1 b.2.2.1 b.2.2.2.1 b.2.2.2.2.1 b.2.2.2.2.2.1 b.2.2.2.2.2.2.1 b.2.2.2.2.2.2.2.1 b.2.2.2.2.2.2.2.2) ++ wB hj2 cs b.1 b.2.1 b.2.2.1 b.2.2.2.1 b.2.2.2.2.1 b.2.2.2.2.2.1 b.2.2.2.2.2.2.1 b.2.2.2.2.2.2.2.1 b.2.2.2.2.2.2.2.2) ++ wR cs K j) := hD
    refine x_al hC hl 1 dX1_keep_38 rfl rfl ?_
    refine x_dup hC dX1_keep_39 rfl ?_
    refine x_get1 (v := .int (iI (G 1))) hC hP 0 rfl 1 (by decide) tb_147 rfl rfl dX1_keep_40 ?_
    refine x_ic hC dX1_keep_43 ?_
    refine x_iadd hC dX1_keep_44 ?_
    refine x_put1_1 hC hP hD hS 0 rfl tb_147 dX1_keep_45 (fun H locs hP hD hS => ?_)
    have hP : va_P D vwCl (((wH hh cs (u1 G 1 (G 1 + 1)) (hN (va_up K j (some (hj2, b)))) ++ wB hb cs b.1 b.2.1 b.2.2.1 b.2.2.2.1 b.2.2.2.2.1 b.2.2.2.2.2.1 b.2.2.2.2.2.2.1 b.2.2.2.2.2.2.2.1 b.2.2.2.2.2.2.2.2) ++ wB hj2 cs b.1 b.2.1 b.2.2.1 b.2.2.2.1 b.2.2.2.2.1 b.2.2.2.2.2.1 b.2.2.2.2.2.2.1 b.2.2.2.2.2.2.2.1 b.2.2.2.2.2.2.2.2) ++ wR cs K j) H := hP
    have hD : va_D A (((wH hh cs (u1 G 1 (G 1 + 1)) (hN (va_up K j (some (hj2, b)))) ++ wB hb cs b.1 b.2.1 b.2.2.1 b.2.2.2.1 b.2.2.2.2.1 b.2.2.2.2.2.1 b.2.2.2.2.2.2.1 b.2.2.2.2.2.2.2.1 b.2.2.2.2.2.2.2.2) ++ wB hj2 cs b.1 b.2.1 b.2.2.1 b.2.2.2.1 b.2.2.2.2.1 b.2.2.2.2.2.1 b.2.2.2.2.2.2.1 b.2.2.2.2.2.2.2.1 b.2.2.2.2.2.2.2.2) ++ wR cs K j) := hD
    refine x_al hC hl 1 dX1_keep_48 rfl rfl ?_
    refine x_al hC hl 1 dX1_keep_49 rfl rfl ?_
    refine x_get1 (v := .int (iI (G 2))) hC hP 0 rfl 2 (by decide) tb_148 rfl rfl dX1_keep_50 ?_
    refine x_ic hC dX1_keep_53 ?_
    refine x_iadd hC dX1_keep_54 ?_
    refine x_ic hC dX1_keep_55 ?_
    refine x_mmin hC tb_291 tb_292 tb_79 tb_293 hl.1 (Nat.le_of_ble_eq_true rfl) (Nat.le_of_ble_eq_true rfl) (Nat.le_of_ble_eq_true rfl) (Nat.le_of_ble_eq_true rfl) (by omega) (by omega) dX1_keep_56 ?_
    refine x_put1_2 hC hP hD hS 0 rfl tb_148 dX1_keep_59 (fun H locs hP hD hS => ?_)
    have hP : va_P D vwCl (((wH hh cs (u1 (u1 G 1 (G 1 + 1)) 2 (mmin2 (G 2 + 1) 4)) (hN (va_up K j (some (hj2, b)))) ++ wB hb cs b.1 b.2.1 b.2.2.1 b.2.2.2.1 b.2.2.2.2.1 b.2.2.2.2.2.1 b.2.2.2.2.2.2.1 b.2.2.2.2.2.2.2.1 b.2.2.2.2.2.2.2.2) ++ wB hj2 cs b.1 b.2.1 b.2.2.1 b.2.2.2.1 b.2.2.2.2.1 b.2.2.2.2.2.1 b.2.2.2.2.2.2.1 b.2.2.2.2.2.2.2.1 b.2.2.2.2.2.2.2.2) ++ wR cs K j) H := hP
    have hD : va_D A (((wH hh cs (u1 (u1 G 1 (G 1 + 1)) 2 (mmin2 (G 2 + 1) 4)) (hN (va_up K j (some (hj2, b)))) ++ wB hb cs b.1 b.2.1 b.2.2.1 b.2.2.2.1 b.2.2.2.2.1 b.2.2.2.2.2.1 b.2.2.2.2.2.2.1 b.2.2.2.2.2.2.2.1 b.2.2.2.2.2.2.2.2) ++ wB hj2 cs b.1 b.2.1 b.2.2.1 b.2.2.2.1 b.2.2.2.2.1 b.2.2.2.2.2.1 b.2.2.2.2.2.2.1 b.2.2.2.2.2.2.2.1 b.2.2.2.2.2.2.2.2) ++ wR cs K j) := hD
    have ek : va_up K j (some (hj2, b)) j = some (hj2, b) := if_pos rfl
    have hp2 := (wHist_perm hh cs (u1 (u1 G 1 (G 1 + 1)) 2 (mmin2 (G 2 + 1) 4)) (va_up K j (some (hj2, b))) hj4 (wb hb cs b)).symm
    rw [ek, wR_up cs K hj4] at hp2
    have hP := vP_perm hP hp2
    have hD := vD_perm hD hp2
    exact hend H locs 62 ls _ ⟨_, hpush hj2, rfl⟩ hP hD hS dX1_keep_62
  refine x_al hC hl 0 dX1_keep_0 rfl rfl ?_
  refine x_get1 (v := .int (iI (G 1))) hC hP 0 rfl 1 (by decide) tb_147 rfl rfl dX1_keep_1 ?_
  refine x_ic hC dX1_keep_4 ?_
  refine x_iand hC dX1_keep_5 (iI (j : Int)) (by rw [hji]; exact and3 (by omega)) ?_
  refine x_is hC [(2, .int (iI (j : Int))), (0, .ref (hh 0)), (1, .ref (hb 0))] hl dX1_keep_6 rfl (by decide) rfl (fun ls hl => ?_)
  refine x_al hC hl 1 dX1_keep_7 rfl rfl ?_
  refine x_get1 (v := .ref (hh 1)) hC hP 0 rfl 0 (by decide) tb_146 rfl rfl dX1_keep_8 ?_
  refine x_il hC hl 0 dX1_keep_11 rfl rfl ?_
  refine va_aldq hC.1 hC.2.1 hC.2.2.2.2.2.1 hP 1 4 rfl rfl (iI_in (by omega) (by omega) (by decide)) dX1_keep_12 ?_
  rw [show (iI (j : Int)).toNatClampNeg = j by rw [iI_clamp (by omega) (by omega)]; rfl]
  rcases hk : K j with _ | ⟨hj2, d⟩
  · rw [hk] at hP hD
    have hP : va_P D vwCl ((wH hh cs G (hN K) ++ wB hb cs b.1 b.2.1 b.2.2.1 b.2.2.2.1 b.2.2.2.2.1 b.2.2.2.2.2.1 b.2.2.2.2.2.2.1 b.2.2.2.2.2.2.2.1 b.2.2.2.2.2.2.2.2) ++ wR cs K j) H := hP
    have hD : va_D A ((wH hh cs G (hN K) ++ wB hb cs b.1 b.2.1 b.2.2.1 b.2.2.2.1 b.2.2.2.2.1 b.2.2.2.2.2.1 b.2.2.2.2.2.2.1 b.2.2.2.2.2.2.2.1 b.2.2.2.2.2.2.2.2) ++ wR cs K j) := hD
    rw [show hN K j = none by unfold hN; rw [hk]; rfl]
    refine lv_astore_nN (lv' := [(3, .null), (2, .int (iI (j : Int))), (0, .ref (hh 0)), (1, .ref (hb 0))]) hC.1 hC.2.1 dX1_keep_13 rfl hl (by decide) rfl (fun ls hl => ?_)
    refine lv_aload_nN hC.1 hC.2.1 dX1_keep_14 rfl (lv_at hl 0 rfl) ?_
    refine lv_ifnonnullN hC.1 hC.2.1 dX1_keep_15 ?_
    refine x_mk0 hC hP hD hS hA tb_144 tb_91 tb_72 (Nat.le_of_ble_eq_true rfl) (Nat.le_of_ble_eq_true rfl) dX1_keep_18 (fun q H hP hD hS => ?_)
    refine W.widen (k := 1) (n := 13) (by omega) (by omega) ?_
    refine x_dup hC dX1_keep_21 rfl ?_
    refine x_iY (As := []) (rest := [.ref q]) hC (k0_init l D cs q) lkI1_21 (subX (wr := (wH hh cs G (hN K) ++ wB hb cs b.1 b.2.1 b.2.2.1 b.2.2.2.1 b.2.2.2.2.1 b.2.2.2.2.2.1 b.2.2.2.2.2.2.1 b.2.2.2.2.2.2.2.1 b.2.2.2.2.2.2.2.2) ++ wR cs K j) (List.Perm.refl _) hP hD hS hA) hP hS rfl hl.1 rfl (Nat.le_of_ble_eq_true rfl) ⟨rfl, rfl⟩ ⟨Nat.le_of_ble_eq_true rfl, Nat.le_of_ble_eq_true rfl⟩ ⟨Nat.le_of_ble_eq_true rfl, Nat.le_of_ble_eq_true rfl⟩ dX1_keep_22 (fun w1 H2 locs2 hpost hP2 hD2 hS2 hz => ?_)
    obtain ⟨hj2, h0q, rfl⟩ := hpost
    subst h0q
    have hq2 : List.Perm (((wH hh cs G (hN K) ++ wB hb cs b.1 b.2.1 b.2.2.1 b.2.2.2.1 b.2.2.2.2.1 b.2.2.2.2.2.1 b.2.2.2.2.2.2.1 b.2.2.2.2.2.2.2.1 b.2.2.2.2.2.2.2.2) ++ wR cs K j) ++ wb hj2 cs bd0) (((wH hh cs G (hN K) ++ wB hb cs b.1 b.2.1 b.2.2.1 b.2.2.2.1 b.2.2.2.2.1 b.2.2.2.2.2.1 b.2.2.2.2.2.2.1 b.2.2.2.2.2.2.2.1 b.2.2.2.2.2.2.2.2) ++ wb hj2 cs bd0) ++ wR cs K j) := by
      rw [List.append_assoc, List.append_assoc (wH hh cs G (hN K) ++ wB hb cs b.1 b.2.1 b.2.2.1 b.2.2.2.1 b.2.2.2.2.1 b.2.2.2.2.2.1 b.2.2.2.2.2.2.1 b.2.2.2.2.2.2.2.1 b.2.2.2.2.2.2.2.2)]
      exact List.Perm.append_left _ List.perm_append_comm
    have hP := vP_perm hP2 hq2
    have hD := vD_perm hD2 hq2
    have hS := hS2
    clear hP2 hD2 hS2
    refine W.widen (k := 8) (n := 117) (by omega) (by omega) ?_
    refine x_as hC [(3, .ref (hj2 0)), (2, .int (iI (j : Int))), (0, .ref (hh 0)), (1, .ref (hb 0))] hl dX1_keep_25 rfl (by decide) rfl (fun ls hl => ?_)
    refine x_al hC hl 2 dX1_keep_26 rfl rfl ?_
    refine x_get1 (v := .ref (hh 1)) hC hP 0 rfl 0 (by decide) tb_146 rfl rfl dX1_keep_27 ?_
    refine x_il hC hl 1 dX1_keep_30 rfl rfl ?_
    refine x_al hC hl 0 dX1_keep_31 rfl rfl ?_
    refine va_astq hC.1 hC.2.1 hC.2.2.2.2.2.1 hP hD hS 1 4 10 0 rfl rfl rfl rfl (iI_in (by omega) (by omega) (by decide)) dX1_keep_32 (fun H locs hP hD hS => ?_)
    rw [show (iI (j : Int)).toNatClampNeg = j by rw [iI_clamp (by omega) (by omega)]; rfl] at hP hD
    have ew : wH hh cs G (va_up (hN K) j (some (hj2 0))) = wH hh cs G (hN (va_up K j (some (hj2, b)))) := wHc rfl (hN_up K j hj2 b).symm
    have hP : va_P D vwCl (((wH hh cs G (va_up (hN K) j (some (hj2 0))) ++ wB hb cs b.1 b.2.1 b.2.2.1 b.2.2.2.1 b.2.2.2.2.1 b.2.2.2.2.2.1 b.2.2.2.2.2.2.1 b.2.2.2.2.2.2.2.1 b.2.2.2.2.2.2.2.2) ++ wb hj2 cs bd0) ++ wR cs K j) H := hP
    have hD : va_D A (((wH hh cs G (va_up (hN K) j (some (hj2 0))) ++ wB hb cs b.1 b.2.1 b.2.2.1 b.2.2.2.1 b.2.2.2.2.1 b.2.2.2.2.2.1 b.2.2.2.2.2.2.1 b.2.2.2.2.2.2.2.1 b.2.2.2.2.2.2.2.2) ++ wb hj2 cs bd0) ++ wR cs K j) := hD
    rw [ew] at hP hD
    exact tail hj2 bd0 H locs ls hP hD hS (lv_sub hl [0, 2, 3] rfl)
  · rw [hk] at hP hD
    have hP : va_P D vwCl (((wH hh cs G (hN K) ++ wB hb cs b.1 b.2.1 b.2.2.1 b.2.2.2.1 b.2.2.2.2.1 b.2.2.2.2.2.1 b.2.2.2.2.2.2.1 b.2.2.2.2.2.2.2.1 b.2.2.2.2.2.2.2.2) ++ wB hj2 cs d.1 d.2.1 d.2.2.1 d.2.2.2.1 d.2.2.2.2.1 d.2.2.2.2.2.1 d.2.2.2.2.2.2.1 d.2.2.2.2.2.2.2.1 d.2.2.2.2.2.2.2.2) ++ wR cs K j) H := hP
    have hD : va_D A (((wH hh cs G (hN K) ++ wB hb cs b.1 b.2.1 b.2.2.1 b.2.2.2.1 b.2.2.2.2.1 b.2.2.2.2.2.1 b.2.2.2.2.2.2.1 b.2.2.2.2.2.2.2.1 b.2.2.2.2.2.2.2.2) ++ wB hj2 cs d.1 d.2.1 d.2.2.1 d.2.2.2.1 d.2.2.2.2.1 d.2.2.2.2.2.1 d.2.2.2.2.2.2.1 d.2.2.2.2.2.2.2.1 d.2.2.2.2.2.2.2.2) ++ wR cs K j) := hD
    rw [show hN K j = some (hj2 0) by unfold hN; rw [hk]; rfl]
    refine x_as hC [(3, .ref (hj2 0)), (2, .int (iI (j : Int))), (0, .ref (hh 0)), (1, .ref (hb 0))] hl dX1_keep_13 rfl (by decide) rfl (fun ls hl => ?_)
    refine x_al hC hl 0 dX1_keep_14 rfl rfl ?_
    refine lv_ifnonnull (tgt := 33) hC.1 hC.2.1 dX1_keep_15 (by decide) ?_
    refine W.widen (k := 8) (n := 117) (by omega) (by omega) ?_
    rw [← hN_same K b hk] at hP hD
    exact tail hj2 d H locs ls hP hD hS (lv_sub hl [0, 2, 3] rfl)
abbrev r1_giveBack : Room := { frames := 3, cells := 0, slots := 0, locals := 80 }
set_option maxHeartbeats 4000000 in
set_option maxRecDepth 100000 in
theorem k1_giveBack (l : Launch) (D : va_G) (cs : Nat → ClassId) (hh hb : Nat → Nat) (Q : List Bd) (U : Int) (w : va_W) (b : Bd) (hw : HW hh cs Q U w) (hU : U ≤ 1000000) : CX l D cs yX1_giveBack cX1_giveBack 3 .int r1_giveBack 0 0 [.ref (hh 0), .ref (hb 0)] (w ++ wb hb cs b) (fun v w1 => (Q = [] ∧ v = iI (-1000002) ∧ w1 = w ++ wb hb cs b) ∨ ∃ (Q2 : List Bd) (c : Bd) (w' : va_W), Q = Q2 ++ [c] ∧ v = iI (Q2.length : Int) ∧ HW hh cs Q2 U w' ∧ w1 = w' ++ wb hb cs c) := by
  refine CX_start (own := RX1) (by decide) rfl (Nat.le_of_ble_eq_true rfl) ?_
  intro p e s m args below meth c Q0 A ls hC hl hP hD hA hS hend
  have hl : lv_has ls 3 [(0, .ref (hh 0)), (1, .ref (hb 0))] := hl
  obtain ⟨H, hH⟩ : ∃ H : Heap, H = s.heap := ⟨_, rfl⟩
  have hS : va_S A s.heap H [] := by rw [hH]; exact hS
  rw [← hH] at hP
  obtain ⟨locs, hlocs⟩ : ∃ locs : List Loc, locs = [] := ⟨_, rfl⟩
  rw [← hlocs] at hS
  suffices hgo : W p l e r1_giveBack s m args below meth c H locs 0 0 Q0 (F0 m 0 ls []) by rw [← hH, ← hlocs]; exact hgo
  clear hH hlocs
  obtain ⟨G, K, rfl, h2, h3, h4⟩ := hw
  obtain ⟨j, hj⟩ : ∃ j : Nat, j = ((G 1 - 1) % 4).toNat := ⟨_, rfl⟩
  have hj4 : j < 4 := by omega
  have hji : (j : Int) = (G 1 - 1) % 4 := by omega
  have hperm := wHist_perm hh cs G K hj4 (wb hb cs b)
  have hP := vP_perm hP hperm
  have hD := vD_perm hD hperm
  have fin0 : ∀ (pc : Nat) (ls : Array Slot) (H : Heap) (locs : List Loc), G 2 = 0 → va_P D vwCl (((wH hh cs G (hN K) ++ wb hb cs b) ++ wK cs (K j)) ++ wR cs K j) H → va_D A (((wH hh cs G (hN K) ++ wb hb cs b) ++ wK cs (K j)) ++ wR cs K j) → va_S A s.heap H locs → W p l e r1_giveBack s m args below meth c H locs 0 0 Q0 (F0 m 25 ls []) := by
    intro pc ls H locs hg hP hD hS
    refine x_ldc hC (-1000002) tb_533 (by decide) dX1_giveBack_25 ?_
    have hq : Q = [] := List.eq_nil_of_length_eq_zero (by omega)
    exact hend H locs 27 ls _ _ (Or.inl ⟨hq, rfl, rfl⟩) (vP_perm hP hperm.symm) (vD_perm hD hperm.symm) hS dX1_giveBack_27
  refine x_al hC hl 0 dX1_giveBack_0 rfl rfl ?_
  refine x_get1 (v := .ref (hh 1)) hC hP 0 rfl 0 (by decide) tb_146 rfl rfl dX1_giveBack_1 ?_
  refine x_al hC hl 0 dX1_giveBack_4 rfl rfl ?_
  refine x_get1 (v := .int (iI (G 1))) hC hP 0 rfl 1 (by decide) tb_147 rfl rfl dX1_giveBack_5 ?_
  refine x_ic hC dX1_giveBack_8 ?_
  refine x_isub hC dX1_giveBack_9 ?_
  refine x_ic hC dX1_giveBack_10 ?_
  refine x_iand hC dX1_giveBack_11 (iI (j : Int)) (by rw [hji]; exact and3 (by omega)) ?_
  refine va_aldq hC.1 hC.2.1 hC.2.2.2.2.2.1 hP 1 4 rfl rfl (iI_in (by omega) (by omega) (by decide)) dX1_giveBack_12 ?_
  rw [show (iI (j : Int)).toNatClampNeg = j by rw [iI_clamp (by omega) (by omega)]; rfl]
  by_cases hg : G 2 = 0
  · rcases hk : K j with _ | ⟨hj2, d⟩
    · rw [show hN K j = none by unfold hN; rw [hk]; rfl]
      refine lv_astore_nN (lv' := [(2, .null), (0, .ref (hh 0)), (1, .ref (hb 0))]) hC.1 hC.2.1 dX1_giveBack_13 rfl hl (by decide) rfl (fun ls hl => ?_)
      refine x_al hC hl 1 dX1_giveBack_14 rfl rfl ?_
      refine x_get1 (v := .int (iI (G 2))) hC hP 0 rfl 2 (by decide) tb_148 rfl rfl dX1_giveBack_15 ?_
      refine x_if_eq hC 25 dX1_giveBack_18 (by decide) (by omega) (fun _ => ?_) (fun hz => absurd hg hz)
      exact fin0 0 ls H locs hg hP hD hS
    · rw [show hN K j = some (hj2 0) by unfold hN; rw [hk]; rfl]
      refine x_as hC [(2, .ref (hj2 0)), (0, .ref (hh 0)), (1, .ref (hb 0))] hl dX1_giveBack_13 rfl (by decide) rfl (fun ls hl => ?_)
      refine x_al hC hl 1 dX1_giveBack_14 rfl rfl ?_
      refine x_get1 (v := .int (iI (G 2))) hC hP 0 rfl 2 (by decide) tb_148 rfl rfl dX1_giveBack_15 ?_
      refine x_if_eq hC 25 dX1_giveBack_18 (by decide) (by omega) (fun _ => ?_) (fun hz => absurd hg hz)
      exact fin0 0 ls H locs hg hP hD hS
  · have hne : Q ≠ [] := fun q => hg (by rw [h2.1, q]; rfl)
    obtain ⟨Q2, d, rfl⟩ : ∃ (Q2 : List Bd) (d : Bd), Q = Q2 ++ [d] := ⟨Q.dropLast, Q.getLast hne, (List.dropLast_concat_getLast hne).symm⟩
    rw [List.length_append, List.length_singleton] at h2
    obtain ⟨hj2, hk⟩ := h4 Q2.length d (by rw [List.getElem?_append_right (Nat.le_refl _), Nat.sub_self]; rfl)
    have ejj : ((G 1 - G 2 + (Q2.length : Int)) % 4).toNat = j := by rw [hj]; congr 2; omega
    rw [ejj] at hk
    rw [hk] at hP hD
    have hP : va_P D vwCl (((wH hh cs G (hN K) ++ wB hb cs b.1 b.2.1 b.2.2.1 b.2.2.2.1 b.2.2.2.2.1 b.2.2.2.2.2.1 b.2.2.2.2.2.2.1 b.2.2.2.2.2.2.2.1 b.2.2.2.2.2.2.2.2) ++ wB hj2 cs d.1 d.2.1 d.2.2.1 d.2.2.2.1 d.2.2.2.2.1 d.2.2.2.2.2.1 d.2.2.2.2.2.2.1 d.2.2.2.2.2.2.2.1 d.2.2.2.2.2.2.2.2) ++ wR cs K j) H := hP
    have hD : va_D A (((wH hh cs G (hN K) ++ wB hb cs b.1 b.2.1 b.2.2.1 b.2.2.2.1 b.2.2.2.2.1 b.2.2.2.2.2.1 b.2.2.2.2.2.2.1 b.2.2.2.2.2.2.2.1 b.2.2.2.2.2.2.2.2) ++ wB hj2 cs d.1 d.2.1 d.2.2.1 d.2.2.2.1 d.2.2.2.2.1 d.2.2.2.2.2.1 d.2.2.2.2.2.2.1 d.2.2.2.2.2.2.2.1 d.2.2.2.2.2.2.2.2) ++ wR cs K j) := hD
    rw [show hN K j = some (hj2 0) by unfold hN; rw [hk]; rfl]
    refine x_as hC [(2, .ref (hj2 0)), (0, .ref (hh 0)), (1, .ref (hb 0))] hl dX1_giveBack_13 rfl (by decide) rfl (fun ls hl => ?_)
    refine x_al hC hl 1 dX1_giveBack_14 rfl rfl ?_
    refine x_get1 (v := .int (iI (G 2))) hC hP 0 rfl 2 (by decide) tb_148 rfl rfl dX1_giveBack_15 ?_
    refine x_if_eq hC 25 dX1_giveBack_18 (by decide) (by omega) (fun hz => absurd hz hg) (fun _ => ?_)
    refine x_al hC hl 0 dX1_giveBack_21 rfl rfl ?_
    refine lv_ifnonnull (tgt := 28) hC.1 hC.2.1 dX1_giveBack_22 (by decide) ?_
    refine x_al hC hl 2 dX1_giveBack_28 rfl rfl ?_
    refine x_al hC hl 0 dX1_giveBack_29 rfl rfl ?_
    refine x_vV (As := [.ref (hj2 0)]) hC (k0_copyFrom l D cs hb hj2 b.1 b.2.1 b.2.2.1 b.2.2.2.1 b.2.2.2.2.1 b.2.2.2.2.2.1 b.2.2.2.2.2.2.1 b.2.2.2.2.2.2.2.1 b.2.2.2.2.2.2.2.2 d.1 d.2.1 d.2.2.1 d.2.2.2.1 d.2.2.2.2.1 d.2.2.2.2.2.1 d.2.2.2.2.2.2.1 d.2.2.2.2.2.2.2.1 d.2.2.2.2.2.2.2.2) lk1_22 (q0 := 2) (ci := 0) rfl rfl rfl (sub_part (pre' := (wH hh cs G (hN K) ++ wB hb cs d.1 d.2.1 d.2.2.1 d.2.2.2.1 d.2.2.2.2.1 d.2.2.2.2.2.1 d.2.2.2.2.2.2.1 d.2.2.2.2.2.2.2.1 d.2.2.2.2.2.2.2.2) ++ wB hj2 cs d.1 d.2.1 d.2.2.1 d.2.2.2.1 d.2.2.2.2.1 d.2.2.2.2.2.1 d.2.2.2.2.2.2.1 d.2.2.2.2.2.2.2.1 d.2.2.2.2.2.2.2.2) [2, 3, 4, 5, 6, 7, 8, 9, 10, 11, 12, 13, 14, 15, 16, 17] [0, 1] hP hD hS hA (mapE rfl (mapE rfl (mapE rfl (mapE rfl (mapE rfl (mapE rfl (mapE rfl (mapE rfl (mapE rfl (mapE rfl (mapE rfl (mapE rfl (mapE rfl (mapE rfl (mapE rfl (mapE rfl mapN)))))))))))))))) (mapE rfl (mapE rfl (mapE rfl (mapE rfl (mapE rfl (mapE rfl (mapE rfl (mapE rfl (mapE rfl (mapE rfl (mapE rfl (mapE rfl (mapE rfl (mapE rfl (mapE rfl (mapE rfl mapN)))))))))))))))) (by decide) (lenE 18 rfl rfl) (mapG rfl rfl (mapG rfl rfl mapM)) rfl) hP hS rfl hl.1 rfl (Nat.le_of_ble_eq_true rfl) ⟨rfl, rfl⟩ ⟨Nat.le_of_ble_eq_true rfl, Nat.le_of_ble_eq_true rfl⟩ ⟨Nat.le_of_ble_eq_true rfl, Nat.le_of_ble_eq_true rfl⟩ dX1_giveBack_30 (fun H locs hP hD hS hHs => ?_)
    have hP : va_P D vwCl (((wH hh cs G (hN K) ++ wB hb cs d.1 d.2.1 d.2.2.1 d.2.2.2.1 d.2.2.2.2.1 d.2.2.2.2.2.1 d.2.2.2.2.2.2.1 d.2.2.2.2.2.2.2.1 d.2.2.2.2.2.2.2.2) ++ wB hj2 cs d.1 d.2.1 d.2.2.1 d.2.2.2.1 d.2.2.2.2.1 d.2.2.2.2.2.1 d.2.2.2.2.2.2.1 d.2.2.2.2.2.2.2.1 d.2.2.2.2.2.2.2.2) ++ wR cs K j) H := hP
    have hD : va_D A (((wH hh cs G (hN K) ++ wB hb cs d.1 d.2.1 d.2.2.1 d.2.2.2.1 d.2.2.2.2.1 d.2.2.2.2.2.1 d.2.2.2.2.2.2.1 d.2.2.2.2.2.2.2.1 d.2.2.2.2.2.2.2.2) ++ wB hj2 cs d.1 d.2.1 d.2.2.1 d.2.2.2.1 d.2.2.2.2.1 d.2.2.2.2.2.1 d.2.2.2.2.2.2.1 d.2.2.2.2.2.2.2.1 d.2.2.2.2.2.2.2.2) ++ wR cs K j) := hD
    refine x_al hC hl 1 dX1_giveBack_33 rfl rfl ?_
    refine x_dup hC dX1_giveBack_34 rfl ?_
    refine x_get1 (v := .int (iI (G 1))) hC hP 0 rfl 1 (by decide) tb_147 rfl rfl dX1_giveBack_35 ?_
    refine x_ic hC dX1_giveBack_38 ?_
    refine x_isub hC dX1_giveBack_39 ?_
    refine x_put1_1 hC hP hD hS 0 rfl tb_147 dX1_giveBack_40 (fun H locs hP hD hS => ?_)
    have hP : va_P D vwCl (((wH hh cs (u1 G 1 (G 1 - 1)) (hN K) ++ wB hb cs d.1 d.2.1 d.2.2.1 d.2.2.2.1 d.2.2.2.2.1 d.2.2.2.2.2.1 d.2.2.2.2.2.2.1 d.2.2.2.2.2.2.2.1 d.2.2.2.2.2.2.2.2) ++ wB hj2 cs d.1 d.2.1 d.2.2.1 d.2.2.2.1 d.2.2.2.2.1 d.2.2.2.2.2.1 d.2.2.2.2.2.2.1 d.2.2.2.2.2.2.2.1 d.2.2.2.2.2.2.2.2) ++ wR cs K j) H := hP
    have hD : va_D A (((wH hh cs (u1 G 1 (G 1 - 1)) (hN K) ++ wB hb cs d.1 d.2.1 d.2.2.1 d.2.2.2.1 d.2.2.2.2.1 d.2.2.2.2.2.1 d.2.2.2.2.2.2.1 d.2.2.2.2.2.2.2.1 d.2.2.2.2.2.2.2.2) ++ wB hj2 cs d.1 d.2.1 d.2.2.1 d.2.2.2.1 d.2.2.2.2.1 d.2.2.2.2.2.1 d.2.2.2.2.2.2.1 d.2.2.2.2.2.2.2.1 d.2.2.2.2.2.2.2.2) ++ wR cs K j) := hD
    refine x_al hC hl 1 dX1_giveBack_43 rfl rfl ?_
    refine x_dup hC dX1_giveBack_44 rfl ?_
    refine x_get1 (v := .int (iI (G 2))) hC hP 0 rfl 2 (by decide) tb_148 rfl rfl dX1_giveBack_45 ?_
    refine x_ic hC dX1_giveBack_48 ?_
    refine x_isub hC dX1_giveBack_49 ?_
    refine x_put1_2 hC hP hD hS 0 rfl tb_148 dX1_giveBack_50 (fun H locs hP hD hS => ?_)
    have hP : va_P D vwCl (((wH hh cs (u1 (u1 G 1 (G 1 - 1)) 2 (G 2 - 1)) (hN K) ++ wB hb cs d.1 d.2.1 d.2.2.1 d.2.2.2.1 d.2.2.2.2.1 d.2.2.2.2.2.1 d.2.2.2.2.2.2.1 d.2.2.2.2.2.2.2.1 d.2.2.2.2.2.2.2.2) ++ wB hj2 cs d.1 d.2.1 d.2.2.1 d.2.2.2.1 d.2.2.2.2.1 d.2.2.2.2.2.1 d.2.2.2.2.2.2.1 d.2.2.2.2.2.2.2.1 d.2.2.2.2.2.2.2.2) ++ wR cs K j) H := hP
    have hD : va_D A (((wH hh cs (u1 (u1 G 1 (G 1 - 1)) 2 (G 2 - 1)) (hN K) ++ wB hb cs d.1 d.2.1 d.2.2.1 d.2.2.2.1 d.2.2.2.2.1 d.2.2.2.2.2.1 d.2.2.2.2.2.2.1 d.2.2.2.2.2.2.2.1 d.2.2.2.2.2.2.2.2) ++ wB hj2 cs d.1 d.2.1 d.2.2.1 d.2.2.2.1 d.2.2.2.2.1 d.2.2.2.2.2.1 d.2.2.2.2.2.2.1 d.2.2.2.2.2.2.2.1 d.2.2.2.2.2.2.2.2) ++ wR cs K j) := hD
    refine x_al hC hl 1 dX1_giveBack_53 rfl rfl ?_
    refine x_get1 (v := .int (iI (G 2 - 1))) hC hP 0 rfl 2 (by decide) tb_148 rfl rfl dX1_giveBack_54 ?_
    have hp2 := (wHist_perm hh cs (u1 (u1 G 1 (G 1 - 1)) 2 (G 2 - 1)) K hj4 (wb hb cs d)).symm
    rw [hk] at hp2
    have e1 : u1 (u1 G 1 (G 1 - 1)) 2 (G 2 - 1) 1 = G 1 - 1 := by rw [u1_n (by omega), u1_s]
    have e2 : u1 (u1 G 1 (G 1 - 1)) 2 (G 2 - 1) 2 = G 2 - 1 := u1_s
    refine hend H locs 57 ls _ _ (Or.inr ⟨Q2, d, _, rfl, congrArg iI (by omega : G 2 - 1 = (Q2.length : Int)), ⟨_, _, rfl, ?_, ?_, fun i x hx => ?_⟩, rfl⟩) (vP_perm hP hp2) (vD_perm hD hp2) hS dX1_giveBack_57
    · rw [e2]; omega
    · rw [e1, e2]; omega
    · rw [e1, e2]
      obtain ⟨g, hg2⟩ := h4 i x (by rw [List.getElem?_append_left (List.getElem?_eq_some_iff.mp hx).1]; exact hx)
      refine ⟨g, ?_⟩
      rw [← hg2]
      congr 2; omega
