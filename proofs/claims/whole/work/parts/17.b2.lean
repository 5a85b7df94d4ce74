theorem lk0_68 : LkN RX0 68 yX4_isRoom "OnlineRooms" cX4_isRoom 1 (some .boolean) 1 := ⟨tb_274, by decide +kernel, tb_273, tb_71, by decide +kernel⟩
theorem lk0_78 : LkV RX0 78 yX0_placeOf cX0_placeOf 2 (some .int) 1 := ⟨tb_305, tb_302, tb_304, tb_7, tb_72, by decide +kernel⟩
theorem lk0_85 : LkV RX0 85 yX0_couldGo cX0_couldGo 3 (some .boolean) 2 := ⟨tb_322, tb_319, tb_321, tb_9, tb_72, by decide +kernel⟩
theorem lk0_95 : LkV RX0 95 yX0_openRooms cX0_openRooms 1 (some .int) 0 := ⟨tb_343, tb_340, tb_341, tb_342, tb_72, by decide +kernel⟩
theorem lk0_138 : LkV RX0 138 yX0_otherRooms cX0_otherRooms 4 (some .int) 1 := ⟨tb_393, tb_390, tb_392, tb_12, tb_72, by decide +kernel⟩
theorem lk0_141 : LkV RX0 141 yX0_talksBeside cX0_talksBeside 6 (some .int) 1 := ⟨tb_397, tb_394, tb_396, tb_13, tb_72, by decide +kernel⟩
theorem lk0_144 : LkV RX0 144 yX0_talksIn cX0_talksIn 4 (some .int) 1 := ⟨tb_409, tb_406, tb_408, tb_14, tb_72, by decide +kernel⟩
theorem lk0_147 : LkS RX0 147 yJ6_bitCount_0f7a4 cJ6_bitCount_0f7a4 1 (some .int) 1 := ⟨tb_346, tb_344, tb_345, tb_80, by decide +kernel⟩
theorem lk0_151 : LkV RX0 151 yX0_longestFree cX0_longestFree 5 (some .int) 1 := ⟨tb_413, tb_410, tb_412, tb_15, tb_72, by decide +kernel⟩
theorem lk0_154 : LkV RX0 154 yX0_isTaken cX0_isTaken 3 (some .boolean) 2 := ⟨tb_417, tb_414, tb_416, tb_16, tb_72, by decide +kernel⟩
theorem lk0_162 : LkV RX0 162 yX0_takesHour cX0_takesHour 3 (some .boolean) 2 := ⟨tb_433, tb_430, tb_432, tb_17, tb_72, by decide +kernel⟩
theorem lk0_165 : LkV RX0 165 yX0_fewestRooms cX0_fewestRooms 3 (some .int) 0 := ⟨tb_519, tb_516, tb_518, tb_20, tb_72, by decide +kernel⟩
theorem lk0_168 : LkV RX0 168 yX0_hoursTaken cX0_hoursTaken 3 (some .int) 0 := ⟨tb_524, tb_521, tb_523, tb_21, tb_72, by decide +kernel⟩
theorem lk0_171 : LkV RX0 171 yX0_talksAt cX0_talksAt 4 (some .int) 1 := ⟨tb_442, tb_520, tb_440, tb_441, tb_72, by decide +kernel⟩
/-! boards: the class's readers -/
def bTk (F E P : Int → Int) (t h : Int) : Prop := ¬ P t = -1 ∧ F t ≤ h ∧ h < E t
noncomputable def bLow (O : Nat → Bool) (F E Z P R : Int → Int) (T : Int → Nat → Bool) (t : Int) : Int := fstI (fun r => bGo O F E Z P R T t r) (-1) (8 - (0 : Int)).toNat 0
def bBes (F E P : Int → Int) (t u : Int) : Prop := ¬ u = t ∧ ¬ P u = -1 ∧ ¬ ∀ k : Nat, k < 48 → (iv (F t) (E t) k && iv (F u) (E u) k) = false
noncomputable def bLongS (T : Int → Nat → Bool) (r h : Int) (x : Int × Int) : Int × Int := (mmax2 x.1 (iif (T r h.toNat = true) 0 (x.2 + 1)), iif (T r h.toNat = true) 0 (x.2 + 1))
noncomputable def bLong (T : Int → Nat → Bool) (r n : Int) : Int × Int := fI (bLongS T r) (0, 0) n
theorem bLong_s (T : Int → Nat → Bool) (r : Int) {i : Int} (h : 0 ≤ i) : bLong T r (i + 1) = bLongS T r i (bLong T r i) := fI_s h
theorem bLong_rg (T : Int → Nat → Bool) (r : Int) {n : Int} (h0 : 0 ≤ n) : (0 ≤ (bLong T r n).1 ∧ (bLong T r n).1 ≤ n) ∧ 0 ≤ (bLong T r n).2 ∧ (bLong T r n).2 ≤ n := by
  refine fI_ind (fun n (x : Int × Int) => (0 ≤ x.1 ∧ x.1 ≤ n) ∧ 0 ≤ x.2 ∧ x.2 ≤ n) (by simp) (fun i x hi hin hx => ?_) h0
  have h1 := mmax2_rg x.1 (iif (T r i.toNat = true) 0 (x.2 + 1))
  unfold bLongS
  dsimp only
  by_cases c : T r i.toNat = true
  · rw [iif_t c] at h1 ⊢; omega
  · rw [iif_f c] at h1 ⊢; omega
noncomputable def bAtS (F E P : Int → Int) (h t x : Int) : Int := iif (bTk F E P t h) (x + 1) x
noncomputable def bAt (F E P : Int → Int) (h n : Int) : Int := fI (bAtS F E P h) 0 n
theorem bAt_s (F E P : Int → Int) (h : Int) {i : Int} (h0 : 0 ≤ i) : bAt F E P h (i + 1) = bAtS F E P h i (bAt F E P h i) := fI_s h0
theorem bAt_rg (F E P : Int → Int) (h : Int) {n : Int} (h0 : 0 ≤ n) : 0 ≤ bAt F E P h n ∧ bAt F E P h n ≤ n := by
  refine fI_ind (fun n x => 0 ≤ x ∧ x ≤ n) (by simp) (fun i x hi hin hx => ?_) h0
  unfold bAtS iif
  split <;> omega
noncomputable def bFew (F E P : Int → Int) (n : Int) : Int := fI (fun h x => mmax2 x (bAt F E P h 20)) 0 n
theorem bFew_s (F E P : Int → Int) {i : Int} (h0 : 0 ≤ i) : bFew F E P (i + 1) = mmax2 (bFew F E P i) (bAt F E P i 20) := fI_s h0
theorem bFew_rg (F E P : Int → Int) {n : Int} (h0 : 0 ≤ n) : 0 ≤ bFew F E P n ∧ bFew F E P n ≤ 20 := by
  refine fI_ind (fun n x => 0 ≤ x ∧ x ≤ 20) (by simp) (fun i x hi hin hx => ?_) h0
  have h1 := bAt_rg F E P i (n := 20) (by omega)
  have h2 := mmax2_rg x (bAt F E P i 20)
  omega
noncomputable def bHrs (T : Int → Nat → Bool) (n : Int) : Int := fI (fun r x => x + ((cntN (T r) 48 : Nat) : Int)) 0 n
noncomputable def bElse (P Q : Int → Int) (n : Int) : Int := fI (fun t x => iif (P t = Q t) x (x + 1)) 0 n
theorem bElse_s (P Q : Int → Int) {i : Int} (h0 : 0 ≤ i) : bElse P Q (i + 1) = iif (P i = Q i) (bElse P Q i) (bElse P Q i + 1) := fI_s h0
noncomputable def bTalkIn (F E P : Int → Int) (r h : Int) : Int := fstI (fun t => P t = r ∧ bTk F E P t h) (-1) (20 - (0 : Int)).toNat 0
noncomputable def bTalkOf (O : Nat → Bool) (F E Z P R : Int → Int) (T : Int → Nat → Bool) (t w : Int) : Int32 := iif (w = 0) (iI (F t)) (iif (w = 1) (iI (E t)) (iif (w = 2) (iI (Z t)) (iif (w = 3) (iI (P t)) (iif (w = 4) (mskI (fun r => bGo O F E Z P R T t r) 8) (iif (w = 5) (mskI (fun u => bBes F E P t u) 20) (iI (-1000001)))))))
noncomputable def bRoomOf (O : Nat → Bool) (P R C : Int → Int) (T : Int → Nat → Bool) (r w : Int) : Int32 := iif (w = 0) (iI (R r)) (iif (w = 1) (iI (C r)) (iif (w = 2) (iI (b2p (O r.toNat = true))) (iif (w = 3) (iI ((cntN (bd (fun t => P t = r)) 20 : Nat) : Int)) (iif (w = 4) (iI ((cntN (T r) 48 : Nat) : Int)) (iif (w = 5) (mskI (fun t => P t = r) 20) (iif (w = 6) (iI (bLong T r 48).1) (iI (-1000001))))))))
noncomputable def bNum (O : Nat → Bool) (G F E P : Int → Int) (T : Int → Nat → Bool) (w : Int) : Int := iif (w = 0) (G 8 - G 9) (iif (w = 1) (G 8) (iif (w = 2) ((cntN O 8 : Nat) : Int) (iif (w = 3) (G 10) (iif (w = 4) (G 11) (iif (w = 5) (bFew F E P 48) (iif (w = 6) (bHrs T 8) (iif (w = 7) (G 9) (-1000001))))))))

abbrev r0_lowestOther : Room := { frames := 2, cells := 0, slots := 0, locals := 46 }
set_option maxHeartbeats 4000000 in
set_option maxRecDepth 100000 in
theorem k0_lowestOther (l : Launch) (D : va_G) (cs : Nat → ClassId) (h : Nat → Nat) (bO : Nat → Bool) (bG : Int → Int) (bF : Int → Int) (bE : Int → Int) (bZ : Int → Int) (bP : Int → Int) (bR : Int → Int) (bC : Int → Int) (bT : Int → Nat → Bool) (talk : Int) (hB : IB bF bE bZ bP bR bC) (h1 : 0 ≤ talk ∧ talk < 20) (h3 : ¬ bP talk = -1) : CI l D cs yX0_lowestOther cX0_lowestOther 3 .int r0_lowestOther 0 0 [.ref (h 0), .int (iI talk)] (wB h cs bO bG bF bE bZ bP bR bC bT) (wB h cs bO bG bF bE bZ bP bR bC bT) (iI (bLow bO bF bE bZ bP bR bT talk)) := by
  refine CI_start (own := RX0) (by decide) rfl rfl (Nat.le_of_ble_eq_true rfl) ?_
  intro p e s m args below meth c Q A ls hC hl hP hD hA hS hend
  have hl : lv_has ls 3 [(0, .ref (h 0)), (1, .int (iI talk))] := hl
  obtain ⟨H, hH⟩ : ∃ H : Heap, H = s.heap := ⟨_, rfl⟩
  have hS : va_S A s.heap H [] := by rw [hH]; exact hS
  rw [← hH] at hP
  obtain ⟨locs, hlocs⟩ : ∃ locs : List Loc, locs = [] := ⟨_, rfl⟩
  rw [← hlocs] at hS
  suffices hgo : W p l e r0_lowestOther s m args below meth c H locs 0 0 Q (F0 m 0 ls []) by rw [← hH, ← hlocs]; exact hgo
  clear hH hlocs
  refine x_ic hC dX0_lowestOther_0 ?_
  refine x_is hC [(2, .int (iI 0)), (0, .ref (h 0)), (1, .int (iI talk))] hl dX0_lowestOther_1 rfl (by decide) rfl (fun ls hl => ?_)
  have loop_2 : ∀ (n : Nat) (i : Int), (hi0 : 0 ≤ i) → (hiN : i ≤ 8) → (hf : fstI (fun r => bGo bO bF bE bZ bP bR bT talk r) (-1) (8 - i).toNat i = bLow bO bF bE bZ bP bR bT talk) → (8 - i) < (n : Int) → ∀ (H : Heap) (locs : List Loc) (ls : Array Slot), va_P D vwCl (wB h cs bO bG bF bE bZ bP bR bC bT) H → va_D A (wB h cs bO bG bF bE bZ bP bR bC bT) → va_S A s.heap H locs → lv_has ls 3 [(2, .int (iI i)), (0, .ref (h 0)), (1, .int (iI talk))] → W p l e r0_lowestOther s m args below meth c H locs 0 0 Q (F0 m 2 ls []) := by
    intro n
    induction n with
    | zero =>
      intro i hi0 hiN hf hnn
      exfalso; omega
    | succ n ih_2 =>
      intro i hi0 hiN hf hnn H locs ls hP hD hS hl
      refine x_il hC hl 0 dX0_lowestOther_2 rfl rfl ?_
      refine x_bi hC dX0_lowestOther_3 (by decide) ?_
      refine x_ic_ge hC 25 dX0_lowestOther_5 (by decide) (by omega) (by omega) (fun c_5 => ?_) (fun c_5 => ?_)
      · obtain rfl : i = 8 := by omega
        refine x_ic hC dX0_lowestOther_25 ?_
        exact x_retI (congrArg iI (by exact (fstI_e (by omega)).symm.trans hf : (-1) = bLow bO bF bE bZ bP bR bT talk)) hend hP hD hS dX0_lowestOther_26
      · refine x_al hC hl 1 dX0_lowestOther_8 rfl rfl ?_
        refine x_il hC hl 2 dX0_lowestOther_9 rfl rfl ?_
        refine x_il hC hl 0 dX0_lowestOther_10 rfl rfl ?_
        refine x_vI (As := [.int (iI talk), .int (iI i)]) hC (k0_couldGo l D cs h bO bG bF bE bZ bP bR bC bT talk i (by first | assumption | omega) (by first | assumption | omega) (by first | assumption | omega) (by first | assumption | omega)) lk0_85 (q0 := 0) (ci := 0) rfl rfl rfl (sub_all hP hD hS hA) hP hS rfl hl.1 rfl (Nat.le_of_ble_eq_true rfl) ⟨rfl, rfl⟩ ⟨Nat.le_of_ble_eq_true rfl, Nat.le_of_ble_eq_true rfl⟩ ⟨Nat.le_of_ble_eq_true rfl, Nat.le_of_ble_eq_true rfl⟩ dX0_lowestOther_11 (fun H locs hP hD hS hHs => ?_)
        refine x_if_eq_b hC 19 dX0_lowestOther_14 (by decide) (fun c_14 => ?_) (fun c_14 => ?_)
        · refine x_iinc hC [(2, .int (iI (i + 1))), (0, .ref (h 0)), (1, .int (iI talk))] 0 hl dX0_lowestOther_19 rfl (by decide) rfl (fun ls hl => ?_)
          refine x_goto hC 2 dX0_lowestOther_22 (by decide) ?_
          have hl := lv_sub (l' := [(2, .int (iI (i + 1))), (0, .ref (h 0)), (1, .int (iI talk))]) hl [0, 1, 2] rfl
          exact ih_2 (i + 1) (by omega) (by omega) ((fstI_f (by omega) (by assumption)).symm.trans hf) (by omega) H locs ls hP hD hS hl
        · refine x_il hC hl 0 dX0_lowestOther_17 rfl rfl ?_
          exact x_retI (congrArg iI (by exact (fstI_t (by omega) (by assumption)).symm.trans hf : i = bLow bO bF bE bZ bP bR bT talk)) hend hP hD hS dX0_lowestOther_18
  have hl := lv_sub (l' := [(2, .int (iI 0)), (0, .ref (h 0)), (1, .int (iI talk))]) hl [0, 1, 2] rfl
  exact loop_2 (Int.toNat (8 - 0) + 1) 0 (by omega) (by omega) rfl (by omega) H locs ls hP hD hS hl
theorem mskI_n {p : Int → Prop} {i : Int} (h0 : 0 ≤ i) (hp : ¬ p i) : mskI p i = mskI p (i + 1) := by
  rw [← mskI_f h0 hp]
  exact (Int32.or_zero).symm
abbrev r0_otherRooms : Room := { frames := 2, cells := 0, slots := 0, locals := 46 }
set_option maxHeartbeats 4000000 in
set_option maxRecDepth 100000 in
theorem k0_otherRooms (l : Launch) (D : va_G) (cs : Nat → ClassId) (h : Nat → Nat) (bO : Nat → Bool) (bG : Int → Int) (bF : Int → Int) (bE : Int → Int) (bZ : Int → Int) (bP : Int → Int) (bR : Int → Int) (bC : Int → Int) (bT : Int → Nat → Bool) (talk : Int) (hB : IB bF bE bZ bP bR bC) (h1 : 0 ≤ talk ∧ talk < 20) (h3 : ¬ bP talk = -1) : CI l D cs yX0_otherRooms cX0_otherRooms 4 .int r0_otherRooms 0 0 [.ref (h 0), .int (iI talk)] (wB h cs bO bG bF bE bZ bP bR bC bT) (wB h cs bO bG bF bE bZ bP bR bC bT) (mskI (fun t => bGo bO bF bE bZ bP bR bT talk t) (8)) := by
  refine CI_start (own := RX0) (by decide) rfl rfl (Nat.le_of_ble_eq_true rfl) ?_
  intro p e s m args below meth c Q A ls hC hl hP hD hA hS hend
  have hl : lv_has ls 4 [(0, .ref (h 0)), (1, .int (iI talk))] := hl
  obtain ⟨H, hH⟩ : ∃ H : Heap, H = s.heap := ⟨_, rfl⟩
  have hS : va_S A s.heap H [] := by rw [hH]; exact hS
  rw [← hH] at hP
  obtain ⟨locs, hlocs⟩ : ∃ locs : List Loc, locs = [] := ⟨_, rfl⟩
  rw [← hlocs] at hS
  suffices hgo : W p l e r0_otherRooms s m args below meth c H locs 0 0 Q (F0 m 0 ls []) by rw [← hH, ← hlocs]; exact hgo
  clear hH hlocs
  refine x_ic hC dX0_otherRooms_0 ?_
  refine x_is hC [(2, .int (iI 0)), (0, .ref (h 0)), (1, .int (iI talk))] hl dX0_otherRooms_1 rfl (by decide) rfl (fun ls hl => ?_)
  refine x_ic hC dX0_otherRooms_2 ?_
  refine x_is hC [(3, .int (iI 0)), (2, .int (iI 0)), (0, .ref (h 0)), (1, .int (iI talk))] hl dX0_otherRooms_3 rfl (by decide) rfl (fun ls hl => ?_)
  have loop_4 : ∀ (n : Nat) (i : Int), (hi0 : 0 ≤ i) → (hiN : i ≤ 8) → (8 - i) < (n : Int) → ∀ (H : Heap) (locs : List Loc) (ls : Array Slot), va_P D vwCl (wB h cs bO bG bF bE bZ bP bR bC bT) H → va_D A (wB h cs bO bG bF bE bZ bP bR bC bT) → va_S A s.heap H locs → lv_has ls 4 [(3, .int (iI i)), (2, .int (mskI (fun t => bGo bO bF bE bZ bP bR bT talk t) i)), (0, .ref (h 0)), (1, .int (iI talk))] → W p l e r0_otherRooms s m args below meth c H locs 0 0 Q (F0 m 4 ls []) := by
    intro n
    induction n with
    | zero =>
      intro i hi0 hiN hnn
      exfalso; omega
    | succ n ih_4 =>
      intro i hi0 hiN hnn H locs ls hP hD hS hl
      refine x_il hC hl 0 dX0_otherRooms_4 rfl rfl ?_
      refine x_bi hC dX0_otherRooms_5 (by decide) ?_
      refine x_ic_ge hC 31 dX0_otherRooms_7 (by decide) (by omega) (by omega) (fun c_7 => ?_) (fun c_7 => ?_)
      · obtain rfl : i = 8 := by omega
        refine x_il hC hl 1 dX0_otherRooms_31 rfl rfl ?_
        exact x_retI (rfl) hend hP hD hS dX0_otherRooms_32
      · refine x_al hC hl 2 dX0_otherRooms_10 rfl rfl ?_
        refine x_il hC hl 3 dX0_otherRooms_11 rfl rfl ?_
        refine x_il hC hl 0 dX0_otherRooms_12 rfl rfl ?_
        refine x_vI (As := [.int (iI talk), .int (iI i)]) hC (k0_couldGo l D cs h bO bG bF bE bZ bP bR bC bT talk i (by first | assumption | omega) (by first | assumption | omega) (by first | assumption | omega) (by first | assumption | omega)) lk0_85 (q0 := 0) (ci := 0) rfl rfl rfl (sub_all hP hD hS hA) hP hS rfl hl.1 rfl (Nat.le_of_ble_eq_true rfl) ⟨rfl, rfl⟩ ⟨Nat.le_of_ble_eq_true rfl, Nat.le_of_ble_eq_true rfl⟩ ⟨Nat.le_of_ble_eq_true rfl, Nat.le_of_ble_eq_true rfl⟩ dX0_otherRooms_13 (fun H locs hP hD hS hHs => ?_)
        refine x_if_eq_b hC 25 dX0_otherRooms_16 (by decide) (fun c_16 => ?_) (fun c_16 => ?_)
        · refine x_iinc hC [(3, .int (iI (i + 1))), (2, .int (mskI (fun t => bGo bO bF bE bZ bP bR bT talk t) i)), (0, .ref (h 0)), (1, .int (iI talk))] 0 hl dX0_otherRooms_25 rfl (by decide) rfl (fun ls hl => ?_)
          refine x_goto hC 4 dX0_otherRooms_28 (by decide) ?_
          have hl : lv_has ls 4 [(3, .int (iI (i + 1))), (2, .int (mskI (fun t => bGo bO bF bE bZ bP bR bT talk t) (i + 1))), (0, .ref (h 0)), (1, .int (iI talk))] := lvE (lv_sub (l' := [(3, .int (iI (i + 1))), (2, .int (mskI (fun t => bGo bO bF bE bZ bP bR bT talk t) i)), (0, .ref (h 0)), (1, .int (iI talk))]) hl [0, 1, 2, 3] rfl) (lcE rfl (lcE (congrArg Value.int (by first | rfl | exact mskI_n hi0 (by assumption) : mskI (fun t => bGo bO bF bE bZ bP bR bT talk t) i = mskI (fun t => bGo bO bF bE bZ bP bR bT talk t) (i + 1))) (lcE rfl (lcE rfl (rfl)))))
          exact ih_4 (i + 1) (by omega) (by omega) (by omega) H locs ls hP hD hS hl
        · refine x_il hC hl 1 dX0_otherRooms_19 rfl rfl ?_
          refine x_ic hC dX0_otherRooms_20 ?_
          refine x_il hC hl 0 dX0_otherRooms_21 rfl rfl ?_
          refine x_ishl hC dX0_otherRooms_22 (iI 1 <<< (iI i &&& 31)) rfl ?_
          refine x_ior hC dX0_otherRooms_23 (mskI (fun t => bGo bO bF bE bZ bP bR bT talk t) (i + 1)) (mskI_t hi0 (by omega) (by assumption)) ?_
          refine x_is hC [(2, .int (mskI (fun t => bGo bO bF bE bZ bP bR bT talk t) (i + 1))), (3, .int (iI i)), (0, .ref (h 0)), (1, .int (iI talk))] hl dX0_otherRooms_24 rfl (by decide) rfl (fun ls hl => ?_)
          refine x_iinc hC [(3, .int (iI (i + 1))), (2, .int (mskI (fun t => bGo bO bF bE bZ bP bR bT talk t) (i + 1))), (0, .ref (h 0)), (1, .int (iI talk))] 1 hl dX0_otherRooms_25 rfl (by decide) rfl (fun ls hl => ?_)
          refine x_goto hC 4 dX0_otherRooms_28 (by decide) ?_
          have hl := lv_sub (l' := [(3, .int (iI (i + 1))), (2, .int (mskI (fun t => bGo bO bF bE bZ bP bR bT talk t) (i + 1))), (0, .ref (h 0)), (1, .int (iI talk))]) hl [0, 1, 2, 3] rfl
          exact ih_4 (i + 1) (by omega) (by omega) (by omega) H locs ls hP hD hS hl
  have hl := lv_sub (l' := [(3, .int (iI 0)), (2, .int (mskI (fun t => bGo bO bF bE bZ bP bR bT talk t) 0)), (0, .ref (h 0)), (1, .int (iI talk))]) hl [0, 1, 2, 3] rfl
  exact loop_4 (Int.toNat (8 - 0) + 1) 0 (by omega) (by omega) (by omega) H locs ls hP hD hS hl
abbrev r0_talksBeside : Room := { frames := 1, cells := 0, slots := 0, locals := 21 }
set_option maxHeartbeats 4000000 in
set_option maxRecDepth 100000 in
theorem k0_talksBeside (l : Launch) (D : va_G) (cs : Nat → ClassId) (h : Nat → Nat) (bO : Nat → Bool) (bG : Int → Int) (bF : Int → Int) (bE : Int → Int) (bZ : Int → Int) (bP : Int → Int) (bR : Int → Int) (bC : Int → Int) (bT : Int → Nat → Bool) (talk : Int) (hB : IB bF bE bZ bP bR bC) (h1 : 0 ≤ talk ∧ talk < 20) (h3 : ¬ bP talk = -1) : CI l D cs yX0_talksBeside cX0_talksBeside 6 .int r0_talksBeside 0 0 [.ref (h 0), .int (iI talk)] (wB h cs bO bG bF bE bZ bP bR bC bT) (wB h cs bO bG bF bE bZ bP bR bC bT) (mskI (fun t => bBes bF bE bP talk t) (20)) := by
  refine CI_start (own := RX0) (by decide) rfl rfl (Nat.le_of_ble_eq_true rfl) ?_
  intro p e s m args below meth c Q A ls hC hl hP hD hA hS hend
  have hl : lv_has ls 6 [(0, .ref (h 0)), (1, .int (iI talk))] := hl
  obtain ⟨H, hH⟩ : ∃ H : Heap, H = s.heap := ⟨_, rfl⟩
  have hS : va_S A s.heap H [] := by rw [hH]; exact hS
  rw [← hH] at hP
  obtain ⟨locs, hlocs⟩ : ∃ locs : List Loc, locs = [] := ⟨_, rfl⟩
  rw [← hlocs] at hS
  suffices hgo : W p l e r0_talksBeside s m args below meth c H locs 0 0 Q (F0 m 0 ls []) by rw [← hH, ← hlocs]; exact hgo
  clear hH hlocs
  have qf := (ibT hB talk h1).2.2 h3
  refine x_al hC hl 0 dX0_talksBeside_0 rfl rfl ?_
  refine x_get0 (v := .ref (h 1)) hC hP 0 rfl 0 (by decide) tb_96 rfl rfl dX0_talksBeside_1 ?_
  refine x_il hC hl 1 dX0_talksBeside_4 rfl rfl ?_
  refine x_iald hC hP 1 rfl (by omega) (by decide) dX0_talksBeside_5 ?_
  refine x_al hC hl 0 dX0_talksBeside_6 rfl rfl ?_
  refine x_get0 (v := .ref (h 2)) hC hP 0 rfl 1 (by decide) tb_97 rfl rfl dX0_talksBeside_7 ?_
  refine x_il hC hl 1 dX0_talksBeside_10 rfl rfl ?_
  refine x_iald hC hP 2 rfl (by omega) (by decide) dX0_talksBeside_11 ?_
  refine x_sL (As := [.int (iI (bF talk)), .int (iI (bE talk))]) hC (k0_hoursOf l D cs (bF talk) (bE talk) (by first | assumption | omega)) lk0_112 (sub_none hP hD hS hA) hP hS rfl hl.1 rfl (Nat.le_of_ble_eq_true rfl) ⟨rfl, rfl⟩ ⟨Nat.le_of_ble_eq_true rfl, Nat.le_of_ble_eq_true rfl⟩ ⟨Nat.le_of_ble_eq_true rfl, Nat.le_of_ble_eq_true rfl⟩ dX0_talksBeside_12 (fun H locs hP hD hS hHs => ?_)
  refine x_ls hC [(2, .long (lN (mkN (iv (bF talk) (bE talk)) 48))), (0, .ref (h 0)), (1, .int (iI talk))] hl dX0_talksBeside_15 rfl (by decide) rfl (fun ls hl => ?_)
  refine x_ic hC dX0_talksBeside_16 ?_
  refine x_isw hC [(4, .int (iI 0)), (2, .long (lN (mkN (iv (bF talk) (bE talk)) 48))), (0, .ref (h 0)), (1, .int (iI talk))] hl dX0_talksBeside_17 (by decide) rfl (fun ls hl => ?_)
  refine x_ic hC dX0_talksBeside_19 ?_
  refine x_isw hC [(5, .int (iI 0)), (4, .int (iI 0)), (2, .long (lN (mkN (iv (bF talk) (bE talk)) 48))), (0, .ref (h 0)), (1, .int (iI talk))] hl dX0_talksBeside_20 (by decide) rfl (fun ls hl => ?_)
  have loop_22 : ∀ (n : Nat) (i : Int), (hi0 : 0 ≤ i) → (hiN : i ≤ 20) → (20 - i) < (n : Int) → ∀ (H : Heap) (locs : List Loc) (ls : Array Slot), va_P D vwCl (wB h cs bO bG bF bE bZ bP bR bC bT) H → va_D A (wB h cs bO bG bF bE bZ bP bR bC bT) → va_S A s.heap H locs → lv_has ls 6 [(5, .int (iI i)), (4, .int (mskI (fun t => bBes bF bE bP talk t) i)), (2, .long (lN (mkN (iv (bF talk) (bE talk)) 48))), (0, .ref (h 0)), (1, .int (iI talk))] → W p l e r0_talksBeside s m args below meth c H locs 0 0 Q (F0 m 22 ls []) := by
    intro n
    induction n with
    | zero =>
      intro i hi0 hiN hnn
      exfalso; omega
    | succ n ih_22 =>
      intro i hi0 hiN hnn H locs ls hP hD hS hl
      refine x_ilw hC hl 0 dX0_talksBeside_22 rfl ?_
      refine x_bi hC dX0_talksBeside_24 (by decide) ?_
      refine x_ic_ge hC 85 dX0_talksBeside_26 (by decide) (by omega) (by omega) (fun c_26 => ?_) (fun c_26 => ?_)
      · obtain rfl : i = 20 := by omega
        refine x_ilw hC hl 1 dX0_talksBeside_85 rfl ?_
        exact x_retI (rfl) hend hP hD hS dX0_talksBeside_87
      · have qi := ibT hB i (by omega)
        refine x_ilw hC hl 0 dX0_talksBeside_29 rfl ?_
        refine x_il hC hl 4 dX0_talksBeside_31 rfl rfl ?_
        refine x_ic_eq hC 79 dX0_talksBeside_32 (by decide) (by omega) (by omega) (fun c_32 => ?_) (fun c_32 => ?_)
        · refine x_iinc hC [(5, .int (iI (i + 1))), (4, .int (mskI (fun t => bBes bF bE bP talk t) i)), (2, .long (lN (mkN (iv (bF talk) (bE talk)) 48))), (0, .ref (h 0)), (1, .int (iI talk))] 0 hl dX0_talksBeside_79 rfl (by decide) rfl (fun ls hl => ?_)
          refine x_goto hC 22 dX0_talksBeside_82 (by decide) ?_
          have hl : lv_has ls 6 [(5, .int (iI (i + 1))), (4, .int (mskI (fun t => bBes bF bE bP talk t) (i + 1))), (2, .long (lN (mkN (iv (bF talk) (bE talk)) 48))), (0, .ref (h 0)), (1, .int (iI talk))] := lvE (lv_sub (l' := [(5, .int (iI (i + 1))), (4, .int (mskI (fun t => bBes bF bE bP talk t) i)), (2, .long (lN (mkN (iv (bF talk) (bE talk)) 48))), (0, .ref (h 0)), (1, .int (iI talk))]) hl [0, 1, 2, 3, 4] rfl) (lcE rfl (lcE (congrArg Value.int (by first | rfl | exact mskI_n hi0 (by first | exact fun h => h.1 c_32 | exact fun h => h.2.1 c_43 | exact fun h => h.2.2 c_67) : mskI (fun t => bBes bF bE bP talk t) i = mskI (fun t => bBes bF bE bP talk t) (i + 1))) (lcE rfl (lcE rfl (lcE rfl (rfl))))))
          exact ih_22 (i + 1) (by omega) (by omega) (by omega) H locs ls hP hD hS hl
        · refine x_al hC hl 3 dX0_talksBeside_35 rfl rfl ?_
          refine x_get0 (v := .ref (h 4)) hC hP 0 rfl 3 (by decide) tb_99 rfl rfl dX0_talksBeside_36 ?_
          refine x_ilw hC hl 0 dX0_talksBeside_39 rfl ?_
          refine x_iald hC hP 4 rfl (by omega) (by decide) dX0_talksBeside_41 ?_
          refine x_ic hC dX0_talksBeside_42 ?_
          refine x_ic_eq hC 79 dX0_talksBeside_43 (by decide) (by omega) (by omega) (fun c_43 => ?_) (fun c_43 => ?_)
          · refine x_iinc hC [(5, .int (iI (i + 1))), (4, .int (mskI (fun t => bBes bF bE bP talk t) i)), (2, .long (lN (mkN (iv (bF talk) (bE talk)) 48))), (0, .ref (h 0)), (1, .int (iI talk))] 0 hl dX0_talksBeside_79 rfl (by decide) rfl (fun ls hl => ?_)
            refine x_goto hC 22 dX0_talksBeside_82 (by decide) ?_
            have hl : lv_has ls 6 [(5, .int (iI (i + 1))), (4, .int (mskI (fun t => bBes bF bE bP talk t) (i + 1))), (2, .long (lN (mkN (iv (bF talk) (bE talk)) 48))), (0, .ref (h 0)), (1, .int (iI talk))] := lvE (lv_sub (l' := [(5, .int (iI (i + 1))), (4, .int (mskI (fun t => bBes bF bE bP talk t) i)), (2, .long (lN (mkN (iv (bF talk) (bE talk)) 48))), (0, .ref (h 0)), (1, .int (iI talk))]) hl [0, 1, 2, 3, 4] rfl) (lcE rfl (lcE (congrArg Value.int (by first | rfl | exact mskI_n hi0 (by first | exact fun h => h.1 c_32 | exact fun h => h.2.1 c_43 | exact fun h => h.2.2 c_67) : mskI (fun t => bBes bF bE bP talk t) i = mskI (fun t => bBes bF bE bP talk t) (i + 1))) (lcE rfl (lcE rfl (lcE rfl (rfl))))))
            exact ih_22 (i + 1) (by omega) (by omega) (by omega) H locs ls hP hD hS hl
          · have qt := qi.2.2 c_43
            refine x_ll hC hl 2 dX0_talksBeside_46 rfl rfl ?_
            refine x_al hC hl 3 dX0_talksBeside_47 rfl rfl ?_
            refine x_get0 (v := .ref (h 1)) hC hP 0 rfl 0 (by decide) tb_96 rfl rfl dX0_talksBeside_48 ?_
            refine x_ilw hC hl 0 dX0_talksBeside_51 rfl ?_
            refine x_iald hC hP 1 rfl (by omega) (by decide) dX0_talksBeside_53 ?_
            refine x_al hC hl 3 dX0_talksBeside_54 rfl rfl ?_
            refine x_get0 (v := .ref (h 2)) hC hP 0 rfl 1 (by decide) tb_97 rfl rfl dX0_talksBeside_55 ?_
            refine x_ilw hC hl 0 dX0_talksBeside_58 rfl ?_
            refine x_iald hC hP 2 rfl (by omega) (by decide) dX0_talksBeside_60 ?_
            refine x_sL (As := [.int (iI (bF i)), .int (iI (bE i))]) hC (k0_hoursOf l D cs (bF i) (bE i) (by first | assumption | omega)) lk0_112 (sub_none hP hD hS hA) hP hS rfl hl.1 rfl (Nat.le_of_ble_eq_true rfl) ⟨rfl, rfl⟩ ⟨Nat.le_of_ble_eq_true rfl, Nat.le_of_ble_eq_true rfl⟩ ⟨Nat.le_of_ble_eq_true rfl, Nat.le_of_ble_eq_true rfl⟩ dX0_talksBeside_61 (fun H locs hP hD hS hHs => ?_)
            refine x_land hC dX0_talksBeside_64 (lN (mkN (fun k => iv (bF talk) (bE talk) k && iv (bF i) (bE i) k) 48)) (andHrs _ _) ?_
            refine x_lc (v := 0) hC dX0_talksBeside_65 rfl ?_
            refine W.lcmp hC.1 hC.2.1 dX0_talksBeside_66 ?_
            refine lv_if_eq (tgt := 79) hC.1 hC.2.1 dX0_talksBeside_67 (by decide) (fun c_67 => ?_) (fun c_67 => ?_)
            · rw [lz] at c_67
              refine x_iinc hC [(5, .int (iI (i + 1))), (4, .int (mskI (fun t => bBes bF bE bP talk t) i)), (2, .long (lN (mkN (iv (bF talk) (bE talk)) 48))), (0, .ref (h 0)), (1, .int (iI talk))] 0 hl dX0_talksBeside_79 rfl (by decide) rfl (fun ls hl => ?_)
              refine x_goto hC 22 dX0_talksBeside_82 (by decide) ?_
              have hl : lv_has ls 6 [(5, .int (iI (i + 1))), (4, .int (mskI (fun t => bBes bF bE bP talk t) (i + 1))), (2, .long (lN (mkN (iv (bF talk) (bE talk)) 48))), (0, .ref (h 0)), (1, .int (iI talk))] := lvE (lv_sub (l' := [(5, .int (iI (i + 1))), (4, .int (mskI (fun t => bBes bF bE bP talk t) i)), (2, .long (lN (mkN (iv (bF talk) (bE talk)) 48))), (0, .ref (h 0)), (1, .int (iI talk))]) hl [0, 1, 2, 3, 4] rfl) (lcE rfl (lcE (congrArg Value.int (by first | rfl | exact mskI_n hi0 (by first | exact fun h => h.1 c_32 | exact fun h => h.2.1 c_43 | exact fun h => h.2.2 c_67) : mskI (fun t => bBes bF bE bP talk t) i = mskI (fun t => bBes bF bE bP talk t) (i + 1))) (lcE rfl (lcE rfl (lcE rfl (rfl))))))
              exact ih_22 (i + 1) (by omega) (by omega) (by omega) H locs ls hP hD hS hl
            · rw [lz] at c_67
              refine x_ilw hC hl 1 dX0_talksBeside_70 rfl ?_
              refine x_ic hC dX0_talksBeside_72 ?_
              refine x_ilw hC hl 0 dX0_talksBeside_73 rfl ?_
              refine x_ishl hC dX0_talksBeside_75 (iI 1 <<< (iI i &&& 31)) rfl ?_
              refine x_ior hC dX0_talksBeside_76 (mskI (fun t => bBes bF bE bP talk t) (i + 1)) (mskI_t hi0 (by omega) (by exact ⟨c_32, c_43, c_67⟩)) ?_
              refine x_isw hC [(4, .int (mskI (fun t => bBes bF bE bP talk t) (i + 1))), (5, .int (iI i)), (2, .long (lN (mkN (iv (bF talk) (bE talk)) 48))), (0, .ref (h 0)), (1, .int (iI talk))] hl dX0_talksBeside_77 (by decide) rfl (fun ls hl => ?_)
              refine x_iinc hC [(5, .int (iI (i + 1))), (4, .int (mskI (fun t => bBes bF bE bP talk t) (i + 1))), (2, .long (lN (mkN (iv (bF talk) (bE talk)) 48))), (0, .ref (h 0)), (1, .int (iI talk))] 1 hl dX0_talksBeside_79 rfl (by decide) rfl (fun ls hl => ?_)
              refine x_goto hC 22 dX0_talksBeside_82 (by decide) ?_
              have hl := lv_sub (l' := [(5, .int (iI (i + 1))), (4, .int (mskI (fun t => bBes bF bE bP talk t) (i + 1))), (2, .long (lN (mkN (iv (bF talk) (bE talk)) 48))), (0, .ref (h 0)), (1, .int (iI talk))]) hl [0, 1, 2, 3, 4] rfl
              exact ih_22 (i + 1) (by omega) (by omega) (by omega) H locs ls hP hD hS hl
  have hl := lv_sub (l' := [(5, .int (iI 0)), (4, .int (mskI (fun t => bBes bF bE bP talk t) 0)), (2, .long (lN (mkN (iv (bF talk) (bE talk)) 48))), (0, .ref (h 0)), (1, .int (iI talk))]) hl [0, 1, 2, 3, 4] rfl
  exact loop_22 (Int.toNat (20 - 0) + 1) 0 (by omega) (by omega) (by omega) H locs ls hP hD hS hl
abbrev r0_talksIn : Room := { frames := 0, cells := 0, slots := 0, locals := 0 }
set_option maxHeartbeats 4000000 in
set_option maxRecDepth 100000 in
theorem k0_talksIn (l : Launch) (D : va_G) (cs : Nat → ClassId) (h : Nat → Nat) (bO : Nat → Bool) (bG : Int → Int) (bF : Int → Int) (bE : Int → Int) (bZ : Int → Int) (bP : Int → Int) (bR : Int → Int) (bC : Int → Int) (bT : Int → Nat → Bool) (room : Int) (hB : IB bF bE bZ bP bR bC) (h1 : 0 ≤ room ∧ room < 8) : CI l D cs yX0_talksIn cX0_talksIn 4 .int r0_talksIn 0 0 [.ref (h 0), .int (iI room)] (wB h cs bO bG bF bE bZ bP bR bC bT) (wB h cs bO bG bF bE bZ bP bR bC bT) (mskI (fun t => bP t = room) (20)) := by
  refine CI_start (own := RX0) (by decide) rfl rfl (Nat.le_of_ble_eq_true rfl) ?_
  intro p e s m args below meth c Q A ls hC hl hP hD hA hS hend
  have hl : lv_has ls 4 [(0, .ref (h 0)), (1, .int (iI room))] := hl
  obtain ⟨H, hH⟩ : ∃ H : Heap, H = s.heap := ⟨_, rfl⟩
  have hS : va_S A s.heap H [] := by rw [hH]; exact hS
  rw [← hH] at hP
  obtain ⟨locs, hlocs⟩ : ∃ locs : List Loc, locs = [] := ⟨_, rfl⟩
  rw [← hlocs] at hS
  suffices hgo : W p l e r0_talksIn s m args below meth c H locs 0 0 Q (F0 m 0 ls []) by rw [← hH, ← hlocs]; exact hgo
  clear hH hlocs
  refine x_ic hC dX0_talksIn_0 ?_
  refine x_is hC [(2, .int (iI 0)), (0, .ref (h 0)), (1, .int (iI room))] hl dX0_talksIn_1 rfl (by decide) rfl (fun ls hl => ?_)
  refine x_ic hC dX0_talksIn_2 ?_
  refine x_is hC [(3, .int (iI 0)), (2, .int (iI 0)), (0, .ref (h 0)), (1, .int (iI room))] hl dX0_talksIn_3 rfl (by decide) rfl (fun ls hl => ?_)
  have loop_4 : ∀ (n : Nat) (i : Int), (hi0 : 0 ≤ i) → (hiN : i ≤ 20) → (20 - i) < (n : Int) → ∀ (H : Heap) (locs : List Loc) (ls : Array Slot), va_P D vwCl (wB h cs bO bG bF bE bZ bP bR bC bT) H → va_D A (wB h cs bO bG bF bE bZ bP bR bC bT) → va_S A s.heap H locs → lv_has ls 4 [(3, .int (iI i)), (2, .int (mskI (fun t => bP t = room) i)), (0, .ref (h 0)), (1, .int (iI room))] → W p l e r0_talksIn s m args below meth c H locs 0 0 Q (F0 m 4 ls []) := by
    intro n
    induction n with
    | zero =>
      intro i hi0 hiN hnn
      exfalso; omega
    | succ n ih_4 =>
      intro i hi0 hiN hnn H locs ls hP hD hS hl
      refine x_il hC hl 0 dX0_talksIn_4 rfl rfl ?_
      refine x_bi hC dX0_talksIn_5 (by decide) ?_
      refine x_ic_ge hC 32 dX0_talksIn_7 (by decide) (by omega) (by omega) (fun c_7 => ?_) (fun c_7 => ?_)
      · obtain rfl : i = 20 := by omega
        refine x_il hC hl 1 dX0_talksIn_32 rfl rfl ?_
        exact x_retI (rfl) hend hP hD hS dX0_talksIn_33
      · have qi := ibT hB i (by omega)
        refine x_al hC hl 2 dX0_talksIn_10 rfl rfl ?_
        refine x_get0 (v := .ref (h 4)) hC hP 0 rfl 3 (by decide) tb_99 rfl rfl dX0_talksIn_11 ?_
        refine x_il hC hl 0 dX0_talksIn_14 rfl rfl ?_
        refine x_iald hC hP 4 rfl (by omega) (by decide) dX0_talksIn_15 ?_
        refine x_il hC hl 3 dX0_talksIn_16 rfl rfl ?_
        refine x_ic_ne hC 26 dX0_talksIn_17 (by decide) (by omega) (by omega) (fun c_17 => ?_) (fun c_17 => ?_)
        · refine x_iinc hC [(3, .int (iI (i + 1))), (2, .int (mskI (fun t => bP t = room) i)), (0, .ref (h 0)), (1, .int (iI room))] 0 hl dX0_talksIn_26 rfl (by decide) rfl (fun ls hl => ?_)
          refine x_goto hC 4 dX0_talksIn_29 (by decide) ?_
          have hl : lv_has ls 4 [(3, .int (iI (i + 1))), (2, .int (mskI (fun t => bP t = room) (i + 1))), (0, .ref (h 0)), (1, .int (iI room))] := lvE (lv_sub (l' := [(3, .int (iI (i + 1))), (2, .int (mskI (fun t => bP t = room) i)), (0, .ref (h 0)), (1, .int (iI room))]) hl [0, 1, 2, 3] rfl) (lcE rfl (lcE (congrArg Value.int (by first | rfl | exact mskI_n hi0 (by assumption) : mskI (fun t => bP t = room) i = mskI (fun t => bP t = room) (i + 1))) (lcE rfl (lcE rfl (rfl)))))
          exact ih_4 (i + 1) (by omega) (by omega) (by omega) H locs ls hP hD hS hl
        · refine x_il hC hl 1 dX0_talksIn_20 rfl rfl ?_
          refine x_ic hC dX0_talksIn_21 ?_
          refine x_il hC hl 0 dX0_talksIn_22 rfl rfl ?_
          refine x_ishl hC dX0_talksIn_23 (iI 1 <<< (iI i &&& 31)) rfl ?_
          refine x_ior hC dX0_talksIn_24 (mskI (fun t => bP t = room) (i + 1)) (mskI_t hi0 (by omega) (by assumption)) ?_
          refine x_is hC [(2, .int (mskI (fun t => bP t = room) (i + 1))), (3, .int (iI i)), (0, .ref (h 0)), (1, .int (iI room))] hl dX0_talksIn_25 rfl (by decide) rfl (fun ls hl => ?_)
          refine x_iinc hC [(3, .int (iI (i + 1))), (2, .int (mskI (fun t => bP t = room) (i + 1))), (0, .ref (h 0)), (1, .int (iI room))] 1 hl dX0_talksIn_26 rfl (by decide) rfl (fun ls hl => ?_)
          refine x_goto hC 4 dX0_talksIn_29 (by decide) ?_
          have hl := lv_sub (l' := [(3, .int (iI (i + 1))), (2, .int (mskI (fun t => bP t = room) (i + 1))), (0, .ref (h 0)), (1, .int (iI room))]) hl [0, 1, 2, 3] rfl
          exact ih_4 (i + 1) (by omega) (by omega) (by omega) H locs ls hP hD hS hl
  have hl := lv_sub (l' := [(3, .int (iI 0)), (2, .int (mskI (fun t => bP t = room) 0)), (0, .ref (h 0)), (1, .int (iI room))]) hl [0, 1, 2, 3] rfl
  exact loop_4 (Int.toNat (20 - 0) + 1) 0 (by omega) (by omega) (by omega) H locs ls hP hD hS hl
abbrev r0_freeRoomsAt : Room := { frames := 1, cells := 0, slots := 0, locals := 22 }
set_option maxHeartbeats 4000000 in
set_option maxRecDepth 100000 in
theorem k0_freeRoomsAt (l : Launch) (D : va_G) (cs : Nat → ClassId) (h : Nat → Nat) (bO : Nat → Bool) (bG : Int → Int) (bF : Int → Int) (bE : Int → Int) (bZ : Int → Int) (bP : Int → Int) (bR : Int → Int) (bC : Int → Int) (bT : Int → Nat → Bool) (hour : Int) (hB : IB bF bE bZ bP bR bC) (h1 : 0 ≤ hour ∧ hour < 48) : CI l D cs yX0_freeRoomsAt cX0_freeRoomsAt 4 .int r0_freeRoomsAt 0 0 [.ref (h 0), .int (iI hour)] (wB h cs bO bG bF bE bZ bP bR bC bT) (wB h cs bO bG bF bE bZ bP bR bC bT) (mskI (fun t => bO t.toNat = true ∧ ¬ bT t hour.toNat = true) (8)) := by
  refine CI_start (own := RX0) (by decide) rfl rfl (Nat.le_of_ble_eq_true rfl) ?_
  intro p e s m args below meth c Q A ls hC hl hP hD hA hS hend
  have hl : lv_has ls 4 [(0, .ref (h 0)), (1, .int (iI hour))] := hl
  obtain ⟨H, hH⟩ : ∃ H : Heap, H = s.heap := ⟨_, rfl⟩
  have hS : va_S A s.heap H [] := by rw [hH]; exact hS
  rw [← hH] at hP
  obtain ⟨locs, hlocs⟩ : ∃ locs : List Loc, locs = [] := ⟨_, rfl⟩
  rw [← hlocs] at hS
  suffices hgo : W p l e r0_freeRoomsAt s m args below meth c H locs 0 0 Q (F0 m 0 ls []) by rw [← hH, ← hlocs]; exact hgo
  clear hH hlocs
  refine x_ic hC dX0_freeRoomsAt_0 ?_
  refine x_is hC [(2, .int (iI 0)), (0, .ref (h 0)), (1, .int (iI hour))] hl dX0_freeRoomsAt_1 rfl (by decide) rfl (fun ls hl => ?_)
  refine x_ic hC dX0_freeRoomsAt_2 ?_
  refine x_is hC [(3, .int (iI 0)), (2, .int (iI 0)), (0, .ref (h 0)), (1, .int (iI hour))] hl dX0_freeRoomsAt_3 rfl (by decide) rfl (fun ls hl => ?_)
  have loop_4 : ∀ (n : Nat) (i : Int), (hi0 : 0 ≤ i) → (hiN : i ≤ 8) → (8 - i) < (n : Int) → ∀ (H : Heap) (locs : List Loc) (ls : Array Slot), va_P D vwCl (wB h cs bO bG bF bE bZ bP bR bC bT) H → va_D A (wB h cs bO bG bF bE bZ bP bR bC bT) → va_S A s.heap H locs → lv_has ls 4 [(3, .int (iI i)), (2, .int (mskI (fun t => bO t.toNat = true ∧ ¬ bT t hour.toNat = true) i)), (0, .ref (h 0)), (1, .int (iI hour))] → W p l e r0_freeRoomsAt s m args below meth c H locs 0 0 Q (F0 m 4 ls []) := by
    intro n
    induction n with
    | zero =>
      intro i hi0 hiN hnn
      exfalso; omega
    | succ n ih_4 =>
      intro i hi0 hiN hnn H locs ls hP hD hS hl
      refine x_il hC hl 0 dX0_freeRoomsAt_4 rfl rfl ?_
      refine x_bi hC dX0_freeRoomsAt_5 (by decide) ?_
      refine x_ic_ge hC 39 dX0_freeRoomsAt_7 (by decide) (by omega) (by omega) (fun c_7 => ?_) (fun c_7 => ?_)
      · obtain rfl : i = 8 := by omega
        refine x_il hC hl 1 dX0_freeRoomsAt_39 rfl rfl ?_
        exact x_retI (rfl) hend hP hD hS dX0_freeRoomsAt_40
      · refine x_al hC hl 2 dX0_freeRoomsAt_10 rfl rfl ?_
        refine x_il hC hl 0 dX0_freeRoomsAt_11 rfl rfl ?_
        refine x_vI (As := [.int (iI i)]) hC (k0_isOpen l D cs h bO bG bF bE bZ bP bR bC bT i (by first | assumption | omega)) lk0_92 (q0 := 0) (ci := 0) rfl rfl rfl (sub_all hP hD hS hA) hP hS rfl hl.1 rfl (Nat.le_of_ble_eq_true rfl) ⟨rfl, rfl⟩ ⟨Nat.le_of_ble_eq_true rfl, Nat.le_of_ble_eq_true rfl⟩ ⟨Nat.le_of_ble_eq_true rfl, Nat.le_of_ble_eq_true rfl⟩ dX0_freeRoomsAt_12 (fun H locs hP hD hS hHs => ?_)
        refine x_if_eq_b hC 33 dX0_freeRoomsAt_15 (by decide) (fun c_15 => ?_) (fun c_15 => ?_)
        · refine x_iinc hC [(3, .int (iI (i + 1))), (2, .int (mskI (fun t => bO t.toNat = true ∧ ¬ bT t hour.toNat = true) i)), (0, .ref (h 0)), (1, .int (iI hour))] 0 hl dX0_freeRoomsAt_33 rfl (by decide) rfl (fun ls hl => ?_)
          refine x_goto hC 4 dX0_freeRoomsAt_36 (by decide) ?_
          have hl : lv_has ls 4 [(3, .int (iI (i + 1))), (2, .int (mskI (fun t => bO t.toNat = true ∧ ¬ bT t hour.toNat = true) (i + 1))), (0, .ref (h 0)), (1, .int (iI hour))] := lvE (lv_sub (l' := [(3, .int (iI (i + 1))), (2, .int (mskI (fun t => bO t.toNat = true ∧ ¬ bT t hour.toNat = true) i)), (0, .ref (h 0)), (1, .int (iI hour))]) hl [0, 1, 2, 3] rfl) (lcE rfl (lcE (congrArg Value.int (by first | rfl | exact mskI_n hi0 (by first | exact fun h => h.2 c_24 | exact fun h => c_15 h.1) : mskI (fun t => bO t.toNat = true ∧ ¬ bT t hour.toNat = true) i = mskI (fun t => bO t.toNat = true ∧ ¬ bT t hour.toNat = true) (i + 1))) (lcE rfl (lcE rfl (rfl)))))
          exact ih_4 (i + 1) (by omega) (by omega) (by omega) H locs ls hP hD hS hl
        · refine x_al hC hl 2 dX0_freeRoomsAt_18 rfl rfl ?_
          refine x_il hC hl 0 dX0_freeRoomsAt_19 rfl rfl ?_
          refine x_il hC hl 3 dX0_freeRoomsAt_20 rfl rfl ?_
          refine x_vI (As := [.int (iI i), .int (iI hour)]) hC (k0_isTaken l D cs h bO bG bF bE bZ bP bR bC bT i hour (by first | assumption | omega) (by first | assumption | omega)) lk0_154 (q0 := 0) (ci := 0) rfl rfl rfl (sub_all hP hD hS hA) hP hS rfl hl.1 rfl (Nat.le_of_ble_eq_true rfl) ⟨rfl, rfl⟩ ⟨Nat.le_of_ble_eq_true rfl, Nat.le_of_ble_eq_true rfl⟩ ⟨Nat.le_of_ble_eq_true rfl, Nat.le_of_ble_eq_true rfl⟩ dX0_freeRoomsAt_21 (fun H locs hP hD hS hHs => ?_)
          refine x_if_ne_b hC 33 dX0_freeRoomsAt_24 (by decide) (fun c_24 => ?_) (fun c_24 => ?_)
          · refine x_iinc hC [(3, .int (iI (i + 1))), (2, .int (mskI (fun t => bO t.toNat = true ∧ ¬ bT t hour.toNat = true) i)), (0, .ref (h 0)), (1, .int (iI hour))] 0 hl dX0_freeRoomsAt_33 rfl (by decide) rfl (fun ls hl => ?_)
            refine x_goto hC 4 dX0_freeRoomsAt_36 (by decide) ?_
            have hl : lv_has ls 4 [(3, .int (iI (i + 1))), (2, .int (mskI (fun t => bO t.toNat = true ∧ ¬ bT t hour.toNat = true) (i + 1))), (0, .ref (h 0)), (1, .int (iI hour))] := lvE (lv_sub (l' := [(3, .int (iI (i + 1))), (2, .int (mskI (fun t => bO t.toNat = true ∧ ¬ bT t hour.toNat = true) i)), (0, .ref (h 0)), (1, .int (iI hour))]) hl [0, 1, 2, 3] rfl) (lcE rfl (lcE (congrArg Value.int (by first | rfl | exact mskI_n hi0 (by first | exact fun h => h.2 c_24 | exact fun h => c_15 h.1) : mskI (fun t => bO t.toNat = true ∧ ¬ bT t hour.toNat = true) i = mskI (fun t => bO t.toNat = true ∧ ¬ bT t hour.toNat = true) (i + 1))) (lcE rfl (lcE rfl (rfl)))))
            exact ih_4 (i + 1) (by omega) (by omega) (by omega) H locs ls hP hD hS hl
          · refine x_il hC hl 1 dX0_freeRoomsAt_27 rfl rfl ?_
            refine x_ic hC dX0_freeRoomsAt_28 ?_
            refine x_il hC hl 0 dX0_freeRoomsAt_29 rfl rfl ?_
            refine x_ishl hC dX0_freeRoomsAt_30 (iI 1 <<< (iI i &&& 31)) rfl ?_
            refine x_ior hC dX0_freeRoomsAt_31 (mskI (fun t => bO t.toNat = true ∧ ¬ bT t hour.toNat = true) (i + 1)) (mskI_t hi0 (by omega) (by exact ⟨c_15, c_24⟩)) ?_
            refine x_is hC [(2, .int (mskI (fun t => bO t.toNat = true ∧ ¬ bT t hour.toNat = true) (i + 1))), (3, .int (iI i)), (0, .ref (h 0)), (1, .int (iI hour))] hl dX0_freeRoomsAt_32 rfl (by decide) rfl (fun ls hl => ?_)
            refine x_iinc hC [(3, .int (iI (i + 1))), (2, .int (mskI (fun t => bO t.toNat = true ∧ ¬ bT t hour.toNat = true) (i + 1))), (0, .ref (h 0)), (1, .int (iI hour))] 1 hl dX0_freeRoomsAt_33 rfl (by decide) rfl (fun ls hl => ?_)
            refine x_goto hC 4 dX0_freeRoomsAt_36 (by decide) ?_
            have hl := lv_sub (l' := [(3, .int (iI (i + 1))), (2, .int (mskI (fun t => bO t.toNat = true ∧ ¬ bT t hour.toNat = true) (i + 1))), (0, .ref (h 0)), (1, .int (iI hour))]) hl [0, 1, 2, 3] rfl
            exact ih_4 (i + 1) (by omega) (by omega) (by omega) H locs ls hP hD hS hl
  have hl := lv_sub (l' := [(3, .int (iI 0)), (2, .int (mskI (fun t => bO t.toNat = true ∧ ¬ bT t hour.toNat = true) 0)), (0, .ref (h 0)), (1, .int (iI hour))]) hl [0, 1, 2, 3] rfl
  exact loop_4 (Int.toNat (8 - 0) + 1) 0 (by omega) (by omega) (by omega) H locs ls hP hD hS hl
abbrev r0_ofTalk : Room := { frames := 3, cells := 0, slots := 0, locals := 69 }
set_option maxHeartbeats 4000000 in
set_option maxRecDepth 100000 in
theorem k0_ofTalk (l : Launch) (D : va_G) (cs : Nat → ClassId) (h : Nat → Nat) (bO : Nat → Bool) (bG : Int → Int) (bF : Int → Int) (bE : Int → Int) (bZ : Int → Int) (bP : Int → Int) (bR : Int → Int) (bC : Int → Int) (bT : Int → Nat → Bool) (talk : Int) (what : Int) (hB : IB bF bE bZ bP bR bC) (g_talk : -2147483648 ≤ talk ∧ talk ≤ 2147483647) (g_what : -2147483648 ≤ what ∧ what ≤ 2147483647) : CI l D cs yX0_ofTalk cX0_ofTalk 4 .int r0_ofTalk 0 0 [.ref (h 0), .int (iI talk), .int (iI what)] (wB h cs bO bG bF bE bZ bP bR bC bT) (wB h cs bO bG bF bE bZ bP bR bC bT) (iif (bPl bP talk = -1) (iI (-1000001)) (bTalkOf bO bF bE bZ bP bR bT talk what)) := by
  refine CI_start (own := RX0) (by decide) rfl rfl (Nat.le_of_ble_eq_true rfl) ?_
  intro p e s m args below meth c Q A ls hC hl hP hD hA hS hend
  have hl : lv_has ls 4 [(0, .ref (h 0)), (1, .int (iI talk)), (2, .int (iI what))] := hl
  obtain ⟨H, hH⟩ : ∃ H : Heap, H = s.heap := ⟨_, rfl⟩
  have hS : va_S A s.heap H [] := by rw [hH]; exact hS
  rw [← hH] at hP
  obtain ⟨locs, hlocs⟩ : ∃ locs : List Loc, locs = [] := ⟨_, rfl⟩
  rw [← hlocs] at hS
  suffices hgo : W p l e r0_ofTalk s m args below meth c H locs 0 0 Q (F0 m 0 ls []) by rw [← hH, ← hlocs]; exact hgo
  clear hH hlocs
  have qp := bPl_rg hB talk
  refine x_al hC hl 0 dX0_ofTalk_0 rfl rfl ?_
  refine x_il hC hl 1 dX0_ofTalk_1 rfl rfl ?_
  refine x_vI (As := [.int (iI talk)]) hC (k0_placeOf l D cs h bO bG bF bE bZ bP bR bC bT talk (by first | assumption | omega)) lk0_78 (q0 := 0) (ci := 0) rfl rfl rfl (sub_all hP hD hS hA) hP hS rfl hl.1 rfl (Nat.le_of_ble_eq_true rfl) ⟨rfl, rfl⟩ ⟨Nat.le_of_ble_eq_true rfl, Nat.le_of_ble_eq_true rfl⟩ ⟨Nat.le_of_ble_eq_true rfl, Nat.le_of_ble_eq_true rfl⟩ dX0_ofTalk_2 (fun H locs hP hD hS hHs => ?_)
  refine x_is hC [(3, .int (iI (bPl bP talk))), (0, .ref (h 0)), (1, .int (iI talk)), (2, .int (iI what))] hl dX0_ofTalk_5 rfl (by decide) rfl (fun ls hl => ?_)
  refine x_il hC hl 0 dX0_ofTalk_6 rfl rfl ?_
  refine x_ic hC dX0_ofTalk_7 ?_
  refine x_ic_ne hC 14 dX0_ofTalk_8 (by decide) (by omega) (by omega) (fun c_8 => ?_) (fun c_8 => ?_)
  · have qk := bPl_ok (P := bP) (t := talk) (by omega)
    refine x_il hC hl 3 dX0_ofTalk_14 rfl rfl ?_
    by_cases c_15_0 : what = 0
    · refine x_tsIn hC 52 dX0_ofTalk_15 (by rw [c_15_0]; omega) (by rw [c_15_0]; decide) (by rw [c_15_0]; decide) (by rw [c_15_0]; rfl) (by decide) ?_
      refine x_al hC hl 1 dX0_ofTalk_52 rfl rfl ?_
      refine x_get0 (v := .ref (h 1)) hC hP 0 rfl 0 (by decide) tb_96 rfl rfl dX0_ofTalk_53 ?_
      refine x_il hC hl 2 dX0_ofTalk_56 rfl rfl ?_
      refine x_iald hC hP 1 rfl (by omega) (by decide) dX0_ofTalk_57 ?_
      exact x_retI ((by rw [iif_f c_8]; unfold bTalkOf; first | (rw [iif_t (by omega)]; done) | (rw [iif_f (by omega), iif_t (by omega)]; done) | (rw [iif_f (by omega), iif_f (by omega), iif_t (by omega)]; done) | (rw [iif_f (by omega), iif_f (by omega), iif_f (by omega), iif_t (by omega)]; done) | (rw [iif_f (by omega), iif_f (by omega), iif_f (by omega), iif_f (by omega), iif_t (by omega)]; done) | (rw [iif_f (by omega), iif_f (by omega), iif_f (by omega), iif_f (by omega), iif_f (by omega), iif_t (by omega)]; done) | (rw [iif_f (by omega), iif_f (by omega), iif_f (by omega), iif_f (by omega), iif_f (by omega), iif_f (by omega)]; done) : iI (bF talk) = iif (bPl bP talk = -1) (iI (-1000001)) (bTalkOf bO bF bE bZ bP bR bT talk what))) hend hP hD hS dX0_ofTalk_58
    by_cases c_15_1 : what = 1
    · refine x_tsIn hC 59 dX0_ofTalk_15 (by rw [c_15_1]; omega) (by rw [c_15_1]; decide) (by rw [c_15_1]; decide) (by rw [c_15_1]; rfl) (by decide) ?_
      refine x_al hC hl 1 dX0_ofTalk_59 rfl rfl ?_
      refine x_get0 (v := .ref (h 2)) hC hP 0 rfl 1 (by decide) tb_97 rfl rfl dX0_ofTalk_60 ?_
      refine x_il hC hl 2 dX0_ofTalk_63 rfl rfl ?_
      refine x_iald hC hP 2 rfl (by omega) (by decide) dX0_ofTalk_64 ?_
      exact x_retI ((by rw [iif_f c_8]; unfold bTalkOf; first | (rw [iif_t (by omega)]; done) | (rw [iif_f (by omega), iif_t (by omega)]; done) | (rw [iif_f (by omega), iif_f (by omega), iif_t (by omega)]; done) | (rw [iif_f (by omega), iif_f (by omega), iif_f (by omega), iif_t (by omega)]; done) | (rw [iif_f (by omega), iif_f (by omega), iif_f (by omega), iif_f (by omega), iif_t (by omega)]; done) | (rw [iif_f (by omega), iif_f (by omega), iif_f (by omega), iif_f (by omega), iif_f (by omega), iif_t (by omega)]; done) | (rw [iif_f (by omega), iif_f (by omega), iif_f (by omega), iif_f (by omega), iif_f (by omega), iif_f (by omega)]; done) : iI (bE talk) = iif (bPl bP talk = -1) (iI (-1000001)) (bTalkOf bO bF bE bZ bP bR bT talk what))) hend hP hD hS dX0_ofTalk_65
    by_cases c_15_2 : what = 2
    · refine x_tsIn hC 66 dX0_ofTalk_15 (by rw [c_15_2]; omega) (by rw [c_15_2]; decide) (by rw [c_15_2]; decide) (by rw [c_15_2]; rfl) (by decide) ?_
      refine x_al hC hl 1 dX0_ofTalk_66 rfl rfl ?_
      refine x_get0 (v := .ref (h 3)) hC hP 0 rfl 2 (by decide) tb_98 rfl rfl dX0_ofTalk_67 ?_
      refine x_il hC hl 2 dX0_ofTalk_70 rfl rfl ?_
      refine x_iald hC hP 3 rfl (by omega) (by decide) dX0_ofTalk_71 ?_
      exact x_retI ((by rw [iif_f c_8]; unfold bTalkOf; first | (rw [iif_t (by omega)]; done) | (rw [iif_f (by omega), iif_t (by omega)]; done) | (rw [iif_f (by omega), iif_f (by omega), iif_t (by omega)]; done) | (rw [iif_f (by omega), iif_f (by omega), iif_f (by omega), iif_t (by omega)]; done) | (rw [iif_f (by omega), iif_f (by omega), iif_f (by omega), iif_f (by omega), iif_t (by omega)]; done) | (rw [iif_f (by omega), iif_f (by omega), iif_f (by omega), iif_f (by omega), iif_f (by omega), iif_t (by omega)]; done) | (rw [iif_f (by omega), iif_f (by omega), iif_f (by omega), iif_f (by omega), iif_f (by omega), iif_f (by omega)]; done) : iI (bZ talk) = iif (bPl bP talk = -1) (iI (-1000001)) (bTalkOf bO bF bE bZ bP bR bT talk what))) hend hP hD hS dX0_ofTalk_72
    by_cases c_15_3 : what = 3
    · refine x_tsIn hC 73 dX0_ofTalk_15 (by rw [c_15_3]; omega) (by rw [c_15_3]; decide) (by rw [c_15_3]; decide) (by rw [c_15_3]; rfl) (by decide) ?_
      refine x_il hC hl 0 dX0_ofTalk_73 rfl rfl ?_
      exact x_retI ((by rw [iif_f c_8, qk.2]; unfold bTalkOf; first | (rw [iif_t (by omega)]; done) | (rw [iif_f (by omega), iif_t (by omega)]; done) | (rw [iif_f (by omega), iif_f (by omega), iif_t (by omega)]; done) | (rw [iif_f (by omega), iif_f (by omega), iif_f (by omega), iif_t (by omega)]; done) | (rw [iif_f (by omega), iif_f (by omega), iif_f (by omega), iif_f (by omega), iif_t (by omega)]; done) | (rw [iif_f (by omega), iif_f (by omega), iif_f (by omega), iif_f (by omega), iif_f (by omega), iif_t (by omega)]; done) | (rw [iif_f (by omega), iif_f (by omega), iif_f (by omega), iif_f (by omega), iif_f (by omega), iif_f (by omega)]; done) : iI (bPl bP talk) = iif (bPl bP talk = -1) (iI (-1000001)) (bTalkOf bO bF bE bZ bP bR bT talk what))) hend hP hD hS dX0_ofTalk_74
    by_cases c_15_4 : what = 4
    · refine x_tsIn hC 75 dX0_ofTalk_15 (by rw [c_15_4]; omega) (by rw [c_15_4]; decide) (by rw [c_15_4]; decide) (by rw [c_15_4]; rfl) (by decide) ?_
      refine x_al hC hl 1 dX0_ofTalk_75 rfl rfl ?_
      refine x_il hC hl 2 dX0_ofTalk_76 rfl rfl ?_
      refine x_vI (As := [.int (iI talk)]) hC (k0_otherRooms l D cs h bO bG bF bE bZ bP bR bC bT talk (by first | assumption | omega) (by first | assumption | omega) (by first | assumption | omega)) lk0_138 (q0 := 0) (ci := 0) rfl rfl rfl (sub_all hP hD hS hA) hP hS rfl hl.1 rfl (Nat.le_of_ble_eq_true rfl) ⟨rfl, rfl⟩ ⟨Nat.le_of_ble_eq_true rfl, Nat.le_of_ble_eq_true rfl⟩ ⟨Nat.le_of_ble_eq_true rfl, Nat.le_of_ble_eq_true rfl⟩ dX0_ofTalk_77 (fun H locs hP hD hS hHs => ?_)
      exact x_retI ((by rw [iif_f c_8]; unfold bTalkOf; first | (rw [iif_t (by omega)]; done) | (rw [iif_f (by omega), iif_t (by omega)]; done) | (rw [iif_f (by omega), iif_f (by omega), iif_t (by omega)]; done) | (rw [iif_f (by omega), iif_f (by omega), iif_f (by omega), iif_t (by omega)]; done) | (rw [iif_f (by omega), iif_f (by omega), iif_f (by omega), iif_f (by omega), iif_t (by omega)]; done) | (rw [iif_f (by omega), iif_f (by omega), iif_f (by omega), iif_f (by omega), iif_f (by omega), iif_t (by omega)]; done) | (rw [iif_f (by omega), iif_f (by omega), iif_f (by omega), iif_f (by omega), iif_f (by omega), iif_f (by omega)]; done) : mskI (fun t => bGo bO bF bE bZ bP bR bT talk t) (8) = iif (bPl bP talk = -1) (iI (-1000001)) (bTalkOf bO bF bE bZ bP bR bT talk what))) hend hP hD hS dX0_ofTalk_80
    by_cases c_15_5 : what = 5
    · refine x_tsIn hC 81 dX0_ofTalk_15 (by rw [c_15_5]; omega) (by rw [c_15_5]; decide) (by rw [c_15_5]; decide) (by rw [c_15_5]; rfl) (by decide) ?_
      refine x_al hC hl 1 dX0_ofTalk_81 rfl rfl ?_
      refine x_il hC hl 2 dX0_ofTalk_82 rfl rfl ?_
      refine x_vI (As := [.int (iI talk)]) hC (k0_talksBeside l D cs h bO bG bF bE bZ bP bR bC bT talk (by first | assumption | omega) (by first | assumption | omega) (by first | assumption | omega)) lk0_141 (q0 := 0) (ci := 0) rfl rfl rfl (sub_all hP hD hS hA) hP hS rfl hl.1 rfl (Nat.le_of_ble_eq_true rfl) ⟨rfl, rfl⟩ ⟨Nat.le_of_ble_eq_true rfl, Nat.le_of_ble_eq_true rfl⟩ ⟨Nat.le_of_ble_eq_true rfl, Nat.le_of_ble_eq_true rfl⟩ dX0_ofTalk_83 (fun H locs hP hD hS hHs => ?_)
      exact x_retI ((by rw [iif_f c_8]; unfold bTalkOf; first | (rw [iif_t (by omega)]; done) | (rw [iif_f (by omega), iif_t (by omega)]; done) | (rw [iif_f (by omega), iif_f (by omega), iif_t (by omega)]; done) | (rw [iif_f (by omega), iif_f (by omega), iif_f (by omega), iif_t (by omega)]; done) | (rw [iif_f (by omega), iif_f (by omega), iif_f (by omega), iif_f (by omega), iif_t (by omega)]; done) | (rw [iif_f (by omega), iif_f (by omega), iif_f (by omega), iif_f (by omega), iif_f (by omega), iif_t (by omega)]; done) | (rw [iif_f (by omega), iif_f (by omega), iif_f (by omega), iif_f (by omega), iif_f (by omega), iif_f (by omega)]; done) : mskI (fun t => bBes bF bE bP talk t) (20) = iif (bPl bP talk = -1) (iI (-1000001)) (bTalkOf bO bF bE bZ bP bR bT talk what))) hend hP hD hS dX0_ofTalk_86
    refine x_tsOut hC 87 dX0_ofTalk_15 (by omega) (by omega) (by decide) ?_
    refine x_ldc hC (-1000001) tb_238 (by decide) dX0_ofTalk_87 ?_
    exact x_retI ((by rw [iif_f c_8]; unfold bTalkOf; first | (rw [iif_t (by omega)]; done) | (rw [iif_f (by omega), iif_t (by omega)]; done) | (rw [iif_f (by omega), iif_f (by omega), iif_t (by omega)]; done) | (rw [iif_f (by omega), iif_f (by omega), iif_f (by omega), iif_t (by omega)]; done) | (rw [iif_f (by omega), iif_f (by omega), iif_f (by omega), iif_f (by omega), iif_t (by omega)]; done) | (rw [iif_f (by omega), iif_f (by omega), iif_f (by omega), iif_f (by omega), iif_f (by omega), iif_t (by omega)]; done) | (rw [iif_f (by omega), iif_f (by omega), iif_f (by omega), iif_f (by omega), iif_f (by omega), iif_f (by omega)]; done) : iI (-1000001) = iif (bPl bP talk = -1) (iI (-1000001)) (bTalkOf bO bF bE bZ bP bR bT talk what))) hend hP hD hS dX0_ofTalk_89
  · refine x_ldc hC (-1000001) tb_238 (by decide) dX0_ofTalk_11 ?_
    exact x_retI ((by exact (iif_t c_8).symm : iI (-1000001) = iif (bPl bP talk = -1) (iI (-1000001)) (bTalkOf bO bF bE bZ bP bR bT talk what))) hend hP hD hS dX0_ofTalk_13
abbrev r0_longestFree : Room := { frames := 1, cells := 0, slots := 0, locals := 22 }
set_option maxHeartbeats 4000000 in
set_option maxRecDepth 100000 in
theorem k0_longestFree (l : Launch) (D : va_G) (cs : Nat → ClassId) (h : Nat → Nat) (bO : Nat → Bool) (bG : Int → Int) (bF : Int → Int) (bE : Int → Int) (bZ : Int → Int) (bP : Int → Int) (bR : Int → Int) (bC : Int → Int) (bT : Int → Nat → Bool) (room : Int) (h1 : 0 ≤ room ∧ room < 8) : CI l D cs yX0_longestFree cX0_longestFree 5 .int r0_longestFree 0 0 [.ref (h 0), .int (iI room)] (wB h cs bO bG bF bE bZ bP bR bC bT) (wB h cs bO bG bF bE bZ bP bR bC bT) (iI ((bLong bT room 48).1)) := by
  refine CI_start (own := RX0) (by decide) rfl rfl (Nat.le_of_ble_eq_true rfl) ?_
  intro p e s m args below meth c Q A ls hC hl hP hD hA hS hend
  have hl : lv_has ls 5 [(0, .ref (h 0)), (1, .int (iI room))] := hl
  obtain ⟨H, hH⟩ : ∃ H : Heap, H = s.heap := ⟨_, rfl⟩
  have hS : va_S A s.heap H [] := by rw [hH]; exact hS
  rw [← hH] at hP
  obtain ⟨locs, hlocs⟩ : ∃ locs : List Loc, locs = [] := ⟨_, rfl⟩
  rw [← hlocs] at hS
  suffices hgo : W p l e r0_longestFree s m args below meth c H locs 0 0 Q (F0 m 0 ls []) by rw [← hH, ← hlocs]; exact hgo
  clear hH hlocs
  refine x_ic hC dX0_longestFree_0 ?_
  refine x_is hC [(2, .int (iI 0)), (0, .ref (h 0)), (1, .int (iI room))] hl dX0_longestFree_1 rfl (by decide) rfl (fun ls hl => ?_)
  refine x_ic hC dX0_longestFree_2 ?_
  refine x_is hC [(3, .int (iI 0)), (2, .int (iI 0)), (0, .ref (h 0)), (1, .int (iI room))] hl dX0_longestFree_3 rfl (by decide) rfl (fun ls hl => ?_)
  refine x_ic hC dX0_longestFree_4 ?_
  refine x_isw hC [(4, .int (iI 0)), (3, .int (iI 0)), (2, .int (iI 0)), (0, .ref (h 0)), (1, .int (iI room))] hl dX0_longestFree_5 (by decide) rfl (fun ls hl => ?_)
  have loop_7 : ∀ (n : Nat) (i : Int), (hi0 : 0 ≤ i) → (hiN : i ≤ 48) → (48 - i) < (n : Int) → ∀ (H : Heap) (locs : List Loc) (ls : Array Slot), va_P D vwCl (wB h cs bO bG bF bE bZ bP bR bC bT) H → va_D A (wB h cs bO bG bF bE bZ bP bR bC bT) → va_S A s.heap H locs → lv_has ls 5 [(4, .int (iI i)), (3, .int (iI ((bLong bT room i).2))), (2, .int (iI ((bLong bT room i).1))), (0, .ref (h 0)), (1, .int (iI room))] → W p l e r0_longestFree s m args below meth c H locs 0 0 Q (F0 m 7 ls []) := by
    intro n
    induction n with
    | zero =>
      intro i hi0 hiN hnn
      exfalso; omega
    | succ n ih_7 =>
      intro i hi0 hiN hnn H locs ls hP hD hS hl
      have hx := bLong_rg bT room hi0
      refine x_ilw hC hl 0 dX0_longestFree_7 rfl ?_
      refine x_bi hC dX0_longestFree_9 (by decide) ?_
      refine x_ic_ge hC 44 dX0_longestFree_11 (by decide) (by omega) (by omega) (fun c_11 => ?_) (fun c_11 => ?_)
      · obtain rfl : i = 48 := by omega
        refine x_il hC hl 2 dX0_longestFree_44 rfl rfl ?_
        exact x_retI (rfl) hend hP hD hS dX0_longestFree_45
      · refine x_al hC hl 3 dX0_longestFree_14 rfl rfl ?_
        refine x_il hC hl 4 dX0_longestFree_15 rfl rfl ?_
        refine x_ilw hC hl 0 dX0_longestFree_16 rfl ?_
        refine x_vI (As := [.int (iI room), .int (iI i)]) hC (k0_isTaken l D cs h bO bG bF bE bZ bP bR bC bT room i (by first | assumption | omega) (by first | assumption | omega)) lk0_154 (q0 := 0) (ci := 0) rfl rfl rfl (sub_all hP hD hS hA) hP hS rfl hl.1 rfl (Nat.le_of_ble_eq_true rfl) ⟨rfl, rfl⟩ ⟨Nat.le_of_ble_eq_true rfl, Nat.le_of_ble_eq_true rfl⟩ ⟨Nat.le_of_ble_eq_true rfl, Nat.le_of_ble_eq_true rfl⟩ dX0_longestFree_18 (fun H locs hP hD hS hHs => ?_)
        refine x_if_eq_b hC 28 dX0_longestFree_21 (by decide) (fun c_21 => ?_) (fun c_21 => ?_)
        · refine x_il hC hl 1 dX0_longestFree_28 rfl rfl ?_
          refine x_ic hC dX0_longestFree_29 ?_
          refine x_iadd hC dX0_longestFree_30 ?_
          refine x_is hC [(3, .int (iI (((bLong bT room i).2) + 1))), (4, .int (iI i)), (2, .int (iI ((bLong bT room i).1))), (0, .ref (h 0)), (1, .int (iI room))] hl dX0_longestFree_31 rfl (by decide) rfl (fun ls hl => ?_)
          refine x_il hC hl 2 dX0_longestFree_32 rfl rfl ?_
          refine x_il hC hl 0 dX0_longestFree_33 rfl rfl ?_
          refine x_mmax hC tb_418 tb_419 tb_79 tb_420 hl.1 (Nat.le_of_ble_eq_true rfl) (Nat.le_of_ble_eq_true rfl) (Nat.le_of_ble_eq_true rfl) (Nat.le_of_ble_eq_true rfl) (by omega) (by omega) dX0_longestFree_34 ?_
          refine x_is hC [(2, .int (iI (mmax2 ((bLong bT room i).1) (((bLong bT room i).2) + 1)))), (3, .int (iI (((bLong bT room i).2) + 1))), (4, .int (iI i)), (0, .ref (h 0)), (1, .int (iI room))] hl dX0_longestFree_37 rfl (by decide) rfl (fun ls hl => ?_)
          refine x_iinc hC [(4, .int (iI (i + 1))), (2, .int (iI (mmax2 ((bLong bT room i).1) (((bLong bT room i).2) + 1)))), (3, .int (iI (((bLong bT room i).2) + 1))), (0, .ref (h 0)), (1, .int (iI room))] 2 hl dX0_longestFree_38 rfl (by decide) rfl (fun ls hl => ?_)
          refine x_goto hC 7 dX0_longestFree_41 (by decide) ?_
          have hl : lv_has ls 5 [(4, .int (iI (i + 1))), (3, .int (iI ((bLong bT room (i + 1)).2))), (2, .int (iI ((bLong bT room (i + 1)).1))), (0, .ref (h 0)), (1, .int (iI room))] := lvE (lv_sub (l' := [(4, .int (iI (i + 1))), (3, .int (iI (((bLong bT room i).2) + 1))), (2, .int (iI (mmax2 ((bLong bT room i).1) (((bLong bT room i).2) + 1)))), (0, .ref (h 0)), (1, .int (iI room))]) hl [0, 2, 1, 3, 4] rfl) (lcE rfl (lcE (congrArg (fun z => Value.int (iI z)) (by rw [bLong_s _ _ hi0]; unfold bLongS; first | exact (iif_t c_21).symm | exact (iif_f c_21).symm : ((bLong bT room i).2) + 1 = (bLong bT room (i + 1)).2)) (lcE (congrArg (fun z => Value.int (iI z)) (by rw [bLong_s _ _ hi0]; unfold bLongS; first | rw [iif_t c_21] | rw [iif_f c_21] : mmax2 ((bLong bT room i).1) (((bLong bT room i).2) + 1) = (bLong bT room (i + 1)).1)) (lcE rfl (lcE rfl (rfl))))))
          exact ih_7 (i + 1) (by omega) (by omega) (by omega) H locs ls hP hD hS hl
        · refine x_ic hC dX0_longestFree_24 ?_
          refine x_goto hC 31 dX0_longestFree_25 (by decide) ?_
          refine x_is hC [(3, .int (iI 0)), (4, .int (iI i)), (2, .int (iI ((bLong bT room i).1))), (0, .ref (h 0)), (1, .int (iI room))] hl dX0_longestFree_31 rfl (by decide) rfl (fun ls hl => ?_)
          refine x_il hC hl 2 dX0_longestFree_32 rfl rfl ?_
          refine x_il hC hl 0 dX0_longestFree_33 rfl rfl ?_
          refine x_mmax hC tb_418 tb_419 tb_79 tb_420 hl.1 (Nat.le_of_ble_eq_true rfl) (Nat.le_of_ble_eq_true rfl) (Nat.le_of_ble_eq_true rfl) (Nat.le_of_ble_eq_true rfl) (by omega) (by omega) dX0_longestFree_34 ?_
          refine x_is hC [(2, .int (iI (mmax2 ((bLong bT room i).1) 0))), (3, .int (iI 0)), (4, .int (iI i)), (0, .ref (h 0)), (1, .int (iI room))] hl dX0_longestFree_37 rfl (by decide) rfl (fun ls hl => ?_)
          refine x_iinc hC [(4, .int (iI (i + 1))), (2, .int (iI (mmax2 ((bLong bT room i).1) 0))), (3, .int (iI 0)), (0, .ref (h 0)), (1, .int (iI room))] 2 hl dX0_longestFree_38 rfl (by decide) rfl (fun ls hl => ?_)
          refine x_goto hC 7 dX0_longestFree_41 (by decide) ?_
          have hl : lv_has ls 5 [(4, .int (iI (i + 1))), (3, .int (iI ((bLong bT room (i + 1)).2))), (2, .int (iI ((bLong bT room (i + 1)).1))), (0, .ref (h 0)), (1, .int (iI room))] := lvE (lv_sub (l' := [(4, .int (iI (i + 1))), (3, .int (iI 0)), (2, .int (iI (mmax2 ((bLong bT room i).1) 0))), (0, .ref (h 0)), (1, .int (iI room))]) hl [0, 2, 1, 3, 4] rfl) (lcE rfl (lcE (congrArg (fun z => Value.int (iI z)) (by rw [bLong_s _ _ hi0]; unfold bLongS; first | exact (iif_t c_21).symm | exact (iif_f c_21).symm : 0 = (bLong bT room (i + 1)).2)) (lcE (congrArg (fun z => Value.int (iI z)) (by rw [bLong_s _ _ hi0]; unfold bLongS; first | rw [iif_t c_21] | rw [iif_f c_21] : mmax2 ((bLong bT room i).1) 0 = (bLong bT room (i + 1)).1)) (lcE rfl (lcE rfl (rfl))))))
          exact ih_7 (i + 1) (by omega) (by omega) (by omega) H locs ls hP hD hS hl
  have hl := lv_sub (l' := [(4, .int (iI 0)), (3, .int (iI ((bLong bT room 0).2))), (2, .int (iI ((bLong bT room 0).1))), (0, .ref (h 0)), (1, .int (iI room))]) hl [0, 1, 2, 3, 4] rfl
  exact loop_7 (Int.toNat (48 - 0) + 1) 0 (by omega) (by omega) (by omega) H locs ls hP hD hS hl
abbrev r0_ofRoom : Room := { frames := 2, cells := 0, slots := 0, locals := 46 }
set_option maxHeartbeats 4000000 in
set_option maxRecDepth 100000 in
theorem k0_ofRoom (l : Launch) (D : va_G) (cs : Nat → ClassId) (h : Nat → Nat) (bO : Nat → Bool) (bG : Int → Int) (bF : Int → Int) (bE : Int → Int) (bZ : Int → Int) (bP : Int → Int) (bR : Int → Int) (bC : Int → Int) (bT : Int → Nat → Bool) (room : Int) (what : Int) (hB : IB bF bE bZ bP bR bC) (g_room : -2147483648 ≤ room ∧ room ≤ 2147483647) (g_what : -2147483648 ≤ what ∧ what ≤ 2147483647) : CI l D cs yX0_ofRoom cX0_ofRoom 3 .int r0_ofRoom 0 0 [.ref (h 0), .int (iI room), .int (iI what)] (wB h cs bO bG bF bE bZ bP bR bC bT) (wB h cs bO bG bF bE bZ bP bR bC bT) (iif (0 ≤ room ∧ room ≤ 7) (bRoomOf bO bP bR bC bT room what) (iI (-1000001))) := by
  refine CI_start (own := RX0) (by decide) rfl rfl (Nat.le_of_ble_eq_true rfl) ?_
  intro p e s m args below meth c Q A ls hC hl hP hD hA hS hend
  have hl : lv_has ls 3 [(0, .ref (h 0)), (1, .int (iI room)), (2, .int (iI what))] := hl
  obtain ⟨H, hH⟩ : ∃ H : Heap, H = s.heap := ⟨_, rfl⟩
  have hS : va_S A s.heap H [] := by rw [hH]; exact hS
  rw [← hH] at hP
  obtain ⟨locs, hlocs⟩ : ∃ locs : List Loc, locs = [] := ⟨_, rfl⟩
  rw [← hlocs] at hS
  suffices hgo : W p l e r0_ofRoom s m args below meth c H locs 0 0 Q (F0 m 0 ls []) by rw [← hH, ← hlocs]; exact hgo
  clear hH hlocs
  refine x_il hC hl 1 dX0_ofRoom_0 rfl rfl ?_
  refine x_nI (As := [.int (iI room)]) hC (k4_isRoom l D cs room (by first | assumption | omega)) lk0_68 (sub_none hP hD hS hA) hP hS rfl hl.1 rfl (Nat.le_of_ble_eq_true rfl) ⟨rfl, rfl⟩ ⟨Nat.le_of_ble_eq_true rfl, Nat.le_of_ble_eq_true rfl⟩ ⟨Nat.le_of_ble_eq_true rfl, Nat.le_of_ble_eq_true rfl⟩ dX0_ofRoom_1 (fun H locs hP hD hS hHs => ?_)
  refine x_if_ne_b hC 10 dX0_ofRoom_4 (by decide) (fun c_4 => ?_) (fun c_4 => ?_)
  · refine x_il hC hl 2 dX0_ofRoom_10 rfl rfl ?_
    by_cases c_11_0 : what = 0
    · refine x_tsIn hC 52 dX0_ofRoom_11 (by rw [c_11_0]; omega) (by rw [c_11_0]; decide) (by rw [c_11_0]; decide) (by rw [c_11_0]; rfl) (by decide) ?_
      refine x_al hC hl 0 dX0_ofRoom_52 rfl rfl ?_
      refine x_get0 (v := .ref (h 5)) hC hP 0 rfl 4 (by decide) tb_100 rfl rfl dX0_ofRoom_53 ?_
      refine x_il hC hl 1 dX0_ofRoom_56 rfl rfl ?_
      refine x_iald hC hP 5 rfl (by omega) (by decide) dX0_ofRoom_57 ?_
      exact x_retI ((by rw [iif_t c_4]; unfold bRoomOf; first | (rw [iif_t (by omega)]; done) | (rw [iif_f (by omega), iif_t (by omega)]; done) | (rw [iif_f (by omega), iif_f (by omega), iif_t (by omega)]; done) | (rw [iif_f (by omega), iif_f (by omega), iif_f (by omega), iif_t (by omega)]; done) | (rw [iif_f (by omega), iif_f (by omega), iif_f (by omega), iif_f (by omega), iif_t (by omega)]; done) | (rw [iif_f (by omega), iif_f (by omega), iif_f (by omega), iif_f (by omega), iif_f (by omega), iif_t (by omega)]; done) | (rw [iif_f (by omega), iif_f (by omega), iif_f (by omega), iif_f (by omega), iif_f (by omega), iif_f (by omega), iif_t (by omega)]; done) | (rw [iif_f (by omega), iif_f (by omega), iif_f (by omega), iif_f (by omega), iif_f (by omega), iif_f (by omega), iif_f (by omega)]; done) : iI (bR room) = iif (0 ≤ room ∧ room ≤ 7) (bRoomOf bO bP bR bC bT room what) (iI (-1000001)))) hend hP hD hS dX0_ofRoom_58
    by_cases c_11_1 : what = 1
    · refine x_tsIn hC 59 dX0_ofRoom_11 (by rw [c_11_1]; omega) (by rw [c_11_1]; decide) (by rw [c_11_1]; decide) (by rw [c_11_1]; rfl) (by decide) ?_
      refine x_al hC hl 0 dX0_ofRoom_59 rfl rfl ?_
      refine x_get0 (v := .ref (h 6)) hC hP 0 rfl 5 (by decide) tb_101 rfl rfl dX0_ofRoom_60 ?_
      refine x_il hC hl 1 dX0_ofRoom_63 rfl rfl ?_
      refine x_iald hC hP 6 rfl (by omega) (by decide) dX0_ofRoom_64 ?_
      exact x_retI ((by rw [iif_t c_4]; unfold bRoomOf; first | (rw [iif_t (by omega)]; done) | (rw [iif_f (by omega), iif_t (by omega)]; done) | (rw [iif_f (by omega), iif_f (by omega), iif_t (by omega)]; done) | (rw [iif_f (by omega), iif_f (by omega), iif_f (by omega), iif_t (by omega)]; done) | (rw [iif_f (by omega), iif_f (by omega), iif_f (by omega), iif_f (by omega), iif_t (by omega)]; done) | (rw [iif_f (by omega), iif_f (by omega), iif_f (by omega), iif_f (by omega), iif_f (by omega), iif_t (by omega)]; done) | (rw [iif_f (by omega), iif_f (by omega), iif_f (by omega), iif_f (by omega), iif_f (by omega), iif_f (by omega), iif_t (by omega)]; done) | (rw [iif_f (by omega), iif_f (by omega), iif_f (by omega), iif_f (by omega), iif_f (by omega), iif_f (by omega), iif_f (by omega)]; done) : iI (bC room) = iif (0 ≤ room ∧ room ≤ 7) (bRoomOf bO bP bR bC bT room what) (iI (-1000001)))) hend hP hD hS dX0_ofRoom_65
    by_cases c_11_2 : what = 2
    · refine x_tsIn hC 66 dX0_ofRoom_11 (by rw [c_11_2]; omega) (by rw [c_11_2]; decide) (by rw [c_11_2]; decide) (by rw [c_11_2]; rfl) (by decide) ?_
      refine x_al hC hl 0 dX0_ofRoom_66 rfl rfl ?_
      refine x_il hC hl 1 dX0_ofRoom_67 rfl rfl ?_
      refine x_vI (As := [.int (iI room)]) hC (k0_isOpen l D cs h bO bG bF bE bZ bP bR bC bT room (by first | assumption | omega)) lk0_92 (q0 := 0) (ci := 0) rfl rfl rfl (sub_all hP hD hS hA) hP hS rfl hl.1 rfl (Nat.le_of_ble_eq_true rfl) ⟨rfl, rfl⟩ ⟨Nat.le_of_ble_eq_true rfl, Nat.le_of_ble_eq_true rfl⟩ ⟨Nat.le_of_ble_eq_true rfl, Nat.le_of_ble_eq_true rfl⟩ dX0_ofRoom_68 (fun H locs hP hD hS hHs => ?_)
      refine x_if_eq_b hC 78 dX0_ofRoom_71 (by decide) (fun c_71 => ?_) (fun c_71 => ?_)
      · refine x_ic hC dX0_ofRoom_78 ?_
        exact x_retI ((by rw [iif_t c_4]; unfold bRoomOf; rw [iif_f (by omega), iif_f (by omega), iif_t (by omega)]; first | rw [b2p_t c_71] | rw [b2p_f c_71] : iI 0 = iif (0 ≤ room ∧ room ≤ 7) (bRoomOf bO bP bR bC bT room what) (iI (-1000001)))) hend hP hD hS dX0_ofRoom_79
      · refine x_ic hC dX0_ofRoom_74 ?_
        refine x_goto hC 79 dX0_ofRoom_75 (by decide) ?_
        exact x_retI ((by rw [iif_t c_4]; unfold bRoomOf; rw [iif_f (by omega), iif_f (by omega), iif_t (by omega)]; first | rw [b2p_t c_71] | rw [b2p_f c_71] : iI 1 = iif (0 ≤ room ∧ room ≤ 7) (bRoomOf bO bP bR bC bT room what) (iI (-1000001)))) hend hP hD hS dX0_ofRoom_79
    by_cases c_11_3 : what = 3
    · refine x_tsIn hC 80 dX0_ofRoom_11 (by rw [c_11_3]; omega) (by rw [c_11_3]; decide) (by rw [c_11_3]; decide) (by rw [c_11_3]; rfl) (by decide) ?_
      refine x_al hC hl 0 dX0_ofRoom_80 rfl rfl ?_
      refine x_il hC hl 1 dX0_ofRoom_81 rfl rfl ?_
      refine x_vI (As := [.int (iI room)]) hC (k0_talksIn l D cs h bO bG bF bE bZ bP bR bC bT room (by first | assumption | omega) (by first | assumption | omega)) lk0_144 (q0 := 0) (ci := 0) rfl rfl rfl (sub_all hP hD hS hA) hP hS rfl hl.1 rfl (Nat.le_of_ble_eq_true rfl) ⟨rfl, rfl⟩ ⟨Nat.le_of_ble_eq_true rfl, Nat.le_of_ble_eq_true rfl⟩ ⟨Nat.le_of_ble_eq_true rfl, Nat.le_of_ble_eq_true rfl⟩ dX0_ofRoom_82 (fun H locs hP hD hS hHs => ?_)
      refine x_sI (As := [.int (mskI (fun t => bP t = room) (20))]) hC (k6_bitCount_0f7a4 l D cs (mskI (fun t => bP t = room) (20)) (bd (fun t => bP t = room)) 20 (rfl) ((by omega))) lk0_147 (sub_none hP hD hS hA) hP hS rfl hl.1 rfl (Nat.le_of_ble_eq_true rfl) ⟨rfl, rfl⟩ ⟨Nat.le_of_ble_eq_true rfl, Nat.le_of_ble_eq_true rfl⟩ ⟨Nat.le_of_ble_eq_true rfl, Nat.le_of_ble_eq_true rfl⟩ dX0_ofRoom_85 (fun H locs hP hD hS hHs => ?_)
      have q_85 := cntN_le (bd (fun t => bP t = room)) 20
      exact x_retI ((by rw [iif_t c_4]; unfold bRoomOf; first | (rw [iif_t (by omega)]; done) | (rw [iif_f (by omega), iif_t (by omega)]; done) | (rw [iif_f (by omega), iif_f (by omega), iif_t (by omega)]; done) | (rw [iif_f (by omega), iif_f (by omega), iif_f (by omega), iif_t (by omega)]; done) | (rw [iif_f (by omega), iif_f (by omega), iif_f (by omega), iif_f (by omega), iif_t (by omega)]; done) | (rw [iif_f (by omega), iif_f (by omega), iif_f (by omega), iif_f (by omega), iif_f (by omega), iif_t (by omega)]; done) | (rw [iif_f (by omega), iif_f (by omega), iif_f (by omega), iif_f (by omega), iif_f (by omega), iif_f (by omega), iif_t (by omega)]; done) | (rw [iif_f (by omega), iif_f (by omega), iif_f (by omega), iif_f (by omega), iif_f (by omega), iif_f (by omega), iif_f (by omega)]; done) : iI ((cntN (bd (fun t => bP t = room)) 20 : Nat) : Int) = iif (0 ≤ room ∧ room ≤ 7) (bRoomOf bO bP bR bC bT room what) (iI (-1000001)))) hend hP hD hS dX0_ofRoom_88
    by_cases c_11_4 : what = 4
    · refine x_tsIn hC 89 dX0_ofRoom_11 (by rw [c_11_4]; omega) (by rw [c_11_4]; decide) (by rw [c_11_4]; decide) (by rw [c_11_4]; rfl) (by decide) ?_
      refine x_al hC hl 0 dX0_ofRoom_89 rfl rfl ?_
      refine x_get0 (v := .ref (h 7)) hC hP 0 rfl 6 (by decide) tb_102 rfl rfl dX0_ofRoom_90 ?_
      refine x_il hC hl 1 dX0_ofRoom_93 rfl rfl ?_
      refine x_lald hC hP 7 rfl (by omega) (by decide) dX0_ofRoom_94 ?_
      refine x_sI (As := [.long (lN (mkN (bT room) 48))]) hC (k13_bitCount_95d88 l D cs (lN (mkN (bT room) 48)) (bT room) (rfl)) lk0_130 (sub_none hP hD hS hA) hP hS rfl hl.1 rfl (Nat.le_of_ble_eq_true rfl) ⟨rfl, rfl⟩ ⟨Nat.le_of_ble_eq_true rfl, Nat.le_of_ble_eq_true rfl⟩ ⟨Nat.le_of_ble_eq_true rfl, Nat.le_of_ble_eq_true rfl⟩ dX0_ofRoom_95 (fun H locs hP hD hS hHs => ?_)
      have q_95 := cntN_le (bT room) 48
      exact x_retI ((by rw [iif_t c_4]; unfold bRoomOf; first | (rw [iif_t (by omega)]; done) | (rw [iif_f (by omega), iif_t (by omega)]; done) | (rw [iif_f (by omega), iif_f (by omega), iif_t (by omega)]; done) | (rw [iif_f (by omega), iif_f (by omega), iif_f (by omega), iif_t (by omega)]; done) | (rw [iif_f (by omega), iif_f (by omega), iif_f (by omega), iif_f (by omega), iif_t (by omega)]; done) | (rw [iif_f (by omega), iif_f (by omega), iif_f (by omega), iif_f (by omega), iif_f (by omega), iif_t (by omega)]; done) | (rw [iif_f (by omega), iif_f (by omega), iif_f (by omega), iif_f (by omega), iif_f (by omega), iif_f (by omega), iif_t (by omega)]; done) | (rw [iif_f (by omega), iif_f (by omega), iif_f (by omega), iif_f (by omega), iif_f (by omega), iif_f (by omega), iif_f (by omega)]; done) : iI ((cntN (bT room) 48 : Nat) : Int) = iif (0 ≤ room ∧ room ≤ 7) (bRoomOf bO bP bR bC bT room what) (iI (-1000001)))) hend hP hD hS dX0_ofRoom_98
    by_cases c_11_5 : what = 5
    · refine x_tsIn hC 99 dX0_ofRoom_11 (by rw [c_11_5]; omega) (by rw [c_11_5]; decide) (by rw [c_11_5]; decide) (by rw [c_11_5]; rfl) (by decide) ?_
      refine x_al hC hl 0 dX0_ofRoom_99 rfl rfl ?_
      refine x_il hC hl 1 dX0_ofRoom_100 rfl rfl ?_
      refine x_vI (As := [.int (iI room)]) hC (k0_talksIn l D cs h bO bG bF bE bZ bP bR bC bT room (by first | assumption | omega) (by first | assumption | omega)) lk0_144 (q0 := 0) (ci := 0) rfl rfl rfl (sub_all hP hD hS hA) hP hS rfl hl.1 rfl (Nat.le_of_ble_eq_true rfl) ⟨rfl, rfl⟩ ⟨Nat.le_of_ble_eq_true rfl, Nat.le_of_ble_eq_true rfl⟩ ⟨Nat.le_of_ble_eq_true rfl, Nat.le_of_ble_eq_true rfl⟩ dX0_ofRoom_101 (fun H locs hP hD hS hHs => ?_)
      exact x_retI ((by rw [iif_t c_4]; unfold bRoomOf; first | (rw [iif_t (by omega)]; done) | (rw [iif_f (by omega), iif_t (by omega)]; done) | (rw [iif_f (by omega), iif_f (by omega), iif_t (by omega)]; done) | (rw [iif_f (by omega), iif_f (by omega), iif_f (by omega), iif_t (by omega)]; done) | (rw [iif_f (by omega), iif_f (by omega), iif_f (by omega), iif_f (by omega), iif_t (by omega)]; done) | (rw [iif_f (by omega), iif_f (by omega), iif_f (by omega), iif_f (by omega), iif_f (by omega), iif_t (by omega)]; done) | (rw [iif_f (by omega), iif_f (by omega), iif_f (by omega), iif_f (by omega), iif_f (by omega), iif_f (by omega), iif_t (by omega)]; done) | (rw [iif_f (by omega), iif_f (by omega), iif_f (by omega), iif_f (by omega), iif_f (by omega), iif_f (by omega), iif_f (by omega)]; done) : mskI (fun t => bP t = room) (20) = iif (0 ≤ room ∧ room ≤ 7) (bRoomOf bO bP bR bC bT room what) (iI (-1000001)))) hend hP hD hS dX0_ofRoom_104
    by_cases c_11_6 : what = 6
    · refine x_tsIn hC 105 dX0_ofRoom_11 (by rw [c_11_6]; omega) (by rw [c_11_6]; decide) (by rw [c_11_6]; decide) (by rw [c_11_6]; rfl) (by decide) ?_
      refine x_al hC hl 0 dX0_ofRoom_105 rfl rfl ?_
      refine x_il hC hl 1 dX0_ofRoom_106 rfl rfl ?_
      refine x_vI (As := [.int (iI room)]) hC (k0_longestFree l D cs h bO bG bF bE bZ bP bR bC bT room (by first | assumption | omega)) lk0_151 (q0 := 0) (ci := 0) rfl rfl rfl (sub_all hP hD hS hA) hP hS rfl hl.1 rfl (Nat.le_of_ble_eq_true rfl) ⟨rfl, rfl⟩ ⟨Nat.le_of_ble_eq_true rfl, Nat.le_of_ble_eq_true rfl⟩ ⟨Nat.le_of_ble_eq_true rfl, Nat.le_of_ble_eq_true rfl⟩ dX0_ofRoom_107 (fun H locs hP hD hS hHs => ?_)
      exact x_retI ((by rw [iif_t c_4]; unfold bRoomOf; first | (rw [iif_t (by omega)]; done) | (rw [iif_f (by omega), iif_t (by omega)]; done) | (rw [iif_f (by omega), iif_f (by omega), iif_t (by omega)]; done) | (rw [iif_f (by omega), iif_f (by omega), iif_f (by omega), iif_t (by omega)]; done) | (rw [iif_f (by omega), iif_f (by omega), iif_f (by omega), iif_f (by omega), iif_t (by omega)]; done) | (rw [iif_f (by omega), iif_f (by omega), iif_f (by omega), iif_f (by omega), iif_f (by omega), iif_t (by omega)]; done) | (rw [iif_f (by omega), iif_f (by omega), iif_f (by omega), iif_f (by omega), iif_f (by omega), iif_f (by omega), iif_t (by omega)]; done) | (rw [iif_f (by omega), iif_f (by omega), iif_f (by omega), iif_f (by omega), iif_f (by omega), iif_f (by omega), iif_f (by omega)]; done) : iI ((bLong bT room 48).1) = iif (0 ≤ room ∧ room ≤ 7) (bRoomOf bO bP bR bC bT room what) (iI (-1000001)))) hend hP hD hS dX0_ofRoom_110
    refine x_tsOut hC 111 dX0_ofRoom_11 (by omega) (by omega) (by decide) ?_
    refine x_ldc hC (-1000001) tb_238 (by decide) dX0_ofRoom_111 ?_
    exact x_retI ((by rw [iif_t c_4]; unfold bRoomOf; first | (rw [iif_t (by omega)]; done) | (rw [iif_f (by omega), iif_t (by omega)]; done) | (rw [iif_f (by omega), iif_f (by omega), iif_t (by omega)]; done) | (rw [iif_f (by omega), iif_f (by omega), iif_f (by omega), iif_t (by omega)]; done) | (rw [iif_f (by omega), iif_f (by omega), iif_f (by omega), iif_f (by omega), iif_t (by omega)]; done) | (rw [iif_f (by omega), iif_f (by omega), iif_f (by omega), iif_f (by omega), iif_f (by omega), iif_t (by omega)]; done) | (rw [iif_f (by omega), iif_f (by omega), iif_f (by omega), iif_f (by omega), iif_f (by omega), iif_f (by omega), iif_t (by omega)]; done) | (rw [iif_f (by omega), iif_f (by omega), iif_f (by omega), iif_f (by omega), iif_f (by omega), iif_f (by omega), iif_f (by omega)]; done) : iI (-1000001) = iif (0 ≤ room ∧ room ≤ 7) (bRoomOf bO bP bR bC bT room what) (iI (-1000001)))) hend hP hD hS dX0_ofRoom_113
  · refine x_ldc hC (-1000001) tb_238 (by decide) dX0_ofRoom_7 ?_
    exact x_retI ((by exact (iif_f c_4).symm : iI (-1000001) = iif (0 ≤ room ∧ room ≤ 7) (bRoomOf bO bP bR bC bT room what) (iI (-1000001)))) hend hP hD hS dX0_ofRoom_9
abbrev r0_talkIn : Room := { frames := 1, cells := 0, slots := 0, locals := 22 }
set_option maxHeartbeats 4000000 in
set_option maxRecDepth 100000 in
theorem k0_talkIn (l : Launch) (D : va_G) (cs : Nat → ClassId) (h : Nat → Nat) (bO : Nat → Bool) (bG : Int → Int) (bF : Int → Int) (bE : Int → Int) (bZ : Int → Int) (bP : Int → Int) (bR : Int → Int) (bC : Int → Int) (bT : Int → Nat → Bool) (room : Int) (hour : Int) (hB : IB bF bE bZ bP bR bC) (h1 : 0 ≤ room ∧ room < 8) (g_hour : -2147483648 ≤ hour ∧ hour ≤ 2147483647) : CI l D cs yX0_talkIn cX0_talkIn 4 .int r0_talkIn 0 0 [.ref (h 0), .int (iI room), .int (iI hour)] (wB h cs bO bG bF bE bZ bP bR bC bT) (wB h cs bO bG bF bE bZ bP bR bC bT) (iI (bTalkIn bF bE bP room hour)) := by
  refine CI_start (own := RX0) (by decide) rfl rfl (Nat.le_of_ble_eq_true rfl) ?_
  intro p e s m args below meth c Q A ls hC hl hP hD hA hS hend
  have hl : lv_has ls 4 [(0, .ref (h 0)), (1, .int (iI room)), (2, .int (iI hour))] := hl
  obtain ⟨H, hH⟩ : ∃ H : Heap, H = s.heap := ⟨_, rfl⟩
  have hS : va_S A s.heap H [] := by rw [hH]; exact hS
  rw [← hH] at hP
  obtain ⟨locs, hlocs⟩ : ∃ locs : List Loc, locs = [] := ⟨_, rfl⟩
  rw [← hlocs] at hS
  suffices hgo : W p l e r0_talkIn s m args below meth c H locs 0 0 Q (F0 m 0 ls []) by rw [← hH, ← hlocs]; exact hgo
  clear hH hlocs
  refine x_ic hC dX0_talkIn_0 ?_
  refine x_is hC [(3, .int (iI 0)), (0, .ref (h 0)), (1, .int (iI room)), (2, .int (iI hour))] hl dX0_talkIn_1 rfl (by decide) rfl (fun ls hl => ?_)
  have loop_2 : ∀ (n : Nat) (i : Int), (hi0 : 0 ≤ i) → (hiN : i ≤ 20) → (hf : fstI (fun t => bP t = room ∧ bTk bF bE bP t hour) (-1) (20 - i).toNat i = bTalkIn bF bE bP room hour) → (20 - i) < (n : Int) → ∀ (H : Heap) (locs : List Loc) (ls : Array Slot), va_P D vwCl (wB h cs bO bG bF bE bZ bP bR bC bT) H → va_D A (wB h cs bO bG bF bE bZ bP bR bC bT) → va_S A s.heap H locs → lv_has ls 4 [(3, .int (iI i)), (0, .ref (h 0)), (1, .int (iI room)), (2, .int (iI hour))] → W p l e r0_talkIn s m args below meth c H locs 0 0 Q (F0 m 2 ls []) := by
    intro n
    induction n with
    | zero =>
      intro i hi0 hiN hf hnn
      exfalso; omega
    | succ n ih_2 =>
      intro i hi0 hiN hf hnn H locs ls hP hD hS hl
      have qi : i < 20 → _ := fun h => ibT hB i ⟨hi0, h⟩
      refine x_il hC hl 0 dX0_talkIn_2 rfl rfl ?_
      refine x_bi hC dX0_talkIn_3 (by decide) ?_
      refine x_ic_ge hC 35 dX0_talkIn_5 (by decide) (by omega) (by omega) (fun c_5 => ?_) (fun c_5 => ?_)
      · obtain rfl : i = 20 := by omega
        refine x_ic hC dX0_talkIn_35 ?_
        exact x_retI (congrArg iI (by exact (fstI_e (by omega)).symm.trans hf : (-1) = bTalkIn bF bE bP room hour)) hend hP hD hS dX0_talkIn_36
      · have qj := qi (by omega)
        refine x_al hC hl 1 dX0_talkIn_8 rfl rfl ?_
        refine x_get0 (v := .ref (h 4)) hC hP 0 rfl 3 (by decide) tb_99 rfl rfl dX0_talkIn_9 ?_
        refine x_il hC hl 0 dX0_talkIn_12 rfl rfl ?_
        refine x_iald hC hP 4 rfl (by omega) (by decide) dX0_talkIn_13 ?_
        refine x_il hC hl 2 dX0_talkIn_14 rfl rfl ?_
        refine x_ic_ne hC 29 dX0_talkIn_15 (by decide) (by omega) (by omega) (fun c_15 => ?_) (fun c_15 => ?_)
        · refine x_iinc hC [(3, .int (iI (i + 1))), (0, .ref (h 0)), (1, .int (iI room)), (2, .int (iI hour))] 0 hl dX0_talkIn_29 rfl (by decide) rfl (fun ls hl => ?_)
          refine x_goto hC 2 dX0_talkIn_32 (by decide) ?_
          have hl := lv_sub (l' := [(3, .int (iI (i + 1))), (0, .ref (h 0)), (1, .int (iI room)), (2, .int (iI hour))]) hl [0, 1, 2, 3] rfl
          exact ih_2 (i + 1) (by omega) (by omega) ((fstI_f (by omega) (by first | exact fun h => c_15 h.1 | exact fun h => c_24 h.2)).symm.trans hf) (by omega) H locs ls hP hD hS hl
        · refine x_al hC hl 1 dX0_talkIn_18 rfl rfl ?_
          refine x_il hC hl 0 dX0_talkIn_19 rfl rfl ?_
          refine x_il hC hl 3 dX0_talkIn_20 rfl rfl ?_
          refine x_vI (As := [.int (iI i), .int (iI hour)]) hC (k0_takesHour l D cs h bO bG bF bE bZ bP bR bC bT i hour (by first | assumption | omega) (by first | assumption | omega) (by first | assumption | omega)) lk0_162 (q0 := 0) (ci := 0) rfl rfl rfl (sub_all hP hD hS hA) hP hS rfl hl.1 rfl (Nat.le_of_ble_eq_true rfl) ⟨rfl, rfl⟩ ⟨Nat.le_of_ble_eq_true rfl, Nat.le_of_ble_eq_true rfl⟩ ⟨Nat.le_of_ble_eq_true rfl, Nat.le_of_ble_eq_true rfl⟩ dX0_talkIn_21 (fun H locs hP hD hS hHs => ?_)
          refine x_if_eq_b hC 29 dX0_talkIn_24 (by decide) (fun c_24 => ?_) (fun c_24 => ?_)
          · refine x_iinc hC [(3, .int (iI (i + 1))), (0, .ref (h 0)), (1, .int (iI room)), (2, .int (iI hour))] 0 hl dX0_talkIn_29 rfl (by decide) rfl (fun ls hl => ?_)
            refine x_goto hC 2 dX0_talkIn_32 (by decide) ?_
            have hl := lv_sub (l' := [(3, .int (iI (i + 1))), (0, .ref (h 0)), (1, .int (iI room)), (2, .int (iI hour))]) hl [0, 1, 2, 3] rfl
            exact ih_2 (i + 1) (by omega) (by omega) ((fstI_f (by omega) (by first | exact fun h => c_15 h.1 | exact fun h => c_24 h.2)).symm.trans hf) (by omega) H locs ls hP hD hS hl
          · refine x_il hC hl 0 dX0_talkIn_27 rfl rfl ?_
            exact x_retI (congrArg iI (by exact (fstI_t (by omega) ⟨c_15, c_24⟩).symm.trans hf : i = bTalkIn bF bE bP room hour)) hend hP hD hS dX0_talkIn_28
  have hl := lv_sub (l' := [(3, .int (iI 0)), (0, .ref (h 0)), (1, .int (iI room)), (2, .int (iI hour))]) hl [0, 1, 2, 3] rfl
  exact loop_2 (Int.toNat (20 - 0) + 1) 0 (by omega) (by omega) rfl (by omega) H locs ls hP hD hS hl
abbrev r0_talksAt : Room := { frames := 1, cells := 0, slots := 0, locals := 22 }
set_option maxHeartbeats 4000000 in
set_option maxRecDepth 100000 in
theorem k0_talksAt (l : Launch) (D : va_G) (cs : Nat → ClassId) (h : Nat → Nat) (bO : Nat → Bool) (bG : Int → Int) (bF : Int → Int) (bE : Int → Int) (bZ : Int → Int) (bP : Int → Int) (bR : Int → Int) (bC : Int → Int) (bT : Int → Nat → Bool) (hour : Int) (hB : IB bF bE bZ bP bR bC) (g_hour : -2147483648 ≤ hour ∧ hour ≤ 2147483647) : CI l D cs yX0_talksAt cX0_talksAt 4 .int r0_talksAt 0 0 [.ref (h 0), .int (iI hour)] (wB h cs bO bG bF bE bZ bP bR bC bT) (wB h cs bO bG bF bE bZ bP bR bC bT) (iI (bAt bF bE bP hour 20)) := by
  refine CI_start (own := RX0) (by decide) rfl rfl (Nat.le_of_ble_eq_true rfl) ?_
  intro p e s m args below meth c Q A ls hC hl hP hD hA hS hend
  have hl : lv_has ls 4 [(0, .ref (h 0)), (1, .int (iI hour))] := hl
  obtain ⟨H, hH⟩ : ∃ H : Heap, H = s.heap := ⟨_, rfl⟩
  have hS : va_S A s.heap H [] := by rw [hH]; exact hS
  rw [← hH] at hP
  obtain ⟨locs, hlocs⟩ : ∃ locs : List Loc, locs = [] := ⟨_, rfl⟩
  rw [← hlocs] at hS
  suffices hgo : W p l e r0_talksAt s m args below meth c H locs 0 0 Q (F0 m 0 ls []) by rw [← hH, ← hlocs]; exact hgo
  clear hH hlocs
  refine x_ic hC dX0_talksAt_0 ?_
  refine x_is hC [(2, .int (iI 0)), (0, .ref (h 0)), (1, .int (iI hour))] hl dX0_talksAt_1 rfl (by decide) rfl (fun ls hl => ?_)
  refine x_ic hC dX0_talksAt_2 ?_
  refine x_is hC [(3, .int (iI 0)), (2, .int (iI 0)), (0, .ref (h 0)), (1, .int (iI hour))] hl dX0_talksAt_3 rfl (by decide) rfl (fun ls hl => ?_)
  have loop_4 : ∀ (n : Nat) (i : Int), (hi0 : 0 ≤ i) → (hiN : i ≤ 20) → (20 - i) < (n : Int) → ∀ (H : Heap) (locs : List Loc) (ls : Array Slot), va_P D vwCl (wB h cs bO bG bF bE bZ bP bR bC bT) H → va_D A (wB h cs bO bG bF bE bZ bP bR bC bT) → va_S A s.heap H locs → lv_has ls 4 [(3, .int (iI i)), (2, .int (iI (bAt bF bE bP hour i))), (0, .ref (h 0)), (1, .int (iI hour))] → W p l e r0_talksAt s m args below meth c H locs 0 0 Q (F0 m 4 ls []) := by
    intro n
    induction n with
    | zero =>
      intro i hi0 hiN hnn
      exfalso; omega
    | succ n ih_4 =>
      intro i hi0 hiN hnn H locs ls hP hD hS hl
      refine x_il hC hl 0 dX0_talksAt_4 rfl rfl ?_
      refine x_bi hC dX0_talksAt_5 (by decide) ?_
      refine x_ic_ge hC 28 dX0_talksAt_7 (by decide) (by omega) (by omega) (fun c_7 => ?_) (fun c_7 => ?_)
      · obtain rfl : i = 20 := by omega
        refine x_il hC hl 1 dX0_talksAt_28 rfl rfl ?_
        exact x_retI (rfl) hend hP hD hS dX0_talksAt_29
      · refine x_al hC hl 2 dX0_talksAt_10 rfl rfl ?_
        refine x_il hC hl 0 dX0_talksAt_11 rfl rfl ?_
        refine x_il hC hl 3 dX0_talksAt_12 rfl rfl ?_
        refine x_vI (As := [.int (iI i), .int (iI hour)]) hC (k0_takesHour l D cs h bO bG bF bE bZ bP bR bC bT i hour (by first | assumption | omega) (by first | assumption | omega) (by first | assumption | omega)) lk0_162 (q0 := 0) (ci := 0) rfl rfl rfl (sub_all hP hD hS hA) hP hS rfl hl.1 rfl (Nat.le_of_ble_eq_true rfl) ⟨rfl, rfl⟩ ⟨Nat.le_of_ble_eq_true rfl, Nat.le_of_ble_eq_true rfl⟩ ⟨Nat.le_of_ble_eq_true rfl, Nat.le_of_ble_eq_true rfl⟩ dX0_talksAt_13 (fun H locs hP hD hS hHs => ?_)
        refine x_if_eq_b hC 22 dX0_talksAt_16 (by decide) (fun c_16 => ?_) (fun c_16 => ?_)
        · refine x_iinc hC [(3, .int (iI (i + 1))), (2, .int (iI (bAt bF bE bP hour i))), (0, .ref (h 0)), (1, .int (iI hour))] 0 hl dX0_talksAt_22 rfl (by decide) rfl (fun ls hl => ?_)
          refine x_goto hC 4 dX0_talksAt_25 (by decide) ?_
          have hl : lv_has ls 4 [(3, .int (iI (i + 1))), (2, .int (iI (bAt bF bE bP hour (i + 1)))), (0, .ref (h 0)), (1, .int (iI hour))] := lvE (lv_sub (l' := [(3, .int (iI (i + 1))), (2, .int (iI (bAt bF bE bP hour i))), (0, .ref (h 0)), (1, .int (iI hour))]) hl [0, 1, 2, 3] rfl) (lcE rfl (lcE (congrArg (fun z => Value.int (iI z)) (by rw [bAt_s _ _ _ _ hi0]; unfold bAtS; first | exact (iif_t c_16).symm | exact (iif_f c_16).symm : bAt bF bE bP hour i = bAt bF bE bP hour (i + 1))) (lcE rfl (lcE rfl (rfl)))))
          exact ih_4 (i + 1) (by omega) (by omega) (by omega) H locs ls hP hD hS hl
        · refine x_iinc hC [(2, .int (iI ((bAt bF bE bP hour i) + 1))), (3, .int (iI i)), (0, .ref (h 0)), (1, .int (iI hour))] 1 hl dX0_talksAt_19 rfl (by decide) rfl (fun ls hl => ?_)
          refine x_iinc hC [(3, .int (iI (i + 1))), (2, .int (iI ((bAt bF bE bP hour i) + 1))), (0, .ref (h 0)), (1, .int (iI hour))] 1 hl dX0_talksAt_22 rfl (by decide) rfl (fun ls hl => ?_)
          refine x_goto hC 4 dX0_talksAt_25 (by decide) ?_
          have hl : lv_has ls 4 [(3, .int (iI (i + 1))), (2, .int (iI (bAt bF bE bP hour (i + 1)))), (0, .ref (h 0)), (1, .int (iI hour))] := lvE (lv_sub (l' := [(3, .int (iI (i + 1))), (2, .int (iI ((bAt bF bE bP hour i) + 1))), (0, .ref (h 0)), (1, .int (iI hour))]) hl [0, 1, 2, 3] rfl) (lcE rfl (lcE (congrArg (fun z => Value.int (iI z)) (by rw [bAt_s _ _ _ _ hi0]; unfold bAtS; first | exact (iif_t c_16).symm | exact (iif_f c_16).symm : (bAt bF bE bP hour i) + 1 = bAt bF bE bP hour (i + 1))) (lcE rfl (lcE rfl (rfl)))))
          exact ih_4 (i + 1) (by omega) (by omega) (by omega) H locs ls hP hD hS hl
  have hl := lv_sub (l' := [(3, .int (iI 0)), (2, .int (iI (bAt bF bE bP hour 0))), (0, .ref (h 0)), (1, .int (iI hour))]) hl [0, 1, 2, 3] rfl
  exact loop_4 (Int.toNat (20 - 0) + 1) 0 (by omega) (by omega) (by omega) H locs ls hP hD hS hl
abbrev r0_fewestRooms : Room := { frames := 2, cells := 0, slots := 0, locals := 45 }
set_option maxHeartbeats 4000000 in
set_option maxRecDepth 100000 in
theorem k0_fewestRooms (l : Launch) (D : va_G) (cs : Nat → ClassId) (h : Nat → Nat) (bO : Nat → Bool) (bG : Int → Int) (bF : Int → Int) (bE : Int → Int) (bZ : Int → Int) (bP : Int → Int) (bR : Int → Int) (bC : Int → Int) (bT : Int → Nat → Bool) (hB : IB bF bE bZ bP bR bC) : CI l D cs yX0_fewestRooms cX0_fewestRooms 3 .int r0_fewestRooms 0 0 [.ref (h 0)] (wB h cs bO bG bF bE bZ bP bR bC bT) (wB h cs bO bG bF bE bZ bP bR bC bT) (iI (bFew bF bE bP 48)) := by
  refine CI_start (own := RX0) (by decide) rfl rfl (Nat.le_of_ble_eq_true rfl) ?_
  intro p e s m args below meth c Q A ls hC hl hP hD hA hS hend
  have hl : lv_has ls 3 [(0, .ref (h 0))] := hl
  obtain ⟨H, hH⟩ : ∃ H : Heap, H = s.heap := ⟨_, rfl⟩
  have hS : va_S A s.heap H [] := by rw [hH]; exact hS
  rw [← hH] at hP
  obtain ⟨locs, hlocs⟩ : ∃ locs : List Loc, locs = [] := ⟨_, rfl⟩
  rw [← hlocs] at hS
  suffices hgo : W p l e r0_fewestRooms s m args below meth c H locs 0 0 Q (F0 m 0 ls []) by rw [← hH, ← hlocs]; exact hgo
  clear hH hlocs
  refine x_ic hC dX0_fewestRooms_0 ?_
  refine x_is hC [(1, .int (iI 0)), (0, .ref (h 0))] hl dX0_fewestRooms_1 rfl (by decide) rfl (fun ls hl => ?_)
  refine x_ic hC dX0_fewestRooms_2 ?_
  refine x_is hC [(2, .int (iI 0)), (1, .int (iI 0)), (0, .ref (h 0))] hl dX0_fewestRooms_3 rfl (by decide) rfl (fun ls hl => ?_)
  have loop_4 : ∀ (n : Nat) (i : Int), (hi0 : 0 ≤ i) → (hiN : i ≤ 48) → (48 - i) < (n : Int) → ∀ (H : Heap) (locs : List Loc) (ls : Array Slot), va_P D vwCl (wB h cs bO bG bF bE bZ bP bR bC bT) H → va_D A (wB h cs bO bG bF bE bZ bP bR bC bT) → va_S A s.heap H locs → lv_has ls 3 [(2, .int (iI i)), (1, .int (iI (bFew bF bE bP i))), (0, .ref (h 0))] → W p l e r0_fewestRooms s m args below meth c H locs 0 0 Q (F0 m 4 ls []) := by
    intro n
    induction n with
    | zero =>
      intro i hi0 hiN hnn
      exfalso; omega
    | succ n ih_4 =>
      intro i hi0 hiN hnn H locs ls hP hD hS hl
      have hx := bFew_rg bF bE bP hi0
      refine x_il hC hl 0 dX0_fewestRooms_4 rfl rfl ?_
      refine x_bi hC dX0_fewestRooms_5 (by decide) ?_
      refine x_ic_ge hC 26 dX0_fewestRooms_7 (by decide) (by omega) (by omega) (fun c_7 => ?_) (fun c_7 => ?_)
      · obtain rfl : i = 48 := by omega
        refine x_il hC hl 1 dX0_fewestRooms_26 rfl rfl ?_
        exact x_retI (rfl) hend hP hD hS dX0_fewestRooms_27
      · refine x_il hC hl 1 dX0_fewestRooms_10 rfl rfl ?_
        refine x_al hC hl 2 dX0_fewestRooms_11 rfl rfl ?_
        refine x_il hC hl 0 dX0_fewestRooms_12 rfl rfl ?_
        refine x_vI (As := [.int (iI i)]) hC (k0_talksAt l D cs h bO bG bF bE bZ bP bR bC bT i (by first | assumption | omega) (by first | assumption | omega)) lk0_171 (q0 := 0) (ci := 0) rfl rfl rfl (sub_all hP hD hS hA) hP hS rfl hl.1 rfl (Nat.le_of_ble_eq_true rfl) ⟨rfl, rfl⟩ ⟨Nat.le_of_ble_eq_true rfl, Nat.le_of_ble_eq_true rfl⟩ ⟨Nat.le_of_ble_eq_true rfl, Nat.le_of_ble_eq_true rfl⟩ dX0_fewestRooms_13 (fun H locs hP hD hS hHs => ?_)
        have q_13 := bAt_rg bF bE bP i (n := 20) (by omega)
        refine x_mmax hC tb_418 tb_419 tb_79 tb_420 hl.1 (Nat.le_of_ble_eq_true rfl) (Nat.le_of_ble_eq_true rfl) (Nat.le_of_ble_eq_true rfl) (Nat.le_of_ble_eq_true rfl) (by omega) (by omega) dX0_fewestRooms_16 ?_
        refine x_is hC [(1, .int (iI (mmax2 (bFew bF bE bP i) (bAt bF bE bP i 20)))), (2, .int (iI i)), (0, .ref (h 0))] hl dX0_fewestRooms_19 rfl (by decide) rfl (fun ls hl => ?_)
        refine x_iinc hC [(2, .int (iI (i + 1))), (1, .int (iI (mmax2 (bFew bF bE bP i) (bAt bF bE bP i 20)))), (0, .ref (h 0))] 1 hl dX0_fewestRooms_20 rfl (by decide) rfl (fun ls hl => ?_)
        refine x_goto hC 4 dX0_fewestRooms_23 (by decide) ?_
        have hl : lv_has ls 3 [(2, .int (iI (i + 1))), (1, .int (iI (bFew bF bE bP (i + 1)))), (0, .ref (h 0))] := lvE (lv_sub (l' := [(2, .int (iI (i + 1))), (1, .int (iI (mmax2 (bFew bF bE bP i) (bAt bF bE bP i 20)))), (0, .ref (h 0))]) hl [0, 1, 2] rfl) (lcE rfl (lcE (congrArg (fun z => Value.int (iI z)) (by rw [bFew_s _ _ _ hi0] : mmax2 (bFew bF bE bP i) (bAt bF bE bP i 20) = bFew bF bE bP (i + 1))) (lcE rfl (rfl))))
        exact ih_4 (i + 1) (by omega) (by omega) (by omega) H locs ls hP hD hS hl
  have hl := lv_sub (l' := [(2, .int (iI 0)), (1, .int (iI (bFew bF bE bP 0))), (0, .ref (h 0))]) hl [0, 1, 2] rfl
  exact loop_4 (Int.toNat (48 - 0) + 1) 0 (by omega) (by omega) (by omega) H locs ls hP hD hS hl
abbrev r0_hoursTaken : Room := { frames := 1, cells := 0, slots := 0, locals := 21 }
set_option maxHeartbeats 4000000 in
set_option maxRecDepth 100000 in
theorem k0_hoursTaken (l : Launch) (D : va_G) (cs : Nat → ClassId) (h : Nat → Nat) (bO : Nat → Bool) (bG : Int → Int) (bF : Int → Int) (bE : Int → Int) (bZ : Int → Int) (bP : Int → Int) (bR : Int → Int) (bC : Int → Int) (bT : Int → Nat → Bool)  : CI l D cs yX0_hoursTaken cX0_hoursTaken 3 .int r0_hoursTaken 0 0 [.ref (h 0)] (wB h cs bO bG bF bE bZ bP bR bC bT) (wB h cs bO bG bF bE bZ bP bR bC bT) (iI (bHrs bT 8)) := by
  refine CI_start (own := RX0) (by decide) rfl rfl (Nat.le_of_ble_eq_true rfl) ?_
  intro p e s m args below meth c Q A ls hC hl hP hD hA hS hend
  have hl : lv_has ls 3 [(0, .ref (h 0))] := hl
  obtain ⟨H, hH⟩ : ∃ H : Heap, H = s.heap := ⟨_, rfl⟩
  have hS : va_S A s.heap H [] := by rw [hH]; exact hS
  rw [← hH] at hP
  obtain ⟨locs, hlocs⟩ : ∃ locs : List Loc, locs = [] := ⟨_, rfl⟩
  rw [← hlocs] at hS
  suffices hgo : W p l e r0_hoursTaken s m args below meth c H locs 0 0 Q (F0 m 0 ls []) by rw [← hH, ← hlocs]; exact hgo
  clear hH hlocs
  refine x_ic hC dX0_hoursTaken_0 ?_
  refine x_is hC [(1, .int (iI 0)), (0, .ref (h 0))] hl dX0_hoursTaken_1 rfl (by decide) rfl (fun ls hl => ?_)
  refine x_ic hC dX0_hoursTaken_2 ?_
  refine x_is hC [(2, .int (iI 0)), (1, .int (iI 0)), (0, .ref (h 0))] hl dX0_hoursTaken_3 rfl (by decide) rfl (fun ls hl => ?_)
  have loop_4 : ∀ (n : Nat) (i : Int), (hi0 : 0 ≤ i) → (hiN : i ≤ 8) → (8 - i) < (n : Int) → ∀ (H : Heap) (locs : List Loc) (ls : Array Slot), va_P D vwCl (wB h cs bO bG bF bE bZ bP bR bC bT) H → va_D A (wB h cs bO bG bF bE bZ bP bR bC bT) → va_S A s.heap H locs → lv_has ls 3 [(2, .int (iI i)), (1, .int (iI (bHrs bT i))), (0, .ref (h 0))] → W p l e r0_hoursTaken s m args below meth c H locs 0 0 Q (F0 m 4 ls []) := by
    intro n
    induction n with
    | zero =>
      intro i hi0 hiN hnn
      exfalso; omega
    | succ n ih_4 =>
      intro i hi0 hiN hnn H locs ls hP hD hS hl
      refine x_il hC hl 0 dX0_hoursTaken_4 rfl rfl ?_
      refine x_bi hC dX0_hoursTaken_5 (by decide) ?_
      refine x_ic_ge hC 28 dX0_hoursTaken_7 (by decide) (by omega) (by omega) (fun c_7 => ?_) (fun c_7 => ?_)
      · obtain rfl : i = 8 := by omega
        refine x_il hC hl 1 dX0_hoursTaken_28 rfl rfl ?_
        exact x_retI (rfl) hend hP hD hS dX0_hoursTaken_29
      · refine x_il hC hl 1 dX0_hoursTaken_10 rfl rfl ?_
        refine x_al hC hl 2 dX0_hoursTaken_11 rfl rfl ?_
        refine x_get0 (v := .ref (h 7)) hC hP 0 rfl 6 (by decide) tb_102 rfl rfl dX0_hoursTaken_12 ?_
        refine x_il hC hl 0 dX0_hoursTaken_15 rfl rfl ?_
        refine x_lald hC hP 7 rfl (by omega) (by decide) dX0_hoursTaken_16 ?_
        refine x_sI (As := [.long (lN (mkN (bT i) 48))]) hC (k13_bitCount_95d88 l D cs (lN (mkN (bT i) 48)) (bT i) (rfl)) lk0_130 (sub_none hP hD hS hA) hP hS rfl hl.1 rfl (Nat.le_of_ble_eq_true rfl) ⟨rfl, rfl⟩ ⟨Nat.le_of_ble_eq_true rfl, Nat.le_of_ble_eq_true rfl⟩ ⟨Nat.le_of_ble_eq_true rfl, Nat.le_of_ble_eq_true rfl⟩ dX0_hoursTaken_17 (fun H locs hP hD hS hHs => ?_)
        have q_17 := cntN_le (bT i) 48
        refine x_iadd hC dX0_hoursTaken_20 ?_
        refine x_is hC [(1, .int (iI ((bHrs bT i) + ((cntN (bT i) 48 : Nat) : Int)))), (2, .int (iI i)), (0, .ref (h 0))] hl dX0_hoursTaken_21 rfl (by decide) rfl (fun ls hl => ?_)
        refine x_iinc hC [(2, .int (iI (i + 1))), (1, .int (iI ((bHrs bT i) + ((cntN (bT i) 48 : Nat) : Int)))), (0, .ref (h 0))] 1 hl dX0_hoursTaken_22 rfl (by decide) rfl (fun ls hl => ?_)
        refine x_goto hC 4 dX0_hoursTaken_25 (by decide) ?_
        have hl : lv_has ls 3 [(2, .int (iI (i + 1))), (1, .int (iI (bHrs bT (i + 1)))), (0, .ref (h 0))] := lvE (lv_sub (l' := [(2, .int (iI (i + 1))), (1, .int (iI ((bHrs bT i) + ((cntN (bT i) 48 : Nat) : Int)))), (0, .ref (h 0))]) hl [0, 1, 2] rfl) (lcE rfl (lcE (congrArg (fun z => Value.int (iI z)) (by unfold bHrs; rw [fI_s (by omega)] : (bHrs bT i) + ((cntN (bT i) 48 : Nat) : Int) = bHrs bT (i + 1))) (lcE rfl (rfl))))
        exact ih_4 (i + 1) (by omega) (by omega) (by omega) H locs ls hP hD hS hl
  have hl := lv_sub (l' := [(2, .int (iI 0)), (1, .int (iI (bHrs bT 0))), (0, .ref (h 0))]) hl [0, 1, 2] rfl
  exact loop_4 (Int.toNat (8 - 0) + 1) 0 (by omega) (by omega) (by omega) H locs ls hP hD hS hl
abbrev r0_openRooms : Room := { frames := 1, cells := 0, slots := 0, locals := 20 }
set_option maxHeartbeats 4000000 in
set_option maxRecDepth 100000 in
theorem k0_openRooms (l : Launch) (D : va_G) (cs : Nat → ClassId) (h : Nat → Nat) (bO : Nat → Bool) (bG : Int → Int) (bF : Int → Int) (bE : Int → Int) (bZ : Int → Int) (bP : Int → Int) (bR : Int → Int) (bC : Int → Int) (bT : Int → Nat → Bool)  : CI l D cs yX0_openRooms cX0_openRooms 1 .int r0_openRooms 0 0 [.ref (h 0)] (wB h cs bO bG bF bE bZ bP bR bC bT) (wB h cs bO bG bF bE bZ bP bR bC bT) (iI (((cntN bO 8 : Nat) : Int))) := by
  refine CI_start (own := RX0) (by decide) rfl rfl (Nat.le_of_ble_eq_true rfl) ?_
  intro p e s m args below meth c Q A ls hC hl hP hD hA hS hend
  have hl : lv_has ls 1 [(0, .ref (h 0))] := hl
  obtain ⟨H, hH⟩ : ∃ H : Heap, H = s.heap := ⟨_, rfl⟩
  have hS : va_S A s.heap H [] := by rw [hH]; exact hS
  rw [← hH] at hP
  obtain ⟨locs, hlocs⟩ : ∃ locs : List Loc, locs = [] := ⟨_, rfl⟩
  rw [← hlocs] at hS
  suffices hgo : W p l e r0_openRooms s m args below meth c H locs 0 0 Q (F0 m 0 ls []) by rw [← hH, ← hlocs]; exact hgo
  clear hH hlocs
  refine x_al hC hl 0 dX0_openRooms_0 rfl rfl ?_
  refine x_get0 (v := .int (nI (mkN bO 8))) hC hP 0 rfl 7 (by decide) tb_103 rfl rfl dX0_openRooms_1 ?_
  refine x_sI (As := [.int (nI (mkN bO 8))]) hC (k6_bitCount_0f7a4 l D cs (nI (mkN bO 8)) bO 8 (rfl) ((by omega))) lk0_147 (sub_none hP hD hS hA) hP hS rfl hl.1 rfl (Nat.le_of_ble_eq_true rfl) ⟨rfl, rfl⟩ ⟨Nat.le_of_ble_eq_true rfl, Nat.le_of_ble_eq_true rfl⟩ ⟨Nat.le_of_ble_eq_true rfl, Nat.le_of_ble_eq_true rfl⟩ dX0_openRooms_4 (fun H locs hP hD hS hHs => ?_)
  have q_4 := cntN_le bO 8
  exact x_retI (rfl) hend hP hD hS dX0_openRooms_7
abbrev r0_paidSoFar : Room := { frames := 0, cells := 0, slots := 0, locals := 0 }
set_option maxHeartbeats 4000000 in
set_option maxRecDepth 100000 in
theorem k0_paidSoFar (l : Launch) (D : va_G) (cs : Nat → ClassId) (h : Nat → Nat) (bO : Nat → Bool) (bG : Int → Int) (bF : Int → Int) (bE : Int → Int) (bZ : Int → Int) (bP : Int → Int) (bR : Int → Int) (bC : Int → Int) (bT : Int → Nat → Bool)  : CI l D cs yX0_paidSoFar cX0_paidSoFar 1 .int r0_paidSoFar 0 0 [.ref (h 0)] (wB h cs bO bG bF bE bZ bP bR bC bT) (wB h cs bO bG bF bE bZ bP bR bC bT) (iI ((bG 11))) := by
  refine CI_start (own := RX0) (by decide) rfl rfl (Nat.le_of_ble_eq_true rfl) ?_
  intro p e s m args below meth c Q A ls hC hl hP hD hA hS hend
  have hl : lv_has ls 1 [(0, .ref (h 0))] := hl
  obtain ⟨H, hH⟩ : ∃ H : Heap, H = s.heap := ⟨_, rfl⟩
  have hS : va_S A s.heap H [] := by rw [hH]; exact hS
  rw [← hH] at hP
  obtain ⟨locs, hlocs⟩ : ∃ locs : List Loc, locs = [] := ⟨_, rfl⟩
  rw [← hlocs] at hS
  suffices hgo : W p l e r0_paidSoFar s m args below meth c H locs 0 0 Q (F0 m 0 ls []) by rw [← hH, ← hlocs]; exact hgo
  clear hH hlocs
  refine x_al hC hl 0 dX0_paidSoFar_0 rfl rfl ?_
  refine x_get0 (v := .int (iI (bG 11))) hC hP 0 rfl 11 (by decide) tb_107 rfl rfl dX0_paidSoFar_1 ?_
  exact x_retI (rfl) hend hP hD hS dX0_paidSoFar_4
abbrev r0_ruleOfNow : Room := { frames := 0, cells := 0, slots := 0, locals := 0 }
set_option maxHeartbeats 4000000 in
set_option maxRecDepth 100000 in
theorem k0_ruleOfNow (l : Launch) (D : va_G) (cs : Nat → ClassId) (h : Nat → Nat) (bO : Nat → Bool) (bG : Int → Int) (bF : Int → Int) (bE : Int → Int) (bZ : Int → Int) (bP : Int → Int) (bR : Int → Int) (bC : Int → Int) (bT : Int → Nat → Bool)  : CI l D cs yX0_ruleOfNow cX0_ruleOfNow 1 .int r0_ruleOfNow 0 0 [.ref (h 0)] (wB h cs bO bG bF bE bZ bP bR bC bT) (wB h cs bO bG bF bE bZ bP bR bC bT) (iI ((bG 12))) := by
  refine CI_start (own := RX0) (by decide) rfl rfl (Nat.le_of_ble_eq_true rfl) ?_
  intro p e s m args below meth c Q A ls hC hl hP hD hA hS hend
  have hl : lv_has ls 1 [(0, .ref (h 0))] := hl
  obtain ⟨H, hH⟩ : ∃ H : Heap, H = s.heap := ⟨_, rfl⟩
  have hS : va_S A s.heap H [] := by rw [hH]; exact hS
  rw [← hH] at hP
  obtain ⟨locs, hlocs⟩ : ∃ locs : List Loc, locs = [] := ⟨_, rfl⟩
  rw [← hlocs] at hS
  suffices hgo : W p l e r0_ruleOfNow s m args below meth c H locs 0 0 Q (F0 m 0 ls []) by rw [← hH, ← hlocs]; exact hgo
  clear hH hlocs
  refine x_al hC hl 0 dX0_ruleOfNow_0 rfl rfl ?_
  refine x_get0 (v := .int (iI (bG 12))) hC hP 0 rfl 12 (by decide) tb_108 rfl rfl dX0_ruleOfNow_1 ?_
  exact x_retI (rfl) hend hP hD hS dX0_ruleOfNow_4
abbrev r0_placedElsewhereThan : Room := { frames := 0, cells := 0, slots := 0, locals := 0 }
set_option maxHeartbeats 4000000 in
set_option maxRecDepth 100000 in
theorem k0_placedElsewhereThan (l : Launch) (D : va_G) (cs : Nat → ClassId) (h : Nat → Nat) (k : Nat → Nat) (bO : Nat → Bool) (bG : Int → Int) (bF : Int → Int) (bE : Int → Int) (bZ : Int → Int) (bP : Int → Int) (bR : Int → Int) (bC : Int → Int) (bT : Int → Nat → Bool) (cO : Nat → Bool) (cG : Int → Int) (cF : Int → Int) (cE : Int → Int) (cZ : Int → Int) (cP : Int → Int) (cR : Int → Int) (cC : Int → Int) (cT : Int → Nat → Bool) (hB : IB bF bE bZ bP bR bC) (hB2 : IB cF cE cZ cP cR cC) : CI l D cs yX0_placedElsewhereThan cX0_placedElsewhereThan 4 .int r0_placedElsewhereThan 0 0 [.ref (h 0), .ref (k 0)] (wB h cs bO bG bF bE bZ bP bR bC bT ++ (wB k cs cO cG cF cE cZ cP cR cC cT)) (wB h cs bO bG bF bE bZ bP bR bC bT ++ (wB k cs cO cG cF cE cZ cP cR cC cT)) (iI (bElse bP cP 20)) := by
  refine CI_start (own := RX0) (by decide) rfl rfl (Nat.le_of_ble_eq_true rfl) ?_
  intro p e s m args below meth c Q A ls hC hl hP hD hA hS hend
  have hl : lv_has ls 4 [(0, .ref (h 0)), (1, .ref (k 0))] := hl
  obtain ⟨H, hH⟩ : ∃ H : Heap, H = s.heap := ⟨_, rfl⟩
  have hS : va_S A s.heap H [] := by rw [hH]; exact hS
  rw [← hH] at hP
  obtain ⟨locs, hlocs⟩ : ∃ locs : List Loc, locs = [] := ⟨_, rfl⟩
  rw [← hlocs] at hS
  suffices hgo : W p l e r0_placedElsewhereThan s m args below meth c H locs 0 0 Q (F0 m 0 ls []) by rw [← hH, ← hlocs]; exact hgo
  clear hH hlocs
  refine x_ic hC dX0_placedElsewhereThan_0 ?_
  refine x_is hC [(2, .int (iI 0)), (0, .ref (h 0)), (1, .ref (k 0))] hl dX0_placedElsewhereThan_1 rfl (by decide) rfl (fun ls hl => ?_)
  refine x_ic hC dX0_placedElsewhereThan_2 ?_
  refine x_is hC [(3, .int (iI 0)), (2, .int (iI 0)), (0, .ref (h 0)), (1, .ref (k 0))] hl dX0_placedElsewhereThan_3 rfl (by decide) rfl (fun ls hl => ?_)
  have loop_4 : ∀ (n : Nat) (i : Int), (hi0 : 0 ≤ i) → (hiN : i ≤ 20) → (20 - i) < (n : Int) → ∀ (H : Heap) (locs : List Loc) (ls : Array Slot), va_P D vwCl (wB h cs bO bG bF bE bZ bP bR bC bT ++ (wB k cs cO cG cF cE cZ cP cR cC cT)) H → va_D A (wB h cs bO bG bF bE bZ bP bR bC bT ++ (wB k cs cO cG cF cE cZ cP cR cC cT)) → va_S A s.heap H locs → lv_has ls 4 [(3, .int (iI i)), (2, .int (iI (bElse bP cP i))), (0, .ref (h 0)), (1, .ref (k 0))] → W p l e r0_placedElsewhereThan s m args below meth c H locs 0 0 Q (F0 m 4 ls []) := by
    intro n
    induction n with
    | zero =>
      intro i hi0 hiN hnn
      exfalso; omega
    | succ n ih_4 =>
      intro i hi0 hiN hnn H locs ls hP hD hS hl
      refine x_il hC hl 0 dX0_placedElsewhereThan_4 rfl rfl ?_
      refine x_bi hC dX0_placedElsewhereThan_5 (by decide) ?_
      refine x_ic_ge hC 34 dX0_placedElsewhereThan_7 (by decide) (by omega) (by omega) (fun c_7 => ?_) (fun c_7 => ?_)
      · obtain rfl : i = 20 := by omega
        refine x_il hC hl 1 dX0_placedElsewhereThan_34 rfl rfl ?_
        exact x_retI (rfl) hend hP hD hS dX0_placedElsewhereThan_35
      · have qi := ibT hB i (by omega)
        have qj := ibT hB2 i (by omega)
        refine x_al hC hl 2 dX0_placedElsewhereThan_10 rfl rfl ?_
        refine x_get0 (v := .ref (h 4)) hC hP 0 rfl 3 (by decide) tb_99 rfl rfl dX0_placedElsewhereThan_11 ?_
        refine x_il hC hl 0 dX0_placedElsewhereThan_14 rfl rfl ?_
        refine x_iald hC hP 4 rfl (by omega) (by decide) dX0_placedElsewhereThan_15 ?_
        refine x_al hC hl 3 dX0_placedElsewhereThan_16 rfl rfl ?_
        refine x_get0 (v := .ref (k 4)) hC hP 8 rfl 3 (by decide) tb_99 rfl rfl dX0_placedElsewhereThan_17 ?_
        refine x_il hC hl 0 dX0_placedElsewhereThan_20 rfl rfl ?_
        refine x_iald hC hP 12 rfl (by omega) (by decide) dX0_placedElsewhereThan_21 ?_
        refine x_ic_eq hC 28 dX0_placedElsewhereThan_22 (by decide) (by omega) (by omega) (fun c_22 => ?_) (fun c_22 => ?_)
        · refine x_iinc hC [(3, .int (iI (i + 1))), (2, .int (iI (bElse bP cP i))), (0, .ref (h 0)), (1, .ref (k 0))] 0 hl dX0_placedElsewhereThan_28 rfl (by decide) rfl (fun ls hl => ?_)
          refine x_goto hC 4 dX0_placedElsewhereThan_31 (by decide) ?_
          have hl : lv_has ls 4 [(3, .int (iI (i + 1))), (2, .int (iI (bElse bP cP (i + 1)))), (0, .ref (h 0)), (1, .ref (k 0))] := lvE (lv_sub (l' := [(3, .int (iI (i + 1))), (2, .int (iI (bElse bP cP i))), (0, .ref (h 0)), (1, .ref (k 0))]) hl [0, 1, 2, 3] rfl) (lcE rfl (lcE (congrArg (fun z => Value.int (iI z)) (by rw [bElse_s _ _ hi0]; first | exact (iif_t c_22).symm | exact (iif_f c_22).symm : bElse bP cP i = bElse bP cP (i + 1))) (lcE rfl (lcE rfl (rfl)))))
          exact ih_4 (i + 1) (by omega) (by omega) (by omega) H locs ls hP hD hS hl
        · refine x_iinc hC [(2, .int (iI ((bElse bP cP i) + 1))), (3, .int (iI i)), (0, .ref (h 0)), (1, .ref (k 0))] 1 hl dX0_placedElsewhereThan_25 rfl (by decide) rfl (fun ls hl => ?_)
          refine x_iinc hC [(3, .int (iI (i + 1))), (2, .int (iI ((bElse bP cP i) + 1))), (0, .ref (h 0)), (1, .ref (k 0))] 1 hl dX0_placedElsewhereThan_28 rfl (by decide) rfl (fun ls hl => ?_)
          refine x_goto hC 4 dX0_placedElsewhereThan_31 (by decide) ?_
          have hl : lv_has ls 4 [(3, .int (iI (i + 1))), (2, .int (iI (bElse bP cP (i + 1)))), (0, .ref (h 0)), (1, .ref (k 0))] := lvE (lv_sub (l' := [(3, .int (iI (i + 1))), (2, .int (iI ((bElse bP cP i) + 1))), (0, .ref (h 0)), (1, .ref (k 0))]) hl [0, 1, 2, 3] rfl) (lcE rfl (lcE (congrArg (fun z => Value.int (iI z)) (by rw [bElse_s _ _ hi0]; first | exact (iif_t c_22).symm | exact (iif_f c_22).symm : (bElse bP cP i) + 1 = bElse bP cP (i + 1))) (lcE rfl (lcE rfl (rfl)))))
          exact ih_4 (i + 1) (by omega) (by omega) (by omega) H locs ls hP hD hS hl
  have hl := lv_sub (l' := [(3, .int (iI 0)), (2, .int (iI (bElse bP cP 0))), (0, .ref (h 0)), (1, .ref (k 0))]) hl [0, 1, 2, 3] rfl
  exact loop_4 (Int.toNat (20 - 0) + 1) 0 (by omega) (by omega) (by omega) H locs ls hP hD hS hl
abbrev r0_number : Room := { frames := 3, cells := 0, slots := 0, locals := 67 }
set_option maxHeartbeats 4000000 in
set_option maxRecDepth 100000 in
theorem k0_number (l : Launch) (D : va_G) (cs : Nat → ClassId) (h : Nat → Nat) (bO : Nat → Bool) (bG : Int → Int) (bF : Int → Int) (bE : Int → Int) (bZ : Int → Int) (bP : Int → Int) (bR : Int → Int) (bC : Int → Int) (bT : Int → Nat → Bool) (what : Int) (hB : IB bF bE bZ bP bR bC) (g_what : -2147483648 ≤ what ∧ what ≤ 2147483647) : CI l D cs yX0_number cX0_number 2 .int r0_number 0 0 [.ref (h 0), .int (iI what)] (wB h cs bO bG bF bE bZ bP bR bC bT) (wB h cs bO bG bF bE bZ bP bR bC bT) (iI (bNum bO bG bF bE bP bT what)) := by
  refine CI_start (own := RX0) (by decide) rfl rfl (Nat.le_of_ble_eq_true rfl) ?_
  intro p e s m args below meth c Q A ls hC hl hP hD hA hS hend
  have hl : lv_has ls 2 [(0, .ref (h 0)), (1, .int (iI what))] := hl
  obtain ⟨H, hH⟩ : ∃ H : Heap, H = s.heap := ⟨_, rfl⟩
  have hS : va_S A s.heap H [] := by rw [hH]; exact hS
  rw [← hH] at hP
  obtain ⟨locs, hlocs⟩ : ∃ locs : List Loc, locs = [] := ⟨_, rfl⟩
  rw [← hlocs] at hS
  suffices hgo : W p l e r0_number s m args below meth c H locs 0 0 Q (F0 m 0 ls []) by rw [← hH, ← hlocs]; exact hgo
  clear hH hlocs
  refine x_il hC hl 1 dX0_number_0 rfl rfl ?_
  by_cases c_1_0 : what = 0
  · refine x_tsIn hC 48 dX0_number_1 (by rw [c_1_0]; omega) (by rw [c_1_0]; decide) (by rw [c_1_0]; decide) (by rw [c_1_0]; rfl) (by decide) ?_
    refine x_al hC hl 0 dX0_number_48 rfl rfl ?_
    refine x_get0 (v := .int (iI (bG 8))) hC hP 0 rfl 8 (by decide) tb_104 rfl rfl dX0_number_49 ?_
    refine x_al hC hl 0 dX0_number_52 rfl rfl ?_
    refine x_get0 (v := .int (iI (bG 9))) hC hP 0 rfl 9 (by decide) tb_105 rfl rfl dX0_number_53 ?_
    refine x_isub hC dX0_number_56 ?_
    exact x_retI (congrArg iI (by unfold bNum; first | (rw [iif_t (by omega)]; done) | (rw [iif_f (by omega), iif_t (by omega)]; done) | (rw [iif_f (by omega), iif_f (by omega), iif_t (by omega)]; done) | (rw [iif_f (by omega), iif_f (by omega), iif_f (by omega), iif_t (by omega)]; done) | (rw [iif_f (by omega), iif_f (by omega), iif_f (by omega), iif_f (by omega), iif_t (by omega)]; done) | (rw [iif_f (by omega), iif_f (by omega), iif_f (by omega), iif_f (by omega), iif_f (by omega), iif_t (by omega)]; done) | (rw [iif_f (by omega), iif_f (by omega), iif_f (by omega), iif_f (by omega), iif_f (by omega), iif_f (by omega), iif_t (by omega)]; done) | (rw [iif_f (by omega), iif_f (by omega), iif_f (by omega), iif_f (by omega), iif_f (by omega), iif_f (by omega), iif_f (by omega), iif_t (by omega)]; done) | (rw [iif_f (by omega), iif_f (by omega), iif_f (by omega), iif_f (by omega), iif_f (by omega), iif_f (by omega), iif_f (by omega), iif_f (by omega)]; done) : (bG 8) - (bG 9) = bNum bO bG bF bE bP bT what)) hend hP hD hS dX0_number_57
  by_cases c_1_1 : what = 1
  · refine x_tsIn hC 58 dX0_number_1 (by rw [c_1_1]; omega) (by rw [c_1_1]; decide) (by rw [c_1_1]; decide) (by rw [c_1_1]; rfl) (by decide) ?_
    refine x_al hC hl 0 dX0_number_58 rfl rfl ?_
    refine x_get0 (v := .int (iI (bG 8))) hC hP 0 rfl 8 (by decide) tb_104 rfl rfl dX0_number_59 ?_
    exact x_retI (congrArg iI (by unfold bNum; first | (rw [iif_t (by omega)]; done) | (rw [iif_f (by omega), iif_t (by omega)]; done) | (rw [iif_f (by omega), iif_f (by omega), iif_t (by omega)]; done) | (rw [iif_f (by omega), iif_f (by omega), iif_f (by omega), iif_t (by omega)]; done) | (rw [iif_f (by omega), iif_f (by omega), iif_f (by omega), iif_f (by omega), iif_t (by omega)]; done) | (rw [iif_f (by omega), iif_f (by omega), iif_f (by omega), iif_f (by omega), iif_f (by omega), iif_t (by omega)]; done) | (rw [iif_f (by omega), iif_f (by omega), iif_f (by omega), iif_f (by omega), iif_f (by omega), iif_f (by omega), iif_t (by omega)]; done) | (rw [iif_f (by omega), iif_f (by omega), iif_f (by omega), iif_f (by omega), iif_f (by omega), iif_f (by omega), iif_f (by omega), iif_t (by omega)]; done) | (rw [iif_f (by omega), iif_f (by omega), iif_f (by omega), iif_f (by omega), iif_f (by omega), iif_f (by omega), iif_f (by omega), iif_f (by omega)]; done) : bG 8 = bNum bO bG bF bE bP bT what)) hend hP hD hS dX0_number_62
  by_cases c_1_2 : what = 2
  · refine x_tsIn hC 63 dX0_number_1 (by rw [c_1_2]; omega) (by rw [c_1_2]; decide) (by rw [c_1_2]; decide) (by rw [c_1_2]; rfl) (by decide) ?_
    refine x_al hC hl 0 dX0_number_63 rfl rfl ?_
    refine x_vI (As := []) hC (k0_openRooms l D cs h bO bG bF bE bZ bP bR bC bT ) lk0_95 (q0 := 0) (ci := 0) rfl rfl rfl (sub_all hP hD hS hA) hP hS rfl hl.1 rfl (Nat.le_of_ble_eq_true rfl) ⟨rfl, rfl⟩ ⟨Nat.le_of_ble_eq_true rfl, Nat.le_of_ble_eq_true rfl⟩ ⟨Nat.le_of_ble_eq_true rfl, Nat.le_of_ble_eq_true rfl⟩ dX0_number_64 (fun H locs hP hD hS hHs => ?_)
    have q_64 := cntN_le bO 8
    exact x_retI (congrArg iI (by unfold bNum; first | (rw [iif_t (by omega)]; done) | (rw [iif_f (by omega), iif_t (by omega)]; done) | (rw [iif_f (by omega), iif_f (by omega), iif_t (by omega)]; done) | (rw [iif_f (by omega), iif_f (by omega), iif_f (by omega), iif_t (by omega)]; done) | (rw [iif_f (by omega), iif_f (by omega), iif_f (by omega), iif_f (by omega), iif_t (by omega)]; done) | (rw [iif_f (by omega), iif_f (by omega), iif_f (by omega), iif_f (by omega), iif_f (by omega), iif_t (by omega)]; done) | (rw [iif_f (by omega), iif_f (by omega), iif_f (by omega), iif_f (by omega), iif_f (by omega), iif_f (by omega), iif_t (by omega)]; done) | (rw [iif_f (by omega), iif_f (by omega), iif_f (by omega), iif_f (by omega), iif_f (by omega), iif_f (by omega), iif_f (by omega), iif_t (by omega)]; done) | (rw [iif_f (by omega), iif_f (by omega), iif_f (by omega), iif_f (by omega), iif_f (by omega), iif_f (by omega), iif_f (by omega), iif_f (by omega)]; done) : ((cntN bO 8 : Nat) : Int) = bNum bO bG bF bE bP bT what)) hend hP hD hS dX0_number_67
  by_cases c_1_3 : what = 3
  · refine x_tsIn hC 68 dX0_number_1 (by rw [c_1_3]; omega) (by rw [c_1_3]; decide) (by rw [c_1_3]; decide) (by rw [c_1_3]; rfl) (by decide) ?_
    refine x_al hC hl 0 dX0_number_68 rfl rfl ?_
    refine x_get0 (v := .int (iI (bG 10))) hC hP 0 rfl 10 (by decide) tb_106 rfl rfl dX0_number_69 ?_
    exact x_retI (congrArg iI (by unfold bNum; first | (rw [iif_t (by omega)]; done) | (rw [iif_f (by omega), iif_t (by omega)]; done) | (rw [iif_f (by omega), iif_f (by omega), iif_t (by omega)]; done) | (rw [iif_f (by omega), iif_f (by omega), iif_f (by omega), iif_t (by omega)]; done) | (rw [iif_f (by omega), iif_f (by omega), iif_f (by omega), iif_f (by omega), iif_t (by omega)]; done) | (rw [iif_f (by omega), iif_f (by omega), iif_f (by omega), iif_f (by omega), iif_f (by omega), iif_t (by omega)]; done) | (rw [iif_f (by omega), iif_f (by omega), iif_f (by omega), iif_f (by omega), iif_f (by omega), iif_f (by omega), iif_t (by omega)]; done) | (rw [iif_f (by omega), iif_f (by omega), iif_f (by omega), iif_f (by omega), iif_f (by omega), iif_f (by omega), iif_f (by omega), iif_t (by omega)]; done) | (rw [iif_f (by omega), iif_f (by omega), iif_f (by omega), iif_f (by omega), iif_f (by omega), iif_f (by omega), iif_f (by omega), iif_f (by omega)]; done) : bG 10 = bNum bO bG bF bE bP bT what)) hend hP hD hS dX0_number_72
  by_cases c_1_4 : what = 4
  · refine x_tsIn hC 73 dX0_number_1 (by rw [c_1_4]; omega) (by rw [c_1_4]; decide) (by rw [c_1_4]; decide) (by rw [c_1_4]; rfl) (by decide) ?_
    refine x_al hC hl 0 dX0_number_73 rfl rfl ?_
    refine x_get0 (v := .int (iI (bG 11))) hC hP 0 rfl 11 (by decide) tb_107 rfl rfl dX0_number_74 ?_
    exact x_retI (congrArg iI (by unfold bNum; first | (rw [iif_t (by omega)]; done) | (rw [iif_f (by omega), iif_t (by omega)]; done) | (rw [iif_f (by omega), iif_f (by omega), iif_t (by omega)]; done) | (rw [iif_f (by omega), iif_f (by omega), iif_f (by omega), iif_t (by omega)]; done) | (rw [iif_f (by omega), iif_f (by omega), iif_f (by omega), iif_f (by omega), iif_t (by omega)]; done) | (rw [iif_f (by omega), iif_f (by omega), iif_f (by omega), iif_f (by omega), iif_f (by omega), iif_t (by omega)]; done) | (rw [iif_f (by omega), iif_f (by omega), iif_f (by omega), iif_f (by omega), iif_f (by omega), iif_f (by omega), iif_t (by omega)]; done) | (rw [iif_f (by omega), iif_f (by omega), iif_f (by omega), iif_f (by omega), iif_f (by omega), iif_f (by omega), iif_f (by omega), iif_t (by omega)]; done) | (rw [iif_f (by omega), iif_f (by omega), iif_f (by omega), iif_f (by omega), iif_f (by omega), iif_f (by omega), iif_f (by omega), iif_f (by omega)]; done) : bG 11 = bNum bO bG bF bE bP bT what)) hend hP hD hS dX0_number_77
  by_cases c_1_5 : what = 5
  · refine x_tsIn hC 78 dX0_number_1 (by rw [c_1_5]; omega) (by rw [c_1_5]; decide) (by rw [c_1_5]; decide) (by rw [c_1_5]; rfl) (by decide) ?_
    refine x_al hC hl 0 dX0_number_78 rfl rfl ?_
    refine x_vI (As := []) hC (k0_fewestRooms l D cs h bO bG bF bE bZ bP bR bC bT (by first | assumption | omega)) lk0_165 (q0 := 0) (ci := 0) rfl rfl rfl (sub_all hP hD hS hA) hP hS rfl hl.1 rfl (Nat.le_of_ble_eq_true rfl) ⟨rfl, rfl⟩ ⟨Nat.le_of_ble_eq_true rfl, Nat.le_of_ble_eq_true rfl⟩ ⟨Nat.le_of_ble_eq_true rfl, Nat.le_of_ble_eq_true rfl⟩ dX0_number_79 (fun H locs hP hD hS hHs => ?_)
    exact x_retI (congrArg iI (by unfold bNum; first | (rw [iif_t (by omega)]; done) | (rw [iif_f (by omega), iif_t (by omega)]; done) | (rw [iif_f (by omega), iif_f (by omega), iif_t (by omega)]; done) | (rw [iif_f (by omega), iif_f (by omega), iif_f (by omega), iif_t (by omega)]; done) | (rw [iif_f (by omega), iif_f (by omega), iif_f (by omega), iif_f (by omega), iif_t (by omega)]; done) | (rw [iif_f (by omega), iif_f (by omega), iif_f (by omega), iif_f (by omega), iif_f (by omega), iif_t (by omega)]; done) | (rw [iif_f (by omega), iif_f (by omega), iif_f (by omega), iif_f (by omega), iif_f (by omega), iif_f (by omega), iif_t (by omega)]; done) | (rw [iif_f (by omega), iif_f (by omega), iif_f (by omega), iif_f (by omega), iif_f (by omega), iif_f (by omega), iif_f (by omega), iif_t (by omega)]; done) | (rw [iif_f (by omega), iif_f (by omega), iif_f (by omega), iif_f (by omega), iif_f (by omega), iif_f (by omega), iif_f (by omega), iif_f (by omega)]; done) : bFew bF bE bP 48 = bNum bO bG bF bE bP bT what)) hend hP hD hS dX0_number_82
  by_cases c_1_6 : what = 6
  · refine x_tsIn hC 83 dX0_number_1 (by rw [c_1_6]; omega) (by rw [c_1_6]; decide) (by rw [c_1_6]; decide) (by rw [c_1_6]; rfl) (by decide) ?_
    refine x_al hC hl 0 dX0_number_83 rfl rfl ?_
    refine x_vI (As := []) hC (k0_hoursTaken l D cs h bO bG bF bE bZ bP bR bC bT ) lk0_168 (q0 := 0) (ci := 0) rfl rfl rfl (sub_all hP hD hS hA) hP hS rfl hl.1 rfl (Nat.le_of_ble_eq_true rfl) ⟨rfl, rfl⟩ ⟨Nat.le_of_ble_eq_true rfl, Nat.le_of_ble_eq_true rfl⟩ ⟨Nat.le_of_ble_eq_true rfl, Nat.le_of_ble_eq_true rfl⟩ dX0_number_84 (fun H locs hP hD hS hHs => ?_)
    exact x_retI (congrArg iI (by unfold bNum; first | (rw [iif_t (by omega)]; done) | (rw [iif_f (by omega), iif_t (by omega)]; done) | (rw [iif_f (by omega), iif_f (by omega), iif_t (by omega)]; done) | (rw [iif_f (by omega), iif_f (by omega), iif_f (by omega), iif_t (by omega)]; done) | (rw [iif_f (by omega), iif_f (by omega), iif_f (by omega), iif_f (by omega), iif_t (by omega)]; done) | (rw [iif_f (by omega), iif_f (by omega), iif_f (by omega), iif_f (by omega), iif_f (by omega), iif_t (by omega)]; done) | (rw [iif_f (by omega), iif_f (by omega), iif_f (by omega), iif_f (by omega), iif_f (by omega), iif_f (by omega), iif_t (by omega)]; done) | (rw [iif_f (by omega), iif_f (by omega), iif_f (by omega), iif_f (by omega), iif_f (by omega), iif_f (by omega), iif_f (by omega), iif_t (by omega)]; done) | (rw [iif_f (by omega), iif_f (by omega), iif_f (by omega), iif_f (by omega), iif_f (by omega), iif_f (by omega), iif_f (by omega), iif_f (by omega)]; done) : bHrs bT 8 = bNum bO bG bF bE bP bT what)) hend hP hD hS dX0_number_87
  by_cases c_1_7 : what = 7
  · refine x_tsIn hC 88 dX0_number_1 (by rw [c_1_7]; omega) (by rw [c_1_7]; decide) (by rw [c_1_7]; decide) (by rw [c_1_7]; rfl) (by decide) ?_
    refine x_al hC hl 0 dX0_number_88 rfl rfl ?_
    refine x_get0 (v := .int (iI (bG 9))) hC hP 0 rfl 9 (by decide) tb_105 rfl rfl dX0_number_89 ?_
    exact x_retI (congrArg iI (by unfold bNum; first | (rw [iif_t (by omega)]; done) | (rw [iif_f (by omega), iif_t (by omega)]; done) | (rw [iif_f (by omega), iif_f (by omega), iif_t (by omega)]; done) | (rw [iif_f (by omega), iif_f (by omega), iif_f (by omega), iif_t (by omega)]; done) | (rw [iif_f (by omega), iif_f (by omega), iif_f (by omega), iif_f (by omega), iif_t (by omega)]; done) | (rw [iif_f (by omega), iif_f (by omega), iif_f (by omega), iif_f (by omega), iif_f (by omega), iif_t (by omega)]; done) | (rw [iif_f (by omega), iif_f (by omega), iif_f (by omega), iif_f (by omega), iif_f (by omega), iif_f (by omega), iif_t (by omega)]; done) | (rw [iif_f (by omega), iif_f (by omega), iif_f (by omega), iif_f (by omega), iif_f (by omega), iif_f (by omega), iif_f (by omega), iif_t (by omega)]; done) | (rw [iif_f (by omega), iif_f (by omega), iif_f (by omega), iif_f (by omega), iif_f (by omega), iif_f (by omega), iif_f (by omega), iif_f (by omega)]; done) : bG 9 = bNum bO bG bF bE bP bT what)) hend hP hD hS dX0_number_92
  refine x_tsOut hC 93 dX0_number_1 (by omega) (by omega) (by decide) ?_
  refine x_ldc hC (-1000001) tb_238 (by decide) dX0_number_93 ?_
  exact x_retI (congrArg iI (by unfold bNum; first | (rw [iif_t (by omega)]; done) | (rw [iif_f (by omega), iif_t (by omega)]; done) | (rw [iif_f (by omega), iif_f (by omega), iif_t (by omega)]; done) | (rw [iif_f (by omega), iif_f (by omega), iif_f (by omega), iif_t (by omega)]; done) | (rw [iif_f (by omega), iif_f (by omega), iif_f (by omega), iif_f (by omega), iif_t (by omega)]; done) | (rw [iif_f (by omega), iif_f (by omega), iif_f (by omega), iif_f (by omega), iif_f (by omega), iif_t (by omega)]; done) | (rw [iif_f (by omega), iif_f (by omega), iif_f (by omega), iif_f (by omega), iif_f (by omega), iif_f (by omega), iif_t (by omega)]; done) | (rw [iif_f (by omega), iif_f (by omega), iif_f (by omega), iif_f (by omega), iif_f (by omega), iif_f (by omega), iif_f (by omega), iif_t (by omega)]; done) | (rw [iif_f (by omega), iif_f (by omega), iif_f (by omega), iif_f (by omega), iif_f (by omega), iif_f (by omega), iif_f (by omega), iif_f (by omega)]; done) : (-1000001) = bNum bO bG bF bE bP bT what)) hend hP hD hS dX0_number_95
