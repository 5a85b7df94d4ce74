theorem lk0_59 : LkN RX0 59 yX4_isTalk "OnlineRooms" cX4_isTalk 3 (some .boolean) 3 := ⟨tb_231, by decide +kernel, tb_230, tb_71, by decide +kernel⟩
theorem lk0_64 : LkV RX0 64 yX0_roomFor cX0_roomFor 11 (some .int) 4 := ⟨tb_242, tb_239, tb_240, tb_241, tb_72, by decide +kernel⟩
theorem lk0_74 : LkV RX0 74 yX0_putIn cX0_putIn 3 none 2 := ⟨tb_280, tb_277, tb_279, tb_5, tb_72, by decide +kernel⟩
theorem lk0_82 : LkV RX0 82 yX0_takeOut cX0_takeOut 3 none 2 := ⟨tb_309, tb_306, tb_308, tb_8, tb_72, by decide +kernel⟩
theorem lk0_89 : LkN RX0 89 yX4_isSize "OnlineRooms" cX4_isSize 1 (some .boolean) 1 := ⟨tb_237, by decide +kernel, tb_236, tb_71, by decide +kernel⟩
theorem lk0_99 : LkN RX0 99 yX4_isRule "OnlineRooms" cX4_isRule 1 (some .boolean) 1 := ⟨tb_380, by decide +kernel, tb_379, tb_71, by decide +kernel⟩
theorem lk0_102 : LkV RX0 102 yX0_forgetRooms cX0_forgetRooms 2 none 0 := ⟨tb_369, tb_366, tb_368, tb_11, tb_72, by decide +kernel⟩
theorem lk0_105 : LkV RX0 105 yX0_lowestOther cX0_lowestOther 3 (some .int) 1 := ⟨tb_498, tb_495, tb_497, tb_19, tb_72, by decide +kernel⟩
theorem lk0_108 : LkV RX0 108 yX0_shift cX0_shift 4 (some .int) 2 := ⟨tb_318, tb_499, tb_316, tb_317, tb_72, by decide +kernel⟩
/-! boards: the class's writers -/
theorem bLow_rg (O : Nat → Bool) (F E Z P R : Int → Int) (T : Int → Nat → Bool) (t : Int) : bLow O F E Z P R T t = -1 ∨ (0 ≤ bLow O F E Z P R T t ∧ bLow O F E Z P R T t < 8) := by
  have h := fstI_rg (fun r => bGo O F E Z P R T t r) (-1) (8 - (0 : Int)).toNat 0
  unfold bLow
  omega
theorem fstI_ok {p : Int → Prop} {d : Int} : ∀ (k : Nat) (i : Int), fstI p d k i ≠ d → p (fstI p d k i)
  | 0, i, h => absurd rfl h
  | k + 1, i, h => by
    by_cases c : p i
    · have e : fstI p d (k + 1) i = i := iif_t c
      rw [e]; exact c
    · have e : fstI p d (k + 1) i = fstI p d k (i + 1) := iif_f c
      rw [e] at h ⊢
      exact fstI_ok k (i + 1) h
theorem bLow_ok {O : Nat → Bool} {F E Z P R : Int → Int} {T : Int → Nat → Bool} {t : Int} (h : ¬ bLow O F E Z P R T t = -1) : bGo O F E Z P R T t (bLow O F E Z P R T t) := fstI_ok _ _ h
def bVal (b e z : Int) : Prop := (0 ≤ b ∧ b ≤ 47) ∧ (b + 1 ≤ e ∧ e ≤ 48) ∧ (1 ≤ z ∧ z ≤ 9)
noncomputable def bTelR (O : Nat → Bool) (G R C : Int → Int) (T : Int → Nat → Bool) (b e z : Int) : Int := bFor O R C T b e z (G 12)
def bTelC (O : Nat → Bool) (G R C : Int → Int) (T : Int → Nat → Bool) (b e z : Int) : Prop := bVal b e z ∧ ¬ bTelR O G R C T b e z = -1 ∧ G 8 < 20
noncomputable def bTelV (O : Nat → Bool) (G R C : Int → Int) (T : Int → Nat → Bool) (b e z : Int) : Int := iif (bVal b e z) (iif (bTelR O G R C T b e z = -1) (-1000002) (iif (20 ≤ G 8) (-1000003) (bTelR O G R C T b e z))) (-1000001)
noncomputable def bTelG (O : Nat → Bool) (G C : Int → Int) (r : Int) : Int → Int := u1 (bPutG O G C r) 8 (bPutG O G C r 8 + 1)
def bShC (O : Nat → Bool) (F E Z P R : Int → Int) (T : Int → Nat → Bool) (t r : Int) : Prop := (¬ bPl P t = -1 ∧ 0 ≤ r ∧ r ≤ 7) ∧ bGo O F E Z P R T t r
noncomputable def bShV (O : Nat → Bool) (F E Z P R : Int → Int) (T : Int → Nat → Bool) (t r : Int) : Int := iif (¬ bPl P t = -1 ∧ 0 ≤ r ∧ r ≤ 7) (iif (bGo O F E Z P R T t r) (bPl P t) (-1000002)) (-1000001)
noncomputable def bShT (F E P : Int → Int) (T : Int → Nat → Bool) (t r : Int) : Int → Nat → Bool := bPutT (bOutT T F E t (bPl P t)) F E t r
def bFuC (O : Nat → Bool) (r z c : Int) : Prop := ((0 ≤ r ∧ r ≤ 7) ∧ (1 ≤ z ∧ z ≤ 9) ∧ (1 ≤ c ∧ c ≤ 99)) ∧ ¬ O r.toNat = true
noncomputable def bFuV (O : Nat → Bool) (R C : Int → Int) (r z c : Int) : Int := iif ((0 ≤ r ∧ r ≤ 7) ∧ (1 ≤ z ∧ z ≤ 9) ∧ (1 ≤ c ∧ c ≤ 99)) (iif (O r.toNat = true) (-1000002) (100 * R r + C r)) (-1000001)
def bCl (O : Nat → Bool) (T : Int → Nat → Bool) (r : Int) : Prop := O r.toNat = true ∧ ∀ k : Nat, k < 48 → T r k = false
/-- the scan of hours and talks -/
noncomputable def bScan (F E Z R C : Int → Int) (rule : Int) : Nat → Int → (Nat → Bool) → (Int → Int) → (Int → Int) → (Int → Nat → Bool) → Prop × (Nat → Bool) × (Int → Int) × (Int → Int) × (Int → Nat → Bool)
  | 0, _, O, G, P, T => (True, O, G, P, T)
  | k + 1, n, O, G, P, T => iif (¬ P (n % 20) = -1 ∧ F (n % 20) = n / 20) (iif (bFor O R C T (n / 20) (E (n % 20)) (Z (n % 20)) rule = -1) (False, O, G, P, T)
      (bScan F E Z R C rule k (n + 1) (bPutO O (bFor O R C T (n / 20) (E (n % 20)) (Z (n % 20)) rule)) (bPutG O G C (bFor O R C T (n / 20) (E (n % 20)) (Z (n % 20)) rule)) (u1 P (n % 20) (bFor O R C T (n / 20) (E (n % 20)) (Z (n % 20)) rule)) (bPutT T F E (n % 20) (bFor O R C T (n / 20) (E (n % 20)) (Z (n % 20)) rule))))
      (bScan F E Z R C rule k (n + 1) O G P T)
theorem bScan_n {F E Z R C : Int → Int} {rule : Int} {k : Nat} {n h t : Int} {O : Nat → Bool} {G P : Int → Int} {T : Int → Nat → Bool} (hn : n = 20 * h + t) (ht : 0 ≤ t ∧ t < 20) (hc : ¬ (¬ P t = -1 ∧ F t = h)) : bScan F E Z R C rule (k + 1) n O G P T = bScan F E Z R C rule k (n + 1) O G P T := by
  have e1 : n % 20 = t := by omega
  have e2 : n / 20 = h := by omega
  rw [bScan, e1, e2, iif_f hc]
theorem bScan_f {F E Z R C : Int → Int} {rule : Int} {k : Nat} {n h t : Int} {O : Nat → Bool} {G P : Int → Int} {T : Int → Nat → Bool} (hn : n = 20 * h + t) (ht : 0 ≤ t ∧ t < 20) (h1 : ¬ P t = -1) (h2 : F t = h) (hr : bFor O R C T h (E t) (Z t) rule = -1) : bScan F E Z R C rule (k + 1) n O G P T = (False, O, G, P, T) := by
  have e1 : n % 20 = t := by omega
  have e2 : n / 20 = h := by omega
  rw [bScan, e1, e2, iif_t ⟨h1, h2⟩, iif_t hr]
theorem bScan_s {F E Z R C : Int → Int} {rule : Int} {k : Nat} {n h t r : Int} {O : Nat → Bool} {G P : Int → Int} {T : Int → Nat → Bool} (hn : n = 20 * h + t) (ht : 0 ≤ t ∧ t < 20) (h1 : ¬ P t = -1) (h2 : F t = h) (hr : bFor O R C T h (E t) (Z t) rule = r) (hr2 : ¬ r = -1) : bScan F E Z R C rule (k + 1) n O G P T = bScan F E Z R C rule k (n + 1) (bPutO O r) (bPutG O G C r) (u1 P t r) (bPutT T F E t r) := by
  have e1 : n % 20 = t := by omega
  have e2 : n / 20 = h := by omega
  subst hr
  rw [bScan, e1, e2, iif_t ⟨h1, h2⟩, iif_f hr2]
noncomputable def bAnew (F E Z R C G P : Int → Int) (T : Int → Nat → Bool) (rule : Int) : Prop × (Nat → Bool) × (Int → Int) × (Int → Int) × (Int → Nat → Bool) := bScan F E Z R C rule 960 0 (fun _ => false) (u1 G 11 0) P (bZero T)
noncomputable def bEmp (F E Z R C : Int → Int) (room : Int) : Nat → Int → (Nat → Bool) → (Int → Int) → (Int → Int) → (Int → Nat → Bool) → Prop × (Nat → Bool) × (Int → Int) × (Int → Int) × (Int → Nat → Bool)
  | 0, _, O, G, P, T => (True, O, G, P, T)
  | k + 1, t, O, G, P, T => iif (P t = room) (iif (bLow O F E Z P R T t = -1) (False, O, G, P, T)
      (bEmp F E Z R C room k (t + 1) (bPutO O (bLow O F E Z P R T t)) (bPutG O G C (bLow O F E Z P R T t)) (u1 (u1 P t (-1)) t (bLow O F E Z P R T t)) (bPutT (bOutT T F E t room) F E t (bLow O F E Z P R T t))))
      (bEmp F E Z R C room k (t + 1) O G P T)
theorem bEmp_n {F E Z R C : Int → Int} {room : Int} {k : Nat} {t : Int} {O : Nat → Bool} {G P : Int → Int} {T : Int → Nat → Bool} (hc : ¬ P t = room) : bEmp F E Z R C room (k + 1) t O G P T = bEmp F E Z R C room k (t + 1) O G P T := by
  rw [bEmp, iif_f hc]
theorem bEmp_f {F E Z R C : Int → Int} {room : Int} {k : Nat} {t : Int} {O : Nat → Bool} {G P : Int → Int} {T : Int → Nat → Bool} (hc : P t = room) (hr : bLow O F E Z P R T t = -1) : bEmp F E Z R C room (k + 1) t O G P T = (False, O, G, P, T) := by
  rw [bEmp, iif_t hc, iif_t hr]
theorem bEmp_s {F E Z R C : Int → Int} {room : Int} {k : Nat} {t r : Int} {O : Nat → Bool} {G P : Int → Int} {T : Int → Nat → Bool} (hc : P t = room) (hr : bLow O F E Z P R T t = r) (hr2 : ¬ r = -1) : bEmp F E Z R C room (k + 1) t O G P T = bEmp F E Z R C room k (t + 1) (bPutO O r) (bPutG O G C r) (u1 (u1 P t (-1)) t r) (bPutT (bOutT T F E t room) F E t r) := by
  subst hr
  rw [bEmp, iif_t hc, iif_f hr2]
theorem bSh_low {O : Nat → Bool} {F E Z P R C : Int → Int} {T : Int → Nat → Bool} {t room : Int} (hI : IB F E Z P R C) (ht : 0 ≤ t ∧ t < 20) (hp : P t = room) (hr : 0 ≤ room ∧ room ≤ 7) : bShV O F E Z P R T t (bLow O F E Z P R T t) = iif (bLow O F E Z P R T t = -1) (-1000001) room ∧ (bShC O F E Z P R T t (bLow O F E Z P R T t) ↔ ¬ bLow O F E Z P R T t = -1) := by
  have e : bPl P t = room := (bPl_in ht).trans hp
  have hl := bLow_rg O F E Z P R T t
  unfold bShV bShC
  by_cases c : bLow O F E Z P R T t = -1
  · rw [iif_t c, iif_f (by omega)]
    exact ⟨rfl, fun h => by omega, fun h => absurd c h⟩
  · have hg := bLow_ok c
    rw [iif_f c, iif_t (by omega), iif_t hg, e]
    exact ⟨rfl, fun _ => c, fun _ => ⟨⟨by omega, by omega⟩, hg⟩⟩
def bEmC (T : Int → Nat → Bool) (room : Int) : Prop := (0 ≤ room ∧ room ≤ 7) ∧ ¬ ∀ k : Nat, k < 48 → T room k = false

abbrev r0_tell : Room := { frames := 3, cells := 0, slots := 0, locals := 78 }
set_option maxHeartbeats 4000000 in
set_option maxRecDepth 100000 in
theorem k0_tell (l : Launch) (D : va_G) (cs : Nat → ClassId) (h : Nat → Nat) (bO : Nat → Bool) (bG : Int → Int) (bF : Int → Int) (bE : Int → Int) (bZ : Int → Int) (bP : Int → Int) (bR : Int → Int) (bC : Int → Int) (bT : Int → Nat → Bool) (begin : Int) (stop : Int) (need : Int) (hB : IB bF bE bZ bP bR bC) (h12 : 0 ≤ (bG 12) ∧ (bG 12) ≤ 3) (h8 : 0 ≤ (bG 8) ∧ (bG 8) ≤ 20) (g_begin : -2147483648 ≤ begin ∧ begin ≤ 2147483647) (g_stop : -2147483648 ≤ stop ∧ stop ≤ 2147483647) (g_need : -2147483648 ≤ need ∧ need ≤ 2147483647) : CI l D cs yX0_tell cX0_tell 5 .int r0_tell 0 0 [.ref (h 0), .int (iI begin), .int (iI stop), .int (iI need)] (wB h cs bO bG bF bE bZ bP bR bC bT) (wB h cs (iif (bTelC bO bG bR bC bT begin stop need) (bPutO bO (bTelR bO bG bR bC bT begin stop need)) bO) (iif (bTelC bO bG bR bC bT begin stop need) (bTelG bO bG bC (bTelR bO bG bR bC bT begin stop need)) bG) (iif (bTelC bO bG bR bC bT begin stop need) (u1 bF (bG 8) begin) bF) (iif (bTelC bO bG bR bC bT begin stop need) (u1 bE (bG 8) stop) bE) (iif (bTelC bO bG bR bC bT begin stop need) (u1 bZ (bG 8) need) bZ) (iif (bTelC bO bG bR bC bT begin stop need) (u1 bP (bG 8) (bTelR bO bG bR bC bT begin stop need)) bP) bR bC (iif (bTelC bO bG bR bC bT begin stop need) (bPutT bT (u1 bF (bG 8) begin) (u1 bE (bG 8) stop) (bG 8) (bTelR bO bG bR bC bT begin stop need)) bT)) (iI (bTelV bO bG bR bC bT begin stop need)) := by
  refine CI_start (own := RX0) (by decide) rfl rfl (Nat.le_of_ble_eq_true rfl) ?_
  intro p e s m args below meth c Q A ls hC hl hP hD hA hS hend
  have hl : lv_has ls 5 [(0, .ref (h 0)), (1, .int (iI begin)), (2, .int (iI stop)), (3, .int (iI need))] := hl
  obtain ⟨H, hH⟩ : ∃ H : Heap, H = s.heap := ⟨_, rfl⟩
  have hS : va_S A s.heap H [] := by rw [hH]; exact hS
  rw [← hH] at hP
  obtain ⟨locs, hlocs⟩ : ∃ locs : List Loc, locs = [] := ⟨_, rfl⟩
  rw [← hlocs] at hS
  suffices hgo : W p l e r0_tell s m args below meth c H locs 0 0 Q (F0 m 0 ls []) by rw [← hH, ← hlocs]; exact hgo
  clear hH hlocs
  refine x_il hC hl 1 dX0_tell_0 rfl rfl ?_
  refine x_il hC hl 2 dX0_tell_1 rfl rfl ?_
  refine x_il hC hl 3 dX0_tell_2 rfl rfl ?_
  refine x_nI (As := [.int (iI begin), .int (iI stop), .int (iI need)]) hC (k4_isTalk l D cs begin stop need (by first | assumption | omega) (by first | assumption | omega) (by first | assumption | omega)) lk0_59 (sub_none hP hD hS hA) hP hS rfl hl.1 rfl (Nat.le_of_ble_eq_true rfl) ⟨rfl, rfl⟩ ⟨Nat.le_of_ble_eq_true rfl, Nat.le_of_ble_eq_true rfl⟩ ⟨Nat.le_of_ble_eq_true rfl, Nat.le_of_ble_eq_true rfl⟩ dX0_tell_3 (fun H locs hP hD hS hHs => ?_)
  refine x_if_ne_b hC 12 dX0_tell_6 (by decide) (fun c_6 => ?_) (fun c_6 => ?_)
  · have qv : bVal begin stop need := c_6
    refine x_al hC hl 0 dX0_tell_12 rfl rfl ?_
    refine x_il hC hl 1 dX0_tell_13 rfl rfl ?_
    refine x_il hC hl 2 dX0_tell_14 rfl rfl ?_
    refine x_il hC hl 3 dX0_tell_15 rfl rfl ?_
    refine x_al hC hl 0 dX0_tell_16 rfl rfl ?_
    refine x_get0 (v := .int (iI (bG 12))) hC hP 0 rfl 12 (by decide) tb_108 rfl rfl dX0_tell_17 ?_
    refine x_vI (As := [.int (iI begin), .int (iI stop), .int (iI need), .int (iI (bG 12))]) hC (k0_roomFor l D cs h bO bG bF bE bZ bP bR bC bT begin stop need (bG 12) (by first | assumption | omega) ((by have := c_6; omega)) (by first | assumption | omega) (by first | assumption | omega)) lk0_64 (q0 := 0) (ci := 0) rfl rfl rfl (sub_all hP hD hS hA) hP hS rfl hl.1 rfl (Nat.le_of_ble_eq_true rfl) ⟨rfl, rfl⟩ ⟨Nat.le_of_ble_eq_true rfl, Nat.le_of_ble_eq_true rfl⟩ ⟨Nat.le_of_ble_eq_true rfl, Nat.le_of_ble_eq_true rfl⟩ dX0_tell_20 (fun H locs hP hD hS hHs => ?_)
    have q_20 := bFor_rg (by assumption) bO bT (b := begin) stop need (bG 12) (by omega)
    have qt : (bTelR bO bG bR bC bT begin stop need) = bFor bO bR bC bT begin stop need (bG 12) := rfl
    refine x_isw hC [(4, .int (iI (bFor bO bR bC bT begin stop need (bG 12)))), (0, .ref (h 0)), (1, .int (iI begin)), (2, .int (iI stop)), (3, .int (iI need))] hl dX0_tell_23 (by decide) rfl (fun ls hl => ?_)
    refine x_ilw hC hl 0 dX0_tell_25 rfl ?_
    refine x_nI (As := [.int (iI (bFor bO bR bC bT begin stop need (bG 12)))]) hC (k4_isRoom l D cs (bFor bO bR bC bT begin stop need (bG 12)) (by first | assumption | omega)) lk0_68 (sub_none hP hD hS hA) hP hS rfl hl.1 rfl (Nat.le_of_ble_eq_true rfl) ⟨rfl, rfl⟩ ⟨Nat.le_of_ble_eq_true rfl, Nat.le_of_ble_eq_true rfl⟩ ⟨Nat.le_of_ble_eq_true rfl, Nat.le_of_ble_eq_true rfl⟩ dX0_tell_27 (fun H locs hP hD hS hHs => ?_)
    refine x_if_ne_b hC 36 dX0_tell_30 (by decide) (fun c_30 => ?_) (fun c_30 => ?_)
    · have qr2 : ¬ (bTelR bO bG bR bC bT begin stop need) = -1 := by omega
      refine x_al hC hl 1 dX0_tell_36 rfl rfl ?_
      refine x_get0 (v := .int (iI (bG 8))) hC hP 0 rfl 8 (by decide) tb_104 rfl rfl dX0_tell_37 ?_
      refine x_bi hC dX0_tell_40 (by decide) ?_
      refine x_ic_lt hC 48 dX0_tell_42 (by decide) (by omega) (by omega) (fun c_42 => ?_) (fun c_42 => ?_)
      · refine x_al hC hl 1 dX0_tell_48 rfl rfl ?_
        refine x_get0 (v := .ref (h 1)) hC hP 0 rfl 0 (by decide) tb_96 rfl rfl dX0_tell_49 ?_
        refine x_al hC hl 1 dX0_tell_52 rfl rfl ?_
        refine x_get0 (v := .int (iI (bG 8))) hC hP 0 rfl 8 (by decide) tb_104 rfl rfl dX0_tell_53 ?_
        refine x_il hC hl 2 dX0_tell_56 rfl rfl ?_
        refine x_iast hC hP hD hS 1 rfl (by omega) (by decide) dX0_tell_57 (fun H locs hP hD hS => ?_)
        have hP : va_P D vwCl (wB h cs bO bG (u1 bF (bG 8) begin) bE bZ bP bR bC bT) H := hP
        have hD : va_D A (wB h cs bO bG (u1 bF (bG 8) begin) bE bZ bP bR bC bT) := hD
        refine x_al hC hl 1 dX0_tell_58 rfl rfl ?_
        refine x_get0 (v := .ref (h 2)) hC hP 0 rfl 1 (by decide) tb_97 rfl rfl dX0_tell_59 ?_
        refine x_al hC hl 1 dX0_tell_62 rfl rfl ?_
        refine x_get0 (v := .int (iI (bG 8))) hC hP 0 rfl 8 (by decide) tb_104 rfl rfl dX0_tell_63 ?_
        refine x_il hC hl 3 dX0_tell_66 rfl rfl ?_
        refine x_iast hC hP hD hS 2 rfl (by omega) (by decide) dX0_tell_67 (fun H locs hP hD hS => ?_)
        have hP : va_P D vwCl (wB h cs bO bG (u1 bF (bG 8) begin) (u1 bE (bG 8) stop) bZ bP bR bC bT) H := hP
        have hD : va_D A (wB h cs bO bG (u1 bF (bG 8) begin) (u1 bE (bG 8) stop) bZ bP bR bC bT) := hD
        refine x_al hC hl 1 dX0_tell_68 rfl rfl ?_
        refine x_get0 (v := .ref (h 3)) hC hP 0 rfl 2 (by decide) tb_98 rfl rfl dX0_tell_69 ?_
        refine x_al hC hl 1 dX0_tell_72 rfl rfl ?_
        refine x_get0 (v := .int (iI (bG 8))) hC hP 0 rfl 8 (by decide) tb_104 rfl rfl dX0_tell_73 ?_
        refine x_il hC hl 4 dX0_tell_76 rfl rfl ?_
        refine x_iast hC hP hD hS 3 rfl (by omega) (by decide) dX0_tell_77 (fun H locs hP hD hS => ?_)
        have hP : va_P D vwCl (wB h cs bO bG (u1 bF (bG 8) begin) (u1 bE (bG 8) stop) (u1 bZ (bG 8) need) bP bR bC bT) H := hP
        have hD : va_D A (wB h cs bO bG (u1 bF (bG 8) begin) (u1 bE (bG 8) stop) (u1 bZ (bG 8) need) bP bR bC bT) := hD
        refine x_al hC hl 1 dX0_tell_78 rfl rfl ?_
        refine x_al hC hl 1 dX0_tell_79 rfl rfl ?_
        refine x_get0 (v := .int (iI (bG 8))) hC hP 0 rfl 8 (by decide) tb_104 rfl rfl dX0_tell_80 ?_
        refine x_ilw hC hl 0 dX0_tell_83 rfl ?_
        refine x_vV (As := [.int (iI (bG 8)), .int (iI (bFor bO bR bC bT begin stop need (bG 12)))]) hC (k0_putIn l D cs h bO bG (u1 bF (bG 8) begin) (u1 bE (bG 8) stop) (u1 bZ (bG 8) need) bP bR bC bT (bG 8) (bFor bO bR bC bT begin stop need (bG 12)) (by first | assumption | omega) ((by omega)) ((by rw [u1_s, u1_s]; have := c_6; omega))) lk0_74 (q0 := 0) (ci := 0) rfl rfl rfl (sub_all hP hD hS hA) hP hS rfl hl.1 rfl (Nat.le_of_ble_eq_true rfl) ⟨rfl, rfl⟩ ⟨Nat.le_of_ble_eq_true rfl, Nat.le_of_ble_eq_true rfl⟩ ⟨Nat.le_of_ble_eq_true rfl, Nat.le_of_ble_eq_true rfl⟩ dX0_tell_85 (fun H locs hP hD hS hHs => ?_)
        have hP : va_P D vwCl (wB h cs (bPutO bO (bFor bO bR bC bT begin stop need (bG 12))) (bPutG bO bG bC (bFor bO bR bC bT begin stop need (bG 12))) (u1 bF (bG 8) begin) (u1 bE (bG 8) stop) (u1 bZ (bG 8) need) (u1 bP (bG 8) (bFor bO bR bC bT begin stop need (bG 12))) bR bC (bPutT bT (u1 bF (bG 8) begin) (u1 bE (bG 8) stop) (bG 8) (bFor bO bR bC bT begin stop need (bG 12)))) H := hP
        have hD : va_D A (wB h cs (bPutO bO (bFor bO bR bC bT begin stop need (bG 12))) (bPutG bO bG bC (bFor bO bR bC bT begin stop need (bG 12))) (u1 bF (bG 8) begin) (u1 bE (bG 8) stop) (u1 bZ (bG 8) need) (u1 bP (bG 8) (bFor bO bR bC bT begin stop need (bG 12))) bR bC (bPutT bT (u1 bF (bG 8) begin) (u1 bE (bG 8) stop) (bG 8) (bFor bO bR bC bT begin stop need (bG 12)))) := hD
        refine x_al hC hl 1 dX0_tell_88 rfl rfl ?_
        refine x_dup hC dX0_tell_89 rfl ?_
        refine x_get0 (v := .int (iI ((bPutG bO bG bC (bFor bO bR bC bT begin stop need (bG 12))) 8))) hC hP 0 rfl 8 (by decide) tb_104 rfl rfl dX0_tell_90 ?_
        refine x_ic hC dX0_tell_93 ?_
        refine x_iadd hC dX0_tell_94 ?_
        refine x_put0_8 hC hP hD hS 0 rfl tb_104 dX0_tell_95 (fun H locs hP hD hS => ?_)
        have hP : va_P D vwCl (wB h cs (bPutO bO (bFor bO bR bC bT begin stop need (bG 12))) (u1 (bPutG bO bG bC (bFor bO bR bC bT begin stop need (bG 12))) 8 (((bPutG bO bG bC (bFor bO bR bC bT begin stop need (bG 12))) 8) + 1)) (u1 bF (bG 8) begin) (u1 bE (bG 8) stop) (u1 bZ (bG 8) need) (u1 bP (bG 8) (bFor bO bR bC bT begin stop need (bG 12))) bR bC (bPutT bT (u1 bF (bG 8) begin) (u1 bE (bG 8) stop) (bG 8) (bFor bO bR bC bT begin stop need (bG 12)))) H := hP
        have hD : va_D A (wB h cs (bPutO bO (bFor bO bR bC bT begin stop need (bG 12))) (u1 (bPutG bO bG bC (bFor bO bR bC bT begin stop need (bG 12))) 8 (((bPutG bO bG bC (bFor bO bR bC bT begin stop need (bG 12))) 8) + 1)) (u1 bF (bG 8) begin) (u1 bE (bG 8) stop) (u1 bZ (bG 8) need) (u1 bP (bG 8) (bFor bO bR bC bT begin stop need (bG 12))) bR bC (bPutT bT (u1 bF (bG 8) begin) (u1 bE (bG 8) stop) (bG 8) (bFor bO bR bC bT begin stop need (bG 12)))) := hD
        refine x_ilw hC hl 0 dX0_tell_98 rfl ?_
        have ew : (wB h cs (bPutO bO (bFor bO bR bC bT begin stop need (bG 12))) (u1 (bPutG bO bG bC (bFor bO bR bC bT begin stop need (bG 12))) 8 (((bPutG bO bG bC (bFor bO bR bC bT begin stop need (bG 12))) 8) + 1)) (u1 bF (bG 8) begin) (u1 bE (bG 8) stop) (u1 bZ (bG 8) need) (u1 bP (bG 8) (bFor bO bR bC bT begin stop need (bG 12))) bR bC (bPutT bT (u1 bF (bG 8) begin) (u1 bE (bG 8) stop) (bG 8) (bFor bO bR bC bT begin stop need (bG 12)))) = (wB h cs (iif (bTelC bO bG bR bC bT begin stop need) (bPutO bO (bTelR bO bG bR bC bT begin stop need)) bO) (iif (bTelC bO bG bR bC bT begin stop need) (bTelG bO bG bC (bTelR bO bG bR bC bT begin stop need)) bG) (iif (bTelC bO bG bR bC bT begin stop need) (u1 bF (bG 8) begin) bF) (iif (bTelC bO bG bR bC bT begin stop need) (u1 bE (bG 8) stop) bE) (iif (bTelC bO bG bR bC bT begin stop need) (u1 bZ (bG 8) need) bZ) (iif (bTelC bO bG bR bC bT begin stop need) (u1 bP (bG 8) (bTelR bO bG bR bC bT begin stop need)) bP) bR bC (iif (bTelC bO bG bR bC bT begin stop need) (bPutT bT (u1 bF (bG 8) begin) (u1 bE (bG 8) stop) (bG 8) (bTelR bO bG bR bC bT begin stop need)) bT)) := (wBc (by first | exact (iif_t ⟨qv, qr2, by omega⟩).symm | exact (iif_f (fun h => c_6 h.1)).symm | exact (iif_f (fun h => by have := h.2.1; omega)).symm | exact (iif_f (fun h => by have := h.2.2; omega)).symm : bPutO bO (bFor bO bR bC bT begin stop need (bG 12)) = iif (bTelC bO bG bR bC bT begin stop need) (bPutO bO (bTelR bO bG bR bC bT begin stop need)) bO) (by first | exact (iif_t ⟨qv, qr2, by omega⟩).symm | exact (iif_f (fun h => c_6 h.1)).symm | exact (iif_f (fun h => by have := h.2.1; omega)).symm | exact (iif_f (fun h => by have := h.2.2; omega)).symm : u1 (bPutG bO bG bC (bFor bO bR bC bT begin stop need (bG 12))) 8 (((bPutG bO bG bC (bFor bO bR bC bT begin stop need (bG 12))) 8) + 1) = iif (bTelC bO bG bR bC bT begin stop need) (bTelG bO bG bC (bTelR bO bG bR bC bT begin stop need)) bG) (by first | exact (iif_t ⟨qv, qr2, by omega⟩).symm | exact (iif_f (fun h => c_6 h.1)).symm | exact (iif_f (fun h => by have := h.2.1; omega)).symm | exact (iif_f (fun h => by have := h.2.2; omega)).symm : u1 bF (bG 8) begin = iif (bTelC bO bG bR bC bT begin stop need) (u1 bF (bG 8) begin) bF) (by first | exact (iif_t ⟨qv, qr2, by omega⟩).symm | exact (iif_f (fun h => c_6 h.1)).symm | exact (iif_f (fun h => by have := h.2.1; omega)).symm | exact (iif_f (fun h => by have := h.2.2; omega)).symm : u1 bE (bG 8) stop = iif (bTelC bO bG bR bC bT begin stop need) (u1 bE (bG 8) stop) bE) (by first | exact (iif_t ⟨qv, qr2, by omega⟩).symm | exact (iif_f (fun h => c_6 h.1)).symm | exact (iif_f (fun h => by have := h.2.1; omega)).symm | exact (iif_f (fun h => by have := h.2.2; omega)).symm : u1 bZ (bG 8) need = iif (bTelC bO bG bR bC bT begin stop need) (u1 bZ (bG 8) need) bZ) (by first | exact (iif_t ⟨qv, qr2, by omega⟩).symm | exact (iif_f (fun h => c_6 h.1)).symm | exact (iif_f (fun h => by have := h.2.1; omega)).symm | exact (iif_f (fun h => by have := h.2.2; omega)).symm : u1 bP (bG 8) (bFor bO bR bC bT begin stop need (bG 12)) = iif (bTelC bO bG bR bC bT begin stop need) (u1 bP (bG 8) (bTelR bO bG bR bC bT begin stop need)) bP) rfl rfl (by first | exact (iif_t ⟨qv, qr2, by omega⟩).symm | exact (iif_f (fun h => c_6 h.1)).symm | exact (iif_f (fun h => by have := h.2.1; omega)).symm | exact (iif_f (fun h => by have := h.2.2; omega)).symm : bPutT bT (u1 bF (bG 8) begin) (u1 bE (bG 8) stop) (bG 8) (bFor bO bR bC bT begin stop need (bG 12)) = iif (bTelC bO bG bR bC bT begin stop need) (bPutT bT (u1 bF (bG 8) begin) (u1 bE (bG 8) stop) (bG 8) (bTelR bO bG bR bC bT begin stop need)) bT))
        have hP := vPe hP ew
        have hD := vDe hD ew
        exact x_retI (congrArg iI (by unfold bTelV; rw [iif_t qv, iif_f (by omega), iif_f (by omega)]; rfl : bFor bO bR bC bT begin stop need (bG 12) = bTelV bO bG bR bC bT begin stop need)) hend hP hD hS dX0_tell_100
      · refine x_ldc hC (-1000003) tb_276 (by decide) dX0_tell_45 ?_
        have ew_2 : (wB h cs bO bG bF bE bZ bP bR bC bT) = (wB h cs (iif (bTelC bO bG bR bC bT begin stop need) (bPutO bO (bTelR bO bG bR bC bT begin stop need)) bO) (iif (bTelC bO bG bR bC bT begin stop need) (bTelG bO bG bC (bTelR bO bG bR bC bT begin stop need)) bG) (iif (bTelC bO bG bR bC bT begin stop need) (u1 bF (bG 8) begin) bF) (iif (bTelC bO bG bR bC bT begin stop need) (u1 bE (bG 8) stop) bE) (iif (bTelC bO bG bR bC bT begin stop need) (u1 bZ (bG 8) need) bZ) (iif (bTelC bO bG bR bC bT begin stop need) (u1 bP (bG 8) (bTelR bO bG bR bC bT begin stop need)) bP) bR bC (iif (bTelC bO bG bR bC bT begin stop need) (bPutT bT (u1 bF (bG 8) begin) (u1 bE (bG 8) stop) (bG 8) (bTelR bO bG bR bC bT begin stop need)) bT)) := (wBc (by first | exact (iif_t ⟨qv, qr2, by omega⟩).symm | exact (iif_f (fun h => c_6 h.1)).symm | exact (iif_f (fun h => by have := h.2.1; omega)).symm | exact (iif_f (fun h => by have := h.2.2; omega)).symm : bO = iif (bTelC bO bG bR bC bT begin stop need) (bPutO bO (bTelR bO bG bR bC bT begin stop need)) bO) (by first | exact (iif_t ⟨qv, qr2, by omega⟩).symm | exact (iif_f (fun h => c_6 h.1)).symm | exact (iif_f (fun h => by have := h.2.1; omega)).symm | exact (iif_f (fun h => by have := h.2.2; omega)).symm : bG = iif (bTelC bO bG bR bC bT begin stop need) (bTelG bO bG bC (bTelR bO bG bR bC bT begin stop need)) bG) (by first | exact (iif_t ⟨qv, qr2, by omega⟩).symm | exact (iif_f (fun h => c_6 h.1)).symm | exact (iif_f (fun h => by have := h.2.1; omega)).symm | exact (iif_f (fun h => by have := h.2.2; omega)).symm : bF = iif (bTelC bO bG bR bC bT begin stop need) (u1 bF (bG 8) begin) bF) (by first | exact (iif_t ⟨qv, qr2, by omega⟩).symm | exact (iif_f (fun h => c_6 h.1)).symm | exact (iif_f (fun h => by have := h.2.1; omega)).symm | exact (iif_f (fun h => by have := h.2.2; omega)).symm : bE = iif (bTelC bO bG bR bC bT begin stop need) (u1 bE (bG 8) stop) bE) (by first | exact (iif_t ⟨qv, qr2, by omega⟩).symm | exact (iif_f (fun h => c_6 h.1)).symm | exact (iif_f (fun h => by have := h.2.1; omega)).symm | exact (iif_f (fun h => by have := h.2.2; omega)).symm : bZ = iif (bTelC bO bG bR bC bT begin stop need) (u1 bZ (bG 8) need) bZ) (by first | exact (iif_t ⟨qv, qr2, by omega⟩).symm | exact (iif_f (fun h => c_6 h.1)).symm | exact (iif_f (fun h => by have := h.2.1; omega)).symm | exact (iif_f (fun h => by have := h.2.2; omega)).symm : bP = iif (bTelC bO bG bR bC bT begin stop need) (u1 bP (bG 8) (bTelR bO bG bR bC bT begin stop need)) bP) rfl rfl (by first | exact (iif_t ⟨qv, qr2, by omega⟩).symm | exact (iif_f (fun h => c_6 h.1)).symm | exact (iif_f (fun h => by have := h.2.1; omega)).symm | exact (iif_f (fun h => by have := h.2.2; omega)).symm : bT = iif (bTelC bO bG bR bC bT begin stop need) (bPutT bT (u1 bF (bG 8) begin) (u1 bE (bG 8) stop) (bG 8) (bTelR bO bG bR bC bT begin stop need)) bT))
        have hP := vPe hP ew_2
        have hD := vDe hD ew_2
        exact x_retI (congrArg iI (by unfold bTelV; rw [iif_t qv, iif_f (by omega), iif_t (by omega)] : (-1000003) = bTelV bO bG bR bC bT begin stop need)) hend hP hD hS dX0_tell_47
    · refine x_ldc hC (-1000002) tb_275 (by decide) dX0_tell_33 ?_
      have ew_3 : (wB h cs bO bG bF bE bZ bP bR bC bT) = (wB h cs (iif (bTelC bO bG bR bC bT begin stop need) (bPutO bO (bTelR bO bG bR bC bT begin stop need)) bO) (iif (bTelC bO bG bR bC bT begin stop need) (bTelG bO bG bC (bTelR bO bG bR bC bT begin stop need)) bG) (iif (bTelC bO bG bR bC bT begin stop need) (u1 bF (bG 8) begin) bF) (iif (bTelC bO bG bR bC bT begin stop need) (u1 bE (bG 8) stop) bE) (iif (bTelC bO bG bR bC bT begin stop need) (u1 bZ (bG 8) need) bZ) (iif (bTelC bO bG bR bC bT begin stop need) (u1 bP (bG 8) (bTelR bO bG bR bC bT begin stop need)) bP) bR bC (iif (bTelC bO bG bR bC bT begin stop need) (bPutT bT (u1 bF (bG 8) begin) (u1 bE (bG 8) stop) (bG 8) (bTelR bO bG bR bC bT begin stop need)) bT)) := (wBc (by first | exact (iif_t ⟨qv, qr2, by omega⟩).symm | exact (iif_f (fun h => c_6 h.1)).symm | exact (iif_f (fun h => by have := h.2.1; omega)).symm | exact (iif_f (fun h => by have := h.2.2; omega)).symm : bO = iif (bTelC bO bG bR bC bT begin stop need) (bPutO bO (bTelR bO bG bR bC bT begin stop need)) bO) (by first | exact (iif_t ⟨qv, qr2, by omega⟩).symm | exact (iif_f (fun h => c_6 h.1)).symm | exact (iif_f (fun h => by have := h.2.1; omega)).symm | exact (iif_f (fun h => by have := h.2.2; omega)).symm : bG = iif (bTelC bO bG bR bC bT begin stop need) (bTelG bO bG bC (bTelR bO bG bR bC bT begin stop need)) bG) (by first | exact (iif_t ⟨qv, qr2, by omega⟩).symm | exact (iif_f (fun h => c_6 h.1)).symm | exact (iif_f (fun h => by have := h.2.1; omega)).symm | exact (iif_f (fun h => by have := h.2.2; omega)).symm : bF = iif (bTelC bO bG bR bC bT begin stop need) (u1 bF (bG 8) begin) bF) (by first | exact (iif_t ⟨qv, qr2, by omega⟩).symm | exact (iif_f (fun h => c_6 h.1)).symm | exact (iif_f (fun h => by have := h.2.1; omega)).symm | exact (iif_f (fun h => by have := h.2.2; omega)).symm : bE = iif (bTelC bO bG bR bC bT begin stop need) (u1 bE (bG 8) stop) bE) (by first | exact (iif_t ⟨qv, qr2, by omega⟩).symm | exact (iif_f (fun h => c_6 h.1)).symm | exact (iif_f (fun h => by have := h.2.1; omega)).symm | exact (iif_f (fun h => by have := h.2.2; omega)).symm : bZ = iif (bTelC bO bG bR bC bT begin stop need) (u1 bZ (bG 8) need) bZ) (by first | exact (iif_t ⟨qv, qr2, by omega⟩).symm | exact (iif_f (fun h => c_6 h.1)).symm | exact (iif_f (fun h => by have := h.2.1; omega)).symm | exact (iif_f (fun h => by have := h.2.2; omega)).symm : bP = iif (bTelC bO bG bR bC bT begin stop need) (u1 bP (bG 8) (bTelR bO bG bR bC bT begin stop need)) bP) rfl rfl (by first | exact (iif_t ⟨qv, qr2, by omega⟩).symm | exact (iif_f (fun h => c_6 h.1)).symm | exact (iif_f (fun h => by have := h.2.1; omega)).symm | exact (iif_f (fun h => by have := h.2.2; omega)).symm : bT = iif (bTelC bO bG bR bC bT begin stop need) (bPutT bT (u1 bF (bG 8) begin) (u1 bE (bG 8) stop) (bG 8) (bTelR bO bG bR bC bT begin stop need)) bT))
      have hP := vPe hP ew_3
      have hD := vDe hD ew_3
      exact x_retI (congrArg iI (by unfold bTelV; rw [iif_t qv, iif_t (by omega)] : (-1000002) = bTelV bO bG bR bC bT begin stop need)) hend hP hD hS dX0_tell_35
  · refine x_ldc hC (-1000001) tb_238 (by decide) dX0_tell_9 ?_
    have ew_4 : (wB h cs bO bG bF bE bZ bP bR bC bT) = (wB h cs (iif (bTelC bO bG bR bC bT begin stop need) (bPutO bO (bTelR bO bG bR bC bT begin stop need)) bO) (iif (bTelC bO bG bR bC bT begin stop need) (bTelG bO bG bC (bTelR bO bG bR bC bT begin stop need)) bG) (iif (bTelC bO bG bR bC bT begin stop need) (u1 bF (bG 8) begin) bF) (iif (bTelC bO bG bR bC bT begin stop need) (u1 bE (bG 8) stop) bE) (iif (bTelC bO bG bR bC bT begin stop need) (u1 bZ (bG 8) need) bZ) (iif (bTelC bO bG bR bC bT begin stop need) (u1 bP (bG 8) (bTelR bO bG bR bC bT begin stop need)) bP) bR bC (iif (bTelC bO bG bR bC bT begin stop need) (bPutT bT (u1 bF (bG 8) begin) (u1 bE (bG 8) stop) (bG 8) (bTelR bO bG bR bC bT begin stop need)) bT)) := (wBc (by first | exact (iif_t ⟨qv, qr2, by omega⟩).symm | exact (iif_f (fun h => c_6 h.1)).symm | exact (iif_f (fun h => by have := h.2.1; omega)).symm | exact (iif_f (fun h => by have := h.2.2; omega)).symm : bO = iif (bTelC bO bG bR bC bT begin stop need) (bPutO bO (bTelR bO bG bR bC bT begin stop need)) bO) (by first | exact (iif_t ⟨qv, qr2, by omega⟩).symm | exact (iif_f (fun h => c_6 h.1)).symm | exact (iif_f (fun h => by have := h.2.1; omega)).symm | exact (iif_f (fun h => by have := h.2.2; omega)).symm : bG = iif (bTelC bO bG bR bC bT begin stop need) (bTelG bO bG bC (bTelR bO bG bR bC bT begin stop need)) bG) (by first | exact (iif_t ⟨qv, qr2, by omega⟩).symm | exact (iif_f (fun h => c_6 h.1)).symm | exact (iif_f (fun h => by have := h.2.1; omega)).symm | exact (iif_f (fun h => by have := h.2.2; omega)).symm : bF = iif (bTelC bO bG bR bC bT begin stop need) (u1 bF (bG 8) begin) bF) (by first | exact (iif_t ⟨qv, qr2, by omega⟩).symm | exact (iif_f (fun h => c_6 h.1)).symm | exact (iif_f (fun h => by have := h.2.1; omega)).symm | exact (iif_f (fun h => by have := h.2.2; omega)).symm : bE = iif (bTelC bO bG bR bC bT begin stop need) (u1 bE (bG 8) stop) bE) (by first | exact (iif_t ⟨qv, qr2, by omega⟩).symm | exact (iif_f (fun h => c_6 h.1)).symm | exact (iif_f (fun h => by have := h.2.1; omega)).symm | exact (iif_f (fun h => by have := h.2.2; omega)).symm : bZ = iif (bTelC bO bG bR bC bT begin stop need) (u1 bZ (bG 8) need) bZ) (by first | exact (iif_t ⟨qv, qr2, by omega⟩).symm | exact (iif_f (fun h => c_6 h.1)).symm | exact (iif_f (fun h => by have := h.2.1; omega)).symm | exact (iif_f (fun h => by have := h.2.2; omega)).symm : bP = iif (bTelC bO bG bR bC bT begin stop need) (u1 bP (bG 8) (bTelR bO bG bR bC bT begin stop need)) bP) rfl rfl (by first | exact (iif_t ⟨qv, qr2, by omega⟩).symm | exact (iif_f (fun h => c_6 h.1)).symm | exact (iif_f (fun h => by have := h.2.1; omega)).symm | exact (iif_f (fun h => by have := h.2.2; omega)).symm : bT = iif (bTelC bO bG bR bC bT begin stop need) (bPutT bT (u1 bF (bG 8) begin) (u1 bE (bG 8) stop) (bG 8) (bTelR bO bG bR bC bT begin stop need)) bT))
    have hP := vPe hP ew_4
    have hD := vDe hD ew_4
    exact x_retI (congrArg iI (by exact (iif_f c_6).symm : (-1000001) = bTelV bO bG bR bC bT begin stop need)) hend hP hD hS dX0_tell_11
abbrev r0_drop : Room := { frames := 2, cells := 0, slots := 0, locals := 43 }
set_option maxHeartbeats 4000000 in
set_option maxRecDepth 100000 in
theorem k0_drop (l : Launch) (D : va_G) (cs : Nat → ClassId) (h : Nat → Nat) (bO : Nat → Bool) (bG : Int → Int) (bF : Int → Int) (bE : Int → Int) (bZ : Int → Int) (bP : Int → Int) (bR : Int → Int) (bC : Int → Int) (bT : Int → Nat → Bool) (talk : Int) (hB : IB bF bE bZ bP bR bC) (g_talk : -2147483648 ≤ talk ∧ talk ≤ 2147483647) : CI l D cs yX0_drop cX0_drop 3 .int r0_drop 0 0 [.ref (h 0), .int (iI talk)] (wB h cs bO bG bF bE bZ bP bR bC bT) (wB h cs bO (iif (¬ bPl bP talk = -1) (u1 bG 9 (bG 9 + 1)) bG) bF bE bZ (iif (¬ bPl bP talk = -1) (u1 bP talk (-1)) bP) bR bC (iif (¬ bPl bP talk = -1) (bOutT bT bF bE talk (bPl bP talk)) bT)) (iI (iif (¬ bPl bP talk = -1) (bPl bP talk) (-1000001))) := by
  refine CI_start (own := RX0) (by decide) rfl rfl (Nat.le_of_ble_eq_true rfl) ?_
  intro p e s m args below meth c Q A ls hC hl hP hD hA hS hend
  have hl : lv_has ls 3 [(0, .ref (h 0)), (1, .int (iI talk))] := hl
  obtain ⟨H, hH⟩ : ∃ H : Heap, H = s.heap := ⟨_, rfl⟩
  have hS : va_S A s.heap H [] := by rw [hH]; exact hS
  rw [← hH] at hP
  obtain ⟨locs, hlocs⟩ : ∃ locs : List Loc, locs = [] := ⟨_, rfl⟩
  rw [← hlocs] at hS
  suffices hgo : W p l e r0_drop s m args below meth c H locs 0 0 Q (F0 m 0 ls []) by rw [← hH, ← hlocs]; exact hgo
  clear hH hlocs
  have qp := bPl_rg hB talk
  refine x_al hC hl 0 dX0_drop_0 rfl rfl ?_
  refine x_il hC hl 1 dX0_drop_1 rfl rfl ?_
  refine x_vI (As := [.int (iI talk)]) hC (k0_placeOf l D cs h bO bG bF bE bZ bP bR bC bT talk (by first | assumption | omega)) lk0_78 (q0 := 0) (ci := 0) rfl rfl rfl (sub_all hP hD hS hA) hP hS rfl hl.1 rfl (Nat.le_of_ble_eq_true rfl) ⟨rfl, rfl⟩ ⟨Nat.le_of_ble_eq_true rfl, Nat.le_of_ble_eq_true rfl⟩ ⟨Nat.le_of_ble_eq_true rfl, Nat.le_of_ble_eq_true rfl⟩ dX0_drop_2 (fun H locs hP hD hS hHs => ?_)
  refine x_is hC [(2, .int (iI (bPl bP talk))), (0, .ref (h 0)), (1, .int (iI talk))] hl dX0_drop_5 rfl (by decide) rfl (fun ls hl => ?_)
  refine x_il hC hl 0 dX0_drop_6 rfl rfl ?_
  refine x_nI (As := [.int (iI (bPl bP talk))]) hC (k4_isRoom l D cs (bPl bP talk) (by first | assumption | omega)) lk0_68 (sub_none hP hD hS hA) hP hS rfl hl.1 rfl (Nat.le_of_ble_eq_true rfl) ⟨rfl, rfl⟩ ⟨Nat.le_of_ble_eq_true rfl, Nat.le_of_ble_eq_true rfl⟩ ⟨Nat.le_of_ble_eq_true rfl, Nat.le_of_ble_eq_true rfl⟩ dX0_drop_7 (fun H locs hP hD hS hHs => ?_)
  refine x_if_ne_b hC 16 dX0_drop_10 (by decide) (fun c_10 => ?_) (fun c_10 => ?_)
  · have qk := bPl_ok (P := bP) (t := talk) (by omega)
    have qf := (ibT hB talk qk.1).2.2 (by omega)
    refine x_al hC hl 1 dX0_drop_16 rfl rfl ?_
    refine x_il hC hl 2 dX0_drop_17 rfl rfl ?_
    refine x_il hC hl 0 dX0_drop_18 rfl rfl ?_
    refine x_vV (As := [.int (iI talk), .int (iI (bPl bP talk))]) hC (k0_takeOut l D cs h bO bG bF bE bZ bP bR bC bT talk (bPl bP talk) (by first | assumption | omega) (by first | assumption | omega) (by first | assumption | omega)) lk0_82 (q0 := 0) (ci := 0) rfl rfl rfl (sub_all hP hD hS hA) hP hS rfl hl.1 rfl (Nat.le_of_ble_eq_true rfl) ⟨rfl, rfl⟩ ⟨Nat.le_of_ble_eq_true rfl, Nat.le_of_ble_eq_true rfl⟩ ⟨Nat.le_of_ble_eq_true rfl, Nat.le_of_ble_eq_true rfl⟩ dX0_drop_19 (fun H locs hP hD hS hHs => ?_)
    have hP : va_P D vwCl (wB h cs bO bG bF bE bZ (u1 bP talk (-1)) bR bC (bOutT bT bF bE talk (bPl bP talk))) H := hP
    have hD : va_D A (wB h cs bO bG bF bE bZ (u1 bP talk (-1)) bR bC (bOutT bT bF bE talk (bPl bP talk))) := hD
    refine x_al hC hl 1 dX0_drop_22 rfl rfl ?_
    refine x_dup hC dX0_drop_23 rfl ?_
    refine x_get0 (v := .int (iI (bG 9))) hC hP 0 rfl 9 (by decide) tb_105 rfl rfl dX0_drop_24 ?_
    refine x_ic hC dX0_drop_27 ?_
    refine x_iadd hC dX0_drop_28 ?_
    refine x_put0_9 hC hP hD hS 0 rfl tb_105 dX0_drop_29 (fun H locs hP hD hS => ?_)
    have hP : va_P D vwCl (wB h cs bO (u1 bG 9 ((bG 9) + 1)) bF bE bZ (u1 bP talk (-1)) bR bC (bOutT bT bF bE talk (bPl bP talk))) H := hP
    have hD : va_D A (wB h cs bO (u1 bG 9 ((bG 9) + 1)) bF bE bZ (u1 bP talk (-1)) bR bC (bOutT bT bF bE talk (bPl bP talk))) := hD
    refine x_il hC hl 0 dX0_drop_32 rfl rfl ?_
    have ew : (wB h cs bO (u1 bG 9 ((bG 9) + 1)) bF bE bZ (u1 bP talk (-1)) bR bC (bOutT bT bF bE talk (bPl bP talk))) = (wB h cs bO (iif (¬ bPl bP talk = -1) (u1 bG 9 (bG 9 + 1)) bG) bF bE bZ (iif (¬ bPl bP talk = -1) (u1 bP talk (-1)) bP) bR bC (iif (¬ bPl bP talk = -1) (bOutT bT bF bE talk (bPl bP talk)) bT)) := (wBc rfl (by first | exact (iif_t (by omega)).symm | exact (iif_f (by omega)).symm : u1 bG 9 ((bG 9) + 1) = iif (¬ bPl bP talk = -1) (u1 bG 9 (bG 9 + 1)) bG) rfl rfl rfl (by first | exact (iif_t (by omega)).symm | exact (iif_f (by omega)).symm : u1 bP talk (-1) = iif (¬ bPl bP talk = -1) (u1 bP talk (-1)) bP) rfl rfl (by first | exact (iif_t (by omega)).symm | exact (iif_f (by omega)).symm : bOutT bT bF bE talk (bPl bP talk) = iif (¬ bPl bP talk = -1) (bOutT bT bF bE talk (bPl bP talk)) bT))
    have hP := vPe hP ew
    have hD := vDe hD ew
    exact x_retI (congrArg iI (by first | exact (iif_t (by omega)).symm | exact (iif_f (by omega)).symm : bPl bP talk = iif (¬ bPl bP talk = -1) (bPl bP talk) (-1000001))) hend hP hD hS dX0_drop_33
  · refine x_ldc hC (-1000001) tb_238 (by decide) dX0_drop_13 ?_
    have ew_2 : (wB h cs bO bG bF bE bZ bP bR bC bT) = (wB h cs bO (iif (¬ bPl bP talk = -1) (u1 bG 9 (bG 9 + 1)) bG) bF bE bZ (iif (¬ bPl bP talk = -1) (u1 bP talk (-1)) bP) bR bC (iif (¬ bPl bP talk = -1) (bOutT bT bF bE talk (bPl bP talk)) bT)) := (wBc rfl (by first | exact (iif_t (by omega)).symm | exact (iif_f (by omega)).symm : bG = iif (¬ bPl bP talk = -1) (u1 bG 9 (bG 9 + 1)) bG) rfl rfl rfl (by first | exact (iif_t (by omega)).symm | exact (iif_f (by omega)).symm : bP = iif (¬ bPl bP talk = -1) (u1 bP talk (-1)) bP) rfl rfl (by first | exact (iif_t (by omega)).symm | exact (iif_f (by omega)).symm : bT = iif (¬ bPl bP talk = -1) (bOutT bT bF bE talk (bPl bP talk)) bT))
    have hP := vPe hP ew_2
    have hD := vDe hD ew_2
    exact x_retI (congrArg iI (by first | exact (iif_t (by omega)).symm | exact (iif_f (by omega)).symm : (-1000001) = iif (¬ bPl bP talk = -1) (bPl bP talk) (-1000001))) hend hP hD hS dX0_drop_15
abbrev r0_shift : Room := { frames := 2, cells := 0, slots := 0, locals := 46 }
set_option maxHeartbeats 4000000 in
set_option maxRecDepth 100000 in
theorem k0_shift (l : Launch) (D : va_G) (cs : Nat → ClassId) (h : Nat → Nat) (bO : Nat → Bool) (bG : Int → Int) (bF : Int → Int) (bE : Int → Int) (bZ : Int → Int) (bP : Int → Int) (bR : Int → Int) (bC : Int → Int) (bT : Int → Nat → Bool) (talk : Int) (room : Int) (hB : IB bF bE bZ bP bR bC) (g_talk : -2147483648 ≤ talk ∧ talk ≤ 2147483647) (g_room : -2147483648 ≤ room ∧ room ≤ 2147483647) : CI l D cs yX0_shift cX0_shift 4 .int r0_shift 0 0 [.ref (h 0), .int (iI talk), .int (iI room)] (wB h cs bO bG bF bE bZ bP bR bC bT) (wB h cs (iif (bShC bO bF bE bZ bP bR bT talk room) (bPutO bO room) bO) (iif (bShC bO bF bE bZ bP bR bT talk room) (bPutG bO bG bC room) bG) bF bE bZ (iif (bShC bO bF bE bZ bP bR bT talk room) (u1 (u1 bP talk (-1)) talk room) bP) bR bC (iif (bShC bO bF bE bZ bP bR bT talk room) (bShT bF bE bP bT talk room) bT)) (iI (bShV bO bF bE bZ bP bR bT talk room)) := by
  refine CI_start (own := RX0) (by decide) rfl rfl (Nat.le_of_ble_eq_true rfl) ?_
  intro p e s m args below meth c Q A ls hC hl hP hD hA hS hend
  have hl : lv_has ls 4 [(0, .ref (h 0)), (1, .int (iI talk)), (2, .int (iI room))] := hl
  obtain ⟨H, hH⟩ : ∃ H : Heap, H = s.heap := ⟨_, rfl⟩
  have hS : va_S A s.heap H [] := by rw [hH]; exact hS
  rw [← hH] at hP
  obtain ⟨locs, hlocs⟩ : ∃ locs : List Loc, locs = [] := ⟨_, rfl⟩
  rw [← hlocs] at hS
  suffices hgo : W p l e r0_shift s m args below meth c H locs 0 0 Q (F0 m 0 ls []) by rw [← hH, ← hlocs]; exact hgo
  clear hH hlocs
  have qp := bPl_rg hB talk
  refine x_al hC hl 0 dX0_shift_0 rfl rfl ?_
  refine x_il hC hl 1 dX0_shift_1 rfl rfl ?_
  refine x_vI (As := [.int (iI talk)]) hC (k0_placeOf l D cs h bO bG bF bE bZ bP bR bC bT talk (by first | assumption | omega)) lk0_78 (q0 := 0) (ci := 0) rfl rfl rfl (sub_all hP hD hS hA) hP hS rfl hl.1 rfl (Nat.le_of_ble_eq_true rfl) ⟨rfl, rfl⟩ ⟨Nat.le_of_ble_eq_true rfl, Nat.le_of_ble_eq_true rfl⟩ ⟨Nat.le_of_ble_eq_true rfl, Nat.le_of_ble_eq_true rfl⟩ dX0_shift_2 (fun H locs hP hD hS hHs => ?_)
  refine x_is hC [(3, .int (iI (bPl bP talk))), (0, .ref (h 0)), (1, .int (iI talk)), (2, .int (iI room))] hl dX0_shift_5 rfl (by decide) rfl (fun ls hl => ?_)
  refine x_il hC hl 0 dX0_shift_6 rfl rfl ?_
  refine x_nI (As := [.int (iI (bPl bP talk))]) hC (k4_isRoom l D cs (bPl bP talk) (by first | assumption | omega)) lk0_68 (sub_none hP hD hS hA) hP hS rfl hl.1 rfl (Nat.le_of_ble_eq_true rfl) ⟨rfl, rfl⟩ ⟨Nat.le_of_ble_eq_true rfl, Nat.le_of_ble_eq_true rfl⟩ ⟨Nat.le_of_ble_eq_true rfl, Nat.le_of_ble_eq_true rfl⟩ dX0_shift_7 (fun H locs hP hD hS hHs => ?_)
  refine x_if_eq_b hC 20 dX0_shift_10 (by decide) (fun c_10 => ?_) (fun c_10 => ?_)
  · have qn : ¬ (¬ bPl bP talk = -1 ∧ 0 ≤ room ∧ room ≤ 7) := by omega
    refine x_ldc hC (-1000001) tb_238 (by decide) dX0_shift_20 ?_
    have ew : (wB h cs bO bG bF bE bZ bP bR bC bT) = (wB h cs (iif (bShC bO bF bE bZ bP bR bT talk room) (bPutO bO room) bO) (iif (bShC bO bF bE bZ bP bR bT talk room) (bPutG bO bG bC room) bG) bF bE bZ (iif (bShC bO bF bE bZ bP bR bT talk room) (u1 (u1 bP talk (-1)) talk room) bP) bR bC (iif (bShC bO bF bE bZ bP bR bT talk room) (bShT bF bE bP bT talk room) bT)) := (wBc (by first | exact (iif_t ⟨qv, c_29⟩).symm | exact (iif_f (fun h => c_29 h.2)).symm | exact (iif_f (fun h => qn h.1)).symm : bO = iif (bShC bO bF bE bZ bP bR bT talk room) (bPutO bO room) bO) (by first | exact (iif_t ⟨qv, c_29⟩).symm | exact (iif_f (fun h => c_29 h.2)).symm | exact (iif_f (fun h => qn h.1)).symm : bG = iif (bShC bO bF bE bZ bP bR bT talk room) (bPutG bO bG bC room) bG) rfl rfl rfl (by first | exact (iif_t ⟨qv, c_29⟩).symm | exact (iif_f (fun h => c_29 h.2)).symm | exact (iif_f (fun h => qn h.1)).symm : bP = iif (bShC bO bF bE bZ bP bR bT talk room) (u1 (u1 bP talk (-1)) talk room) bP) rfl rfl (by first | exact (iif_t ⟨qv, c_29⟩).symm | exact (iif_f (fun h => c_29 h.2)).symm | exact (iif_f (fun h => qn h.1)).symm : bT = iif (bShC bO bF bE bZ bP bR bT talk room) (bShT bF bE bP bT talk room) bT))
    have hP := vPe hP ew
    have hD := vDe hD ew
    exact x_retI (congrArg iI (by unfold bShV; rw [iif_f qn] : (-1000001) = bShV bO bF bE bZ bP bR bT talk room)) hend hP hD hS dX0_shift_22
  · refine x_il hC hl 3 dX0_shift_13 rfl rfl ?_
    refine x_nI (As := [.int (iI room)]) hC (k4_isRoom l D cs room (by first | assumption | omega)) lk0_68 (sub_none hP hD hS hA) hP hS rfl hl.1 rfl (Nat.le_of_ble_eq_true rfl) ⟨rfl, rfl⟩ ⟨Nat.le_of_ble_eq_true rfl, Nat.le_of_ble_eq_true rfl⟩ ⟨Nat.le_of_ble_eq_true rfl, Nat.le_of_ble_eq_true rfl⟩ dX0_shift_14 (fun H locs hP hD hS hHs => ?_)
    refine x_if_ne_b hC 23 dX0_shift_17 (by decide) (fun c_17 => ?_) (fun c_17 => ?_)
    · have qv : ¬ bPl bP talk = -1 ∧ 0 ≤ room ∧ room ≤ 7 := by omega
      have qk := bPl_ok (P := bP) (t := talk) (by omega)
      have qf := (ibT hB talk qk.1).2.2 (by omega)
      refine x_al hC hl 1 dX0_shift_23 rfl rfl ?_
      refine x_il hC hl 2 dX0_shift_24 rfl rfl ?_
      refine x_il hC hl 3 dX0_shift_25 rfl rfl ?_
      refine x_vI (As := [.int (iI talk), .int (iI room)]) hC (k0_couldGo l D cs h bO bG bF bE bZ bP bR bC bT talk room (by first | assumption | omega) (by first | assumption | omega) (by first | assumption | omega) (by first | assumption | omega)) lk0_85 (q0 := 0) (ci := 0) rfl rfl rfl (sub_all hP hD hS hA) hP hS rfl hl.1 rfl (Nat.le_of_ble_eq_true rfl) ⟨rfl, rfl⟩ ⟨Nat.le_of_ble_eq_true rfl, Nat.le_of_ble_eq_true rfl⟩ ⟨Nat.le_of_ble_eq_true rfl, Nat.le_of_ble_eq_true rfl⟩ dX0_shift_26 (fun H locs hP hD hS hHs => ?_)
      refine x_if_ne_b hC 35 dX0_shift_29 (by decide) (fun c_29 => ?_) (fun c_29 => ?_)
      · refine x_al hC hl 1 dX0_shift_35 rfl rfl ?_
        refine x_il hC hl 2 dX0_shift_36 rfl rfl ?_
        refine x_il hC hl 0 dX0_shift_37 rfl rfl ?_
        refine x_vV (As := [.int (iI talk), .int (iI (bPl bP talk))]) hC (k0_takeOut l D cs h bO bG bF bE bZ bP bR bC bT talk (bPl bP talk) (by first | assumption | omega) (by first | assumption | omega) (by first | assumption | omega)) lk0_82 (q0 := 0) (ci := 0) rfl rfl rfl (sub_all hP hD hS hA) hP hS rfl hl.1 rfl (Nat.le_of_ble_eq_true rfl) ⟨rfl, rfl⟩ ⟨Nat.le_of_ble_eq_true rfl, Nat.le_of_ble_eq_true rfl⟩ ⟨Nat.le_of_ble_eq_true rfl, Nat.le_of_ble_eq_true rfl⟩ dX0_shift_38 (fun H locs hP hD hS hHs => ?_)
        have hP : va_P D vwCl (wB h cs bO bG bF bE bZ (u1 bP talk (-1)) bR bC (bOutT bT bF bE talk (bPl bP talk))) H := hP
        have hD : va_D A (wB h cs bO bG bF bE bZ (u1 bP talk (-1)) bR bC (bOutT bT bF bE talk (bPl bP talk))) := hD
        refine x_al hC hl 1 dX0_shift_41 rfl rfl ?_
        refine x_il hC hl 2 dX0_shift_42 rfl rfl ?_
        refine x_il hC hl 3 dX0_shift_43 rfl rfl ?_
        refine x_vV (As := [.int (iI talk), .int (iI room)]) hC (k0_putIn l D cs h bO bG bF bE bZ (u1 bP talk (-1)) bR bC (bOutT bT bF bE talk (bPl bP talk)) talk room (by first | assumption | omega) (by first | assumption | omega) (by first | assumption | omega)) lk0_74 (q0 := 0) (ci := 0) rfl rfl rfl (sub_all hP hD hS hA) hP hS rfl hl.1 rfl (Nat.le_of_ble_eq_true rfl) ⟨rfl, rfl⟩ ⟨Nat.le_of_ble_eq_true rfl, Nat.le_of_ble_eq_true rfl⟩ ⟨Nat.le_of_ble_eq_true rfl, Nat.le_of_ble_eq_true rfl⟩ dX0_shift_44 (fun H locs hP hD hS hHs => ?_)
        have hP : va_P D vwCl (wB h cs (bPutO bO room) (bPutG bO bG bC room) bF bE bZ (u1 (u1 bP talk (-1)) talk room) bR bC (bPutT (bOutT bT bF bE talk (bPl bP talk)) bF bE talk room)) H := hP
        have hD : va_D A (wB h cs (bPutO bO room) (bPutG bO bG bC room) bF bE bZ (u1 (u1 bP talk (-1)) talk room) bR bC (bPutT (bOutT bT bF bE talk (bPl bP talk)) bF bE talk room)) := hD
        refine x_il hC hl 0 dX0_shift_47 rfl rfl ?_
        have ew_2 : (wB h cs (bPutO bO room) (bPutG bO bG bC room) bF bE bZ (u1 (u1 bP talk (-1)) talk room) bR bC (bPutT (bOutT bT bF bE talk (bPl bP talk)) bF bE talk room)) = (wB h cs (iif (bShC bO bF bE bZ bP bR bT talk room) (bPutO bO room) bO) (iif (bShC bO bF bE bZ bP bR bT talk room) (bPutG bO bG bC room) bG) bF bE bZ (iif (bShC bO bF bE bZ bP bR bT talk room) (u1 (u1 bP talk (-1)) talk room) bP) bR bC (iif (bShC bO bF bE bZ bP bR bT talk room) (bShT bF bE bP bT talk room) bT)) := (wBc (by first | exact (iif_t ⟨qv, c_29⟩).symm | exact (iif_f (fun h => c_29 h.2)).symm | exact (iif_f (fun h => qn h.1)).symm : bPutO bO room = iif (bShC bO bF bE bZ bP bR bT talk room) (bPutO bO room) bO) (by first | exact (iif_t ⟨qv, c_29⟩).symm | exact (iif_f (fun h => c_29 h.2)).symm | exact (iif_f (fun h => qn h.1)).symm : bPutG bO bG bC room = iif (bShC bO bF bE bZ bP bR bT talk room) (bPutG bO bG bC room) bG) rfl rfl rfl (by first | exact (iif_t ⟨qv, c_29⟩).symm | exact (iif_f (fun h => c_29 h.2)).symm | exact (iif_f (fun h => qn h.1)).symm : u1 (u1 bP talk (-1)) talk room = iif (bShC bO bF bE bZ bP bR bT talk room) (u1 (u1 bP talk (-1)) talk room) bP) rfl rfl (by first | exact (iif_t ⟨qv, c_29⟩).symm | exact (iif_f (fun h => c_29 h.2)).symm | exact (iif_f (fun h => qn h.1)).symm : bPutT (bOutT bT bF bE talk (bPl bP talk)) bF bE talk room = iif (bShC bO bF bE bZ bP bR bT talk room) (bShT bF bE bP bT talk room) bT))
        have hP := vPe hP ew_2
        have hD := vDe hD ew_2
        exact x_retI (congrArg iI (by unfold bShV; rw [iif_t qv, iif_t c_29] : bPl bP talk = bShV bO bF bE bZ bP bR bT talk room)) hend hP hD hS dX0_shift_48
      · refine x_ldc hC (-1000002) tb_275 (by decide) dX0_shift_32 ?_
        have ew_3 : (wB h cs bO bG bF bE bZ bP bR bC bT) = (wB h cs (iif (bShC bO bF bE bZ bP bR bT talk room) (bPutO bO room) bO) (iif (bShC bO bF bE bZ bP bR bT talk room) (bPutG bO bG bC room) bG) bF bE bZ (iif (bShC bO bF bE bZ bP bR bT talk room) (u1 (u1 bP talk (-1)) talk room) bP) bR bC (iif (bShC bO bF bE bZ bP bR bT talk room) (bShT bF bE bP bT talk room) bT)) := (wBc (by first | exact (iif_t ⟨qv, c_29⟩).symm | exact (iif_f (fun h => c_29 h.2)).symm | exact (iif_f (fun h => qn h.1)).symm : bO = iif (bShC bO bF bE bZ bP bR bT talk room) (bPutO bO room) bO) (by first | exact (iif_t ⟨qv, c_29⟩).symm | exact (iif_f (fun h => c_29 h.2)).symm | exact (iif_f (fun h => qn h.1)).symm : bG = iif (bShC bO bF bE bZ bP bR bT talk room) (bPutG bO bG bC room) bG) rfl rfl rfl (by first | exact (iif_t ⟨qv, c_29⟩).symm | exact (iif_f (fun h => c_29 h.2)).symm | exact (iif_f (fun h => qn h.1)).symm : bP = iif (bShC bO bF bE bZ bP bR bT talk room) (u1 (u1 bP talk (-1)) talk room) bP) rfl rfl (by first | exact (iif_t ⟨qv, c_29⟩).symm | exact (iif_f (fun h => c_29 h.2)).symm | exact (iif_f (fun h => qn h.1)).symm : bT = iif (bShC bO bF bE bZ bP bR bT talk room) (bShT bF bE bP bT talk room) bT))
        have hP := vPe hP ew_3
        have hD := vDe hD ew_3
        exact x_retI (congrArg iI (by unfold bShV; rw [iif_t qv, iif_f c_29] : (-1000002) = bShV bO bF bE bZ bP bR bT talk room)) hend hP hD hS dX0_shift_34
    · have qn : ¬ (¬ bPl bP talk = -1 ∧ 0 ≤ room ∧ room ≤ 7) := by omega
      refine x_ldc hC (-1000001) tb_238 (by decide) dX0_shift_20 ?_
      have ew_4 : (wB h cs bO bG bF bE bZ bP bR bC bT) = (wB h cs (iif (bShC bO bF bE bZ bP bR bT talk room) (bPutO bO room) bO) (iif (bShC bO bF bE bZ bP bR bT talk room) (bPutG bO bG bC room) bG) bF bE bZ (iif (bShC bO bF bE bZ bP bR bT talk room) (u1 (u1 bP talk (-1)) talk room) bP) bR bC (iif (bShC bO bF bE bZ bP bR bT talk room) (bShT bF bE bP bT talk room) bT)) := (wBc (by first | exact (iif_t ⟨qv, c_29⟩).symm | exact (iif_f (fun h => c_29 h.2)).symm | exact (iif_f (fun h => qn h.1)).symm : bO = iif (bShC bO bF bE bZ bP bR bT talk room) (bPutO bO room) bO) (by first | exact (iif_t ⟨qv, c_29⟩).symm | exact (iif_f (fun h => c_29 h.2)).symm | exact (iif_f (fun h => qn h.1)).symm : bG = iif (bShC bO bF bE bZ bP bR bT talk room) (bPutG bO bG bC room) bG) rfl rfl rfl (by first | exact (iif_t ⟨qv, c_29⟩).symm | exact (iif_f (fun h => c_29 h.2)).symm | exact (iif_f (fun h => qn h.1)).symm : bP = iif (bShC bO bF bE bZ bP bR bT talk room) (u1 (u1 bP talk (-1)) talk room) bP) rfl rfl (by first | exact (iif_t ⟨qv, c_29⟩).symm | exact (iif_f (fun h => c_29 h.2)).symm | exact (iif_f (fun h => qn h.1)).symm : bT = iif (bShC bO bF bE bZ bP bR bT talk room) (bShT bF bE bP bT talk room) bT))
      have hP := vPe hP ew_4
      have hD := vDe hD ew_4
      exact x_retI (congrArg iI (by unfold bShV; rw [iif_f qn] : (-1000001) = bShV bO bF bE bZ bP bR bT talk room)) hend hP hD hS dX0_shift_22
abbrev r0_furnish : Room := { frames := 1, cells := 0, slots := 0, locals := 21 }
set_option maxHeartbeats 4000000 in
set_option maxRecDepth 100000 in
theorem k0_furnish (l : Launch) (D : va_G) (cs : Nat → ClassId) (h : Nat → Nat) (bO : Nat → Bool) (bG : Int → Int) (bF : Int → Int) (bE : Int → Int) (bZ : Int → Int) (bP : Int → Int) (bR : Int → Int) (bC : Int → Int) (bT : Int → Nat → Bool) (room : Int) (newSize : Int) (newPrice : Int) (hB : IB bF bE bZ bP bR bC) (g_room : -2147483648 ≤ room ∧ room ≤ 2147483647) (g_newSize : -2147483648 ≤ newSize ∧ newSize ≤ 2147483647) (g_newPrice : -2147483648 ≤ newPrice ∧ newPrice ≤ 2147483647) : CI l D cs yX0_furnish cX0_furnish 5 .int r0_furnish 0 0 [.ref (h 0), .int (iI room), .int (iI newSize), .int (iI newPrice)] (wB h cs bO bG bF bE bZ bP bR bC bT) (wB h cs bO bG bF bE bZ bP (iif (bFuC bO room newSize newPrice) (u1 bR room newSize) bR) (iif (bFuC bO room newSize newPrice) (u1 bC room newPrice) bC) bT) (iI (bFuV bO bR bC room newSize newPrice)) := by
  refine CI_start (own := RX0) (by decide) rfl rfl (Nat.le_of_ble_eq_true rfl) ?_
  intro p e s m args below meth c Q A ls hC hl hP hD hA hS hend
  have hl : lv_has ls 5 [(0, .ref (h 0)), (1, .int (iI room)), (2, .int (iI newSize)), (3, .int (iI newPrice))] := hl
  obtain ⟨H, hH⟩ : ∃ H : Heap, H = s.heap := ⟨_, rfl⟩
  have hS : va_S A s.heap H [] := by rw [hH]; exact hS
  rw [← hH] at hP
  obtain ⟨locs, hlocs⟩ : ∃ locs : List Loc, locs = [] := ⟨_, rfl⟩
  rw [← hlocs] at hS
  suffices hgo : W p l e r0_furnish s m args below meth c H locs 0 0 Q (F0 m 0 ls []) by rw [← hH, ← hlocs]; exact hgo
  clear hH hlocs
  refine x_il hC hl 1 dX0_furnish_0 rfl rfl ?_
  refine x_nI (As := [.int (iI room)]) hC (k4_isRoom l D cs room (by first | assumption | omega)) lk0_68 (sub_none hP hD hS hA) hP hS rfl hl.1 rfl (Nat.le_of_ble_eq_true rfl) ⟨rfl, rfl⟩ ⟨Nat.le_of_ble_eq_true rfl, Nat.le_of_ble_eq_true rfl⟩ ⟨Nat.le_of_ble_eq_true rfl, Nat.le_of_ble_eq_true rfl⟩ dX0_furnish_1 (fun H locs hP hD hS hHs => ?_)
  refine x_if_eq_b hC 25 dX0_furnish_4 (by decide) (fun c_4 => ?_) (fun c_4 => ?_)
  · have qn : ¬ ((0 ≤ room ∧ room ≤ 7) ∧ (1 ≤ newSize ∧ newSize ≤ 9) ∧ (1 ≤ newPrice ∧ newPrice ≤ 99)) := by omega
    refine x_ldc hC (-1000001) tb_238 (by decide) dX0_furnish_25 ?_
    have ew : (wB h cs bO bG bF bE bZ bP bR bC bT) = (wB h cs bO bG bF bE bZ bP (iif (bFuC bO room newSize newPrice) (u1 bR room newSize) bR) (iif (bFuC bO room newSize newPrice) (u1 bC room newPrice) bC) bT) := (wBc rfl rfl rfl rfl rfl rfl (by first | exact (iif_t ⟨qv, c_33⟩).symm | exact (iif_f (fun h => absurd c_33 h.2)).symm | exact (iif_f (fun h => qn h.1)).symm : bR = iif (bFuC bO room newSize newPrice) (u1 bR room newSize) bR) (by first | exact (iif_t ⟨qv, c_33⟩).symm | exact (iif_f (fun h => absurd c_33 h.2)).symm | exact (iif_f (fun h => qn h.1)).symm : bC = iif (bFuC bO room newSize newPrice) (u1 bC room newPrice) bC) rfl)
    have hP := vPe hP ew
    have hD := vDe hD ew
    exact x_retI (congrArg iI (by unfold bFuV; rw [iif_f qn] : (-1000001) = bFuV bO bR bC room newSize newPrice)) hend hP hD hS dX0_furnish_27
  · refine x_il hC hl 2 dX0_furnish_7 rfl rfl ?_
    refine x_nI (As := [.int (iI newSize)]) hC (k4_isSize l D cs newSize (by first | assumption | omega)) lk0_89 (sub_none hP hD hS hA) hP hS rfl hl.1 rfl (Nat.le_of_ble_eq_true rfl) ⟨rfl, rfl⟩ ⟨Nat.le_of_ble_eq_true rfl, Nat.le_of_ble_eq_true rfl⟩ ⟨Nat.le_of_ble_eq_true rfl, Nat.le_of_ble_eq_true rfl⟩ dX0_furnish_8 (fun H locs hP hD hS hHs => ?_)
    refine x_if_eq_b hC 25 dX0_furnish_11 (by decide) (fun c_11 => ?_) (fun c_11 => ?_)
    · have qn : ¬ ((0 ≤ room ∧ room ≤ 7) ∧ (1 ≤ newSize ∧ newSize ≤ 9) ∧ (1 ≤ newPrice ∧ newPrice ≤ 99)) := by omega
      refine x_ldc hC (-1000001) tb_238 (by decide) dX0_furnish_25 ?_
      have ew_2 : (wB h cs bO bG bF bE bZ bP bR bC bT) = (wB h cs bO bG bF bE bZ bP (iif (bFuC bO room newSize newPrice) (u1 bR room newSize) bR) (iif (bFuC bO room newSize newPrice) (u1 bC room newPrice) bC) bT) := (wBc rfl rfl rfl rfl rfl rfl (by first | exact (iif_t ⟨qv, c_33⟩).symm | exact (iif_f (fun h => absurd c_33 h.2)).symm | exact (iif_f (fun h => qn h.1)).symm : bR = iif (bFuC bO room newSize newPrice) (u1 bR room newSize) bR) (by first | exact (iif_t ⟨qv, c_33⟩).symm | exact (iif_f (fun h => absurd c_33 h.2)).symm | exact (iif_f (fun h => qn h.1)).symm : bC = iif (bFuC bO room newSize newPrice) (u1 bC room newPrice) bC) rfl)
      have hP := vPe hP ew_2
      have hD := vDe hD ew_2
      exact x_retI (congrArg iI (by unfold bFuV; rw [iif_f qn] : (-1000001) = bFuV bO bR bC room newSize newPrice)) hend hP hD hS dX0_furnish_27
    · refine x_il hC hl 3 dX0_furnish_14 rfl rfl ?_
      refine x_ic hC dX0_furnish_15 ?_
      refine x_ic_lt hC 25 dX0_furnish_16 (by decide) (by omega) (by omega) (fun c_16 => ?_) (fun c_16 => ?_)
      · have qn : ¬ ((0 ≤ room ∧ room ≤ 7) ∧ (1 ≤ newSize ∧ newSize ≤ 9) ∧ (1 ≤ newPrice ∧ newPrice ≤ 99)) := by omega
        refine x_ldc hC (-1000001) tb_238 (by decide) dX0_furnish_25 ?_
        have ew_3 : (wB h cs bO bG bF bE bZ bP bR bC bT) = (wB h cs bO bG bF bE bZ bP (iif (bFuC bO room newSize newPrice) (u1 bR room newSize) bR) (iif (bFuC bO room newSize newPrice) (u1 bC room newPrice) bC) bT) := (wBc rfl rfl rfl rfl rfl rfl (by first | exact (iif_t ⟨qv, c_33⟩).symm | exact (iif_f (fun h => absurd c_33 h.2)).symm | exact (iif_f (fun h => qn h.1)).symm : bR = iif (bFuC bO room newSize newPrice) (u1 bR room newSize) bR) (by first | exact (iif_t ⟨qv, c_33⟩).symm | exact (iif_f (fun h => absurd c_33 h.2)).symm | exact (iif_f (fun h => qn h.1)).symm : bC = iif (bFuC bO room newSize newPrice) (u1 bC room newPrice) bC) rfl)
        have hP := vPe hP ew_3
        have hD := vDe hD ew_3
        exact x_retI (congrArg iI (by unfold bFuV; rw [iif_f qn] : (-1000001) = bFuV bO bR bC room newSize newPrice)) hend hP hD hS dX0_furnish_27
      · refine x_il hC hl 3 dX0_furnish_19 rfl rfl ?_
        refine x_bi hC dX0_furnish_20 (by decide) ?_
        refine x_ic_le hC 28 dX0_furnish_22 (by decide) (by omega) (by omega) (fun c_22 => ?_) (fun c_22 => ?_)
        · have qv : (0 ≤ room ∧ room ≤ 7) ∧ (1 ≤ newSize ∧ newSize ≤ 9) ∧ (1 ≤ newPrice ∧ newPrice ≤ 99) := by omega
          refine x_al hC hl 0 dX0_furnish_28 rfl rfl ?_
          refine x_il hC hl 1 dX0_furnish_29 rfl rfl ?_
          refine x_vI (As := [.int (iI room)]) hC (k0_isOpen l D cs h bO bG bF bE bZ bP bR bC bT room (by first | assumption | omega)) lk0_92 (q0 := 0) (ci := 0) rfl rfl rfl (sub_all hP hD hS hA) hP hS rfl hl.1 rfl (Nat.le_of_ble_eq_true rfl) ⟨rfl, rfl⟩ ⟨Nat.le_of_ble_eq_true rfl, Nat.le_of_ble_eq_true rfl⟩ ⟨Nat.le_of_ble_eq_true rfl, Nat.le_of_ble_eq_true rfl⟩ dX0_furnish_30 (fun H locs hP hD hS hHs => ?_)
          refine x_if_eq_b hC 39 dX0_furnish_33 (by decide) (fun c_33 => ?_) (fun c_33 => ?_)
          · refine x_bi hC dX0_furnish_39 (by decide) ?_
            refine x_al hC hl 0 dX0_furnish_41 rfl rfl ?_
            refine x_get0 (v := .ref (h 5)) hC hP 0 rfl 4 (by decide) tb_100 rfl rfl dX0_furnish_42 ?_
            refine x_il hC hl 1 dX0_furnish_45 rfl rfl ?_
            refine x_iald hC hP 5 rfl (by omega) (by decide) dX0_furnish_46 ?_
            refine x_imul hC dX0_furnish_47 ?_
            refine x_al hC hl 0 dX0_furnish_48 rfl rfl ?_
            refine x_get0 (v := .ref (h 6)) hC hP 0 rfl 5 (by decide) tb_101 rfl rfl dX0_furnish_49 ?_
            refine x_il hC hl 1 dX0_furnish_52 rfl rfl ?_
            refine x_iald hC hP 6 rfl (by omega) (by decide) dX0_furnish_53 ?_
            refine x_iadd hC dX0_furnish_54 ?_
            refine x_isw hC [(4, .int (iI ((100 * (bR room)) + (bC room)))), (0, .ref (h 0)), (1, .int (iI room)), (2, .int (iI newSize)), (3, .int (iI newPrice))] hl dX0_furnish_55 (by decide) rfl (fun ls hl => ?_)
            refine x_al hC hl 1 dX0_furnish_57 rfl rfl ?_
            refine x_get0 (v := .ref (h 5)) hC hP 0 rfl 4 (by decide) tb_100 rfl rfl dX0_furnish_58 ?_
            refine x_il hC hl 2 dX0_furnish_61 rfl rfl ?_
            refine x_il hC hl 3 dX0_furnish_62 rfl rfl ?_
            refine x_iast hC hP hD hS 5 rfl (by omega) (by decide) dX0_furnish_63 (fun H locs hP hD hS => ?_)
            have hP : va_P D vwCl (wB h cs bO bG bF bE bZ bP (u1 bR room newSize) bC bT) H := hP
            have hD : va_D A (wB h cs bO bG bF bE bZ bP (u1 bR room newSize) bC bT) := hD
            refine x_al hC hl 1 dX0_furnish_64 rfl rfl ?_
            refine x_get0 (v := .ref (h 6)) hC hP 0 rfl 5 (by decide) tb_101 rfl rfl dX0_furnish_65 ?_
            refine x_il hC hl 2 dX0_furnish_68 rfl rfl ?_
            refine x_il hC hl 4 dX0_furnish_69 rfl rfl ?_
            refine x_iast hC hP hD hS 6 rfl (by omega) (by decide) dX0_furnish_70 (fun H locs hP hD hS => ?_)
            have hP : va_P D vwCl (wB h cs bO bG bF bE bZ bP (u1 bR room newSize) (u1 bC room newPrice) bT) H := hP
            have hD : va_D A (wB h cs bO bG bF bE bZ bP (u1 bR room newSize) (u1 bC room newPrice) bT) := hD
            refine x_ilw hC hl 0 dX0_furnish_71 rfl ?_
            have ew_4 : (wB h cs bO bG bF bE bZ bP (u1 bR room newSize) (u1 bC room newPrice) bT) = (wB h cs bO bG bF bE bZ bP (iif (bFuC bO room newSize newPrice) (u1 bR room newSize) bR) (iif (bFuC bO room newSize newPrice) (u1 bC room newPrice) bC) bT) := (wBc rfl rfl rfl rfl rfl rfl (by first | exact (iif_t ⟨qv, c_33⟩).symm | exact (iif_f (fun h => absurd c_33 h.2)).symm | exact (iif_f (fun h => qn h.1)).symm : u1 bR room newSize = iif (bFuC bO room newSize newPrice) (u1 bR room newSize) bR) (by first | exact (iif_t ⟨qv, c_33⟩).symm | exact (iif_f (fun h => absurd c_33 h.2)).symm | exact (iif_f (fun h => qn h.1)).symm : u1 bC room newPrice = iif (bFuC bO room newSize newPrice) (u1 bC room newPrice) bC) rfl)
            have hP := vPe hP ew_4
            have hD := vDe hD ew_4
            exact x_retI (congrArg iI (by unfold bFuV; rw [iif_t qv, iif_f c_33] : (100 * (bR room)) + (bC room) = bFuV bO bR bC room newSize newPrice)) hend hP hD hS dX0_furnish_73
          · refine x_ldc hC (-1000002) tb_275 (by decide) dX0_furnish_36 ?_
            have ew_5 : (wB h cs bO bG bF bE bZ bP bR bC bT) = (wB h cs bO bG bF bE bZ bP (iif (bFuC bO room newSize newPrice) (u1 bR room newSize) bR) (iif (bFuC bO room newSize newPrice) (u1 bC room newPrice) bC) bT) := (wBc rfl rfl rfl rfl rfl rfl (by first | exact (iif_t ⟨qv, c_33⟩).symm | exact (iif_f (fun h => absurd c_33 h.2)).symm | exact (iif_f (fun h => qn h.1)).symm : bR = iif (bFuC bO room newSize newPrice) (u1 bR room newSize) bR) (by first | exact (iif_t ⟨qv, c_33⟩).symm | exact (iif_f (fun h => absurd c_33 h.2)).symm | exact (iif_f (fun h => qn h.1)).symm : bC = iif (bFuC bO room newSize newPrice) (u1 bC room newPrice) bC) rfl)
            have hP := vPe hP ew_5
            have hD := vDe hD ew_5
            exact x_retI (congrArg iI (by unfold bFuV; rw [iif_t qv, iif_t c_33] : (-1000002) = bFuV bO bR bC room newSize newPrice)) hend hP hD hS dX0_furnish_38
        · have qn : ¬ ((0 ≤ room ∧ room ≤ 7) ∧ (1 ≤ newSize ∧ newSize ≤ 9) ∧ (1 ≤ newPrice ∧ newPrice ≤ 99)) := by omega
          refine x_ldc hC (-1000001) tb_238 (by decide) dX0_furnish_25 ?_
          have ew_6 : (wB h cs bO bG bF bE bZ bP bR bC bT) = (wB h cs bO bG bF bE bZ bP (iif (bFuC bO room newSize newPrice) (u1 bR room newSize) bR) (iif (bFuC bO room newSize newPrice) (u1 bC room newPrice) bC) bT) := (wBc rfl rfl rfl rfl rfl rfl (by first | exact (iif_t ⟨qv, c_33⟩).symm | exact (iif_f (fun h => absurd c_33 h.2)).symm | exact (iif_f (fun h => qn h.1)).symm : bR = iif (bFuC bO room newSize newPrice) (u1 bR room newSize) bR) (by first | exact (iif_t ⟨qv, c_33⟩).symm | exact (iif_f (fun h => absurd c_33 h.2)).symm | exact (iif_f (fun h => qn h.1)).symm : bC = iif (bFuC bO room newSize newPrice) (u1 bC room newPrice) bC) rfl)
          have hP := vPe hP ew_6
          have hD := vDe hD ew_6
          exact x_retI (congrArg iI (by unfold bFuV; rw [iif_f qn] : (-1000001) = bFuV bO bR bC room newSize newPrice)) hend hP hD hS dX0_furnish_27
abbrev r0_shut : Room := { frames := 2, cells := 0, slots := 0, locals := 40 }
set_option maxHeartbeats 4000000 in
set_option maxRecDepth 100000 in
theorem k0_shut (l : Launch) (D : va_G) (cs : Nat → ClassId) (h : Nat → Nat) (bO : Nat → Bool) (bG : Int → Int) (bF : Int → Int) (bE : Int → Int) (bZ : Int → Int) (bP : Int → Int) (bR : Int → Int) (bC : Int → Int) (bT : Int → Nat → Bool) (room : Int) (g_room : -2147483648 ≤ room ∧ room ≤ 2147483647) : CI l D cs yX0_shut cX0_shut 2 .int r0_shut 0 0 [.ref (h 0), .int (iI room)] (wB h cs bO bG bF bE bZ bP bR bC bT) (wB h cs (iif ((0 ≤ room ∧ room ≤ 7) ∧ bCl bO bT room) (oClr bO room) bO) bG bF bE bZ bP bR bC bT) (iI (iif (0 ≤ room ∧ room ≤ 7) (iif (bCl bO bT room) ((cntN (oClr bO room) 8 : Nat) : Int) (-1000002)) (-1000001))) := by
  refine CI_start (own := RX0) (by decide) rfl rfl (Nat.le_of_ble_eq_true rfl) ?_
  intro p e s m args below meth c Q A ls hC hl hP hD hA hS hend
  have hl : lv_has ls 2 [(0, .ref (h 0)), (1, .int (iI room))] := hl
  obtain ⟨H, hH⟩ : ∃ H : Heap, H = s.heap := ⟨_, rfl⟩
  have hS : va_S A s.heap H [] := by rw [hH]; exact hS
  rw [← hH] at hP
  obtain ⟨locs, hlocs⟩ : ∃ locs : List Loc, locs = [] := ⟨_, rfl⟩
  rw [← hlocs] at hS
  suffices hgo : W p l e r0_shut s m args below meth c H locs 0 0 Q (F0 m 0 ls []) by rw [← hH, ← hlocs]; exact hgo
  clear hH hlocs
  refine x_il hC hl 1 dX0_shut_0 rfl rfl ?_
  refine x_nI (As := [.int (iI room)]) hC (k4_isRoom l D cs room (by first | assumption | omega)) lk0_68 (sub_none hP hD hS hA) hP hS rfl hl.1 rfl (Nat.le_of_ble_eq_true rfl) ⟨rfl, rfl⟩ ⟨Nat.le_of_ble_eq_true rfl, Nat.le_of_ble_eq_true rfl⟩ ⟨Nat.le_of_ble_eq_true rfl, Nat.le_of_ble_eq_true rfl⟩ dX0_shut_1 (fun H locs hP hD hS hHs => ?_)
  refine x_if_ne_b hC 10 dX0_shut_4 (by decide) (fun c_4 => ?_) (fun c_4 => ?_)
  · refine x_al hC hl 0 dX0_shut_10 rfl rfl ?_
    refine x_il hC hl 1 dX0_shut_11 rfl rfl ?_
    refine x_vI (As := [.int (iI room)]) hC (k0_isOpen l D cs h bO bG bF bE bZ bP bR bC bT room (by first | assumption | omega)) lk0_92 (q0 := 0) (ci := 0) rfl rfl rfl (sub_all hP hD hS hA) hP hS rfl hl.1 rfl (Nat.le_of_ble_eq_true rfl) ⟨rfl, rfl⟩ ⟨Nat.le_of_ble_eq_true rfl, Nat.le_of_ble_eq_true rfl⟩ ⟨Nat.le_of_ble_eq_true rfl, Nat.le_of_ble_eq_true rfl⟩ dX0_shut_12 (fun H locs hP hD hS hHs => ?_)
    refine x_if_eq_b hC 29 dX0_shut_15 (by decide) (fun c_15 => ?_) (fun c_15 => ?_)
    · refine x_ldc hC (-1000002) tb_275 (by decide) dX0_shut_29 ?_
      have ew : (wB h cs bO bG bF bE bZ bP bR bC bT) = (wB h cs (iif ((0 ≤ room ∧ room ≤ 7) ∧ bCl bO bT room) (oClr bO room) bO) bG bF bE bZ bP bR bC bT) := (wBc (by first | exact (iif_t ⟨c_4, c_15, c_26⟩).symm | exact (iif_f (fun h => c_26 h.2.2)).symm | exact (iif_f (fun h => c_15 h.2.1)).symm | exact (iif_f (fun h => c_4 h.1)).symm : bO = iif ((0 ≤ room ∧ room ≤ 7) ∧ bCl bO bT room) (oClr bO room) bO) rfl rfl rfl rfl rfl rfl rfl rfl)
      have hP := vPe hP ew
      have hD := vDe hD ew
      exact x_retI (congrArg iI (by rw [iif_t c_4]; first | exact (iif_f (fun h => c_26 h.2)).symm | exact (iif_f (fun h => c_15 h.1)).symm : (-1000002) = iif (0 ≤ room ∧ room ≤ 7) (iif (bCl bO bT room) ((cntN (oClr bO room) 8 : Nat) : Int) (-1000002)) (-1000001))) hend hP hD hS dX0_shut_31
    · refine x_al hC hl 0 dX0_shut_18 rfl rfl ?_
      refine x_get0 (v := .ref (h 7)) hC hP 0 rfl 6 (by decide) tb_102 rfl rfl dX0_shut_19 ?_
      refine x_il hC hl 1 dX0_shut_22 rfl rfl ?_
      refine x_lald hC hP 7 rfl (by omega) (by decide) dX0_shut_23 ?_
      refine x_lc (v := 0) hC dX0_shut_24 rfl ?_
      refine W.lcmp hC.1 hC.2.1 dX0_shut_25 ?_
      refine lv_if_eq (tgt := 32) hC.1 hC.2.1 dX0_shut_26 (by decide) (fun c_26 => ?_) (fun c_26 => ?_)
      · rw [lz] at c_26
        refine x_al hC hl 0 dX0_shut_32 rfl rfl ?_
        refine x_dup hC dX0_shut_33 rfl ?_
        refine x_get0 (v := .int (nI (mkN bO 8))) hC hP 0 rfl 7 (by decide) tb_103 rfl rfl dX0_shut_34 ?_
        refine x_ic hC dX0_shut_37 ?_
        refine x_il hC hl 1 dX0_shut_38 rfl rfl ?_
        refine x_ishl hC dX0_shut_39 (iI 1 <<< (iI room &&& 31)) rfl ?_
        refine x_ic hC dX0_shut_40 ?_
        refine x_ixor hC dX0_shut_41 ((iI 1 <<< (iI room &&& 31)) ^^^ iI (-1)) rfl ?_
        refine x_iand hC dX0_shut_42 (nI (mkN (oClr bO room) 8)) (opClr bO room (by omega)) ?_
        refine x_put0_7 (o' := oClr bO room) hC hP hD hS 0 rfl tb_103 dX0_shut_43 (fun H locs hP hD hS => ?_)
        have hP : va_P D vwCl (wB h cs (oClr bO room) bG bF bE bZ bP bR bC bT) H := hP
        have hD : va_D A (wB h cs (oClr bO room) bG bF bE bZ bP bR bC bT) := hD
        refine x_al hC hl 0 dX0_shut_46 rfl rfl ?_
        refine x_vI (As := []) hC (k0_openRooms l D cs h (oClr bO room) bG bF bE bZ bP bR bC bT ) lk0_95 (q0 := 0) (ci := 0) rfl rfl rfl (sub_all hP hD hS hA) hP hS rfl hl.1 rfl (Nat.le_of_ble_eq_true rfl) ⟨rfl, rfl⟩ ⟨Nat.le_of_ble_eq_true rfl, Nat.le_of_ble_eq_true rfl⟩ ⟨Nat.le_of_ble_eq_true rfl, Nat.le_of_ble_eq_true rfl⟩ dX0_shut_47 (fun H locs hP hD hS hHs => ?_)
        have q_47 := cntN_le (oClr bO room) 8
        have ew_2 : (wB h cs (oClr bO room) bG bF bE bZ bP bR bC bT) = (wB h cs (iif ((0 ≤ room ∧ room ≤ 7) ∧ bCl bO bT room) (oClr bO room) bO) bG bF bE bZ bP bR bC bT) := (wBc (by first | exact (iif_t ⟨c_4, c_15, c_26⟩).symm | exact (iif_f (fun h => c_26 h.2.2)).symm | exact (iif_f (fun h => c_15 h.2.1)).symm | exact (iif_f (fun h => c_4 h.1)).symm : oClr bO room = iif ((0 ≤ room ∧ room ≤ 7) ∧ bCl bO bT room) (oClr bO room) bO) rfl rfl rfl rfl rfl rfl rfl rfl)
        have hP := vPe hP ew_2
        have hD := vDe hD ew_2
        exact x_retI (congrArg iI (by rw [iif_t c_4]; exact (iif_t ⟨c_15, c_26⟩).symm : ((cntN (oClr bO room) 8 : Nat) : Int) = iif (0 ≤ room ∧ room ≤ 7) (iif (bCl bO bT room) ((cntN (oClr bO room) 8 : Nat) : Int) (-1000002)) (-1000001))) hend hP hD hS dX0_shut_50
      · rw [lz] at c_26
        refine x_ldc hC (-1000002) tb_275 (by decide) dX0_shut_29 ?_
        have ew_3 : (wB h cs bO bG bF bE bZ bP bR bC bT) = (wB h cs (iif ((0 ≤ room ∧ room ≤ 7) ∧ bCl bO bT room) (oClr bO room) bO) bG bF bE bZ bP bR bC bT) := (wBc (by first | exact (iif_t ⟨c_4, c_15, c_26⟩).symm | exact (iif_f (fun h => c_26 h.2.2)).symm | exact (iif_f (fun h => c_15 h.2.1)).symm | exact (iif_f (fun h => c_4 h.1)).symm : bO = iif ((0 ≤ room ∧ room ≤ 7) ∧ bCl bO bT room) (oClr bO room) bO) rfl rfl rfl rfl rfl rfl rfl rfl)
        have hP := vPe hP ew_3
        have hD := vDe hD ew_3
        exact x_retI (congrArg iI (by rw [iif_t c_4]; first | exact (iif_f (fun h => c_26 h.2)).symm | exact (iif_f (fun h => c_15 h.1)).symm : (-1000002) = iif (0 ≤ room ∧ room ≤ 7) (iif (bCl bO bT room) ((cntN (oClr bO room) 8 : Nat) : Int) (-1000002)) (-1000001))) hend hP hD hS dX0_shut_31
  · refine x_ldc hC (-1000001) tb_238 (by decide) dX0_shut_7 ?_
    have ew_4 : (wB h cs bO bG bF bE bZ bP bR bC bT) = (wB h cs (iif ((0 ≤ room ∧ room ≤ 7) ∧ bCl bO bT room) (oClr bO room) bO) bG bF bE bZ bP bR bC bT) := (wBc (by first | exact (iif_t ⟨c_4, c_15, c_26⟩).symm | exact (iif_f (fun h => c_26 h.2.2)).symm | exact (iif_f (fun h => c_15 h.2.1)).symm | exact (iif_f (fun h => c_4 h.1)).symm : bO = iif ((0 ≤ room ∧ room ≤ 7) ∧ bCl bO bT room) (oClr bO room) bO) rfl rfl rfl rfl rfl rfl rfl rfl)
    have hP := vPe hP ew_4
    have hD := vDe hD ew_4
    exact x_retI (congrArg iI (by exact (iif_f c_4).symm : (-1000001) = iif (0 ≤ room ∧ room ≤ 7) (iif (bCl bO bT room) ((cntN (oClr bO room) 8 : Nat) : Int) (-1000002)) (-1000001))) hend hP hD hS dX0_shut_9
abbrev r0_chooseRule : Room := { frames := 1, cells := 0, slots := 0, locals := 20 }
set_option maxHeartbeats 4000000 in
set_option maxRecDepth 100000 in
theorem k0_chooseRule (l : Launch) (D : va_G) (cs : Nat → ClassId) (h : Nat → Nat) (bO : Nat → Bool) (bG : Int → Int) (bF : Int → Int) (bE : Int → Int) (bZ : Int → Int) (bP : Int → Int) (bR : Int → Int) (bC : Int → Int) (bT : Int → Nat → Bool) (newRule : Int) (g_newRule : -2147483648 ≤ newRule ∧ newRule ≤ 2147483647) : CI l D cs yX0_chooseRule cX0_chooseRule 3 .int r0_chooseRule 0 0 [.ref (h 0), .int (iI newRule)] (wB h cs bO bG bF bE bZ bP bR bC bT) (wB h cs bO (iif (0 ≤ newRule ∧ newRule ≤ 3) (u1 bG 12 newRule) bG) bF bE bZ bP bR bC bT) (iI (iif (0 ≤ newRule ∧ newRule ≤ 3) ((bG 12)) (-1000001))) := by
  refine CI_start (own := RX0) (by decide) rfl rfl (Nat.le_of_ble_eq_true rfl) ?_
  intro p e s m args below meth c Q A ls hC hl hP hD hA hS hend
  have hl : lv_has ls 3 [(0, .ref (h 0)), (1, .int (iI newRule))] := hl
  obtain ⟨H, hH⟩ : ∃ H : Heap, H = s.heap := ⟨_, rfl⟩
  have hS : va_S A s.heap H [] := by rw [hH]; exact hS
  rw [← hH] at hP
  obtain ⟨locs, hlocs⟩ : ∃ locs : List Loc, locs = [] := ⟨_, rfl⟩
  rw [← hlocs] at hS
  suffices hgo : W p l e r0_chooseRule s m args below meth c H locs 0 0 Q (F0 m 0 ls []) by rw [← hH, ← hlocs]; exact hgo
  clear hH hlocs
  refine x_il hC hl 1 dX0_chooseRule_0 rfl rfl ?_
  refine x_nI (As := [.int (iI newRule)]) hC (k4_isRule l D cs newRule (by first | assumption | omega)) lk0_99 (sub_none hP hD hS hA) hP hS rfl hl.1 rfl (Nat.le_of_ble_eq_true rfl) ⟨rfl, rfl⟩ ⟨Nat.le_of_ble_eq_true rfl, Nat.le_of_ble_eq_true rfl⟩ ⟨Nat.le_of_ble_eq_true rfl, Nat.le_of_ble_eq_true rfl⟩ dX0_chooseRule_1 (fun H locs hP hD hS hHs => ?_)
  refine x_if_ne_b hC 10 dX0_chooseRule_4 (by decide) (fun c_4 => ?_) (fun c_4 => ?_)
  · refine x_al hC hl 0 dX0_chooseRule_10 rfl rfl ?_
    refine x_get0 (v := .int (iI (bG 12))) hC hP 0 rfl 12 (by decide) tb_108 rfl rfl dX0_chooseRule_11 ?_
    refine x_is hC [(2, .int (iI (bG 12))), (0, .ref (h 0)), (1, .int (iI newRule))] hl dX0_chooseRule_14 rfl (by decide) rfl (fun ls hl => ?_)
    refine x_al hC hl 1 dX0_chooseRule_15 rfl rfl ?_
    refine x_il hC hl 2 dX0_chooseRule_16 rfl rfl ?_
    refine x_put0_12 hC hP hD hS 0 rfl tb_108 dX0_chooseRule_17 (fun H locs hP hD hS => ?_)
    have hP : va_P D vwCl (wB h cs bO (u1 bG 12 newRule) bF bE bZ bP bR bC bT) H := hP
    have hD : va_D A (wB h cs bO (u1 bG 12 newRule) bF bE bZ bP bR bC bT) := hD
    refine x_il hC hl 0 dX0_chooseRule_20 rfl rfl ?_
    have ew : (wB h cs bO (u1 bG 12 newRule) bF bE bZ bP bR bC bT) = (wB h cs bO (iif (0 ≤ newRule ∧ newRule ≤ 3) (u1 bG 12 newRule) bG) bF bE bZ bP bR bC bT) := (wBc rfl (by first | exact (iif_t c_4).symm | exact (iif_f c_4).symm : u1 bG 12 newRule = iif (0 ≤ newRule ∧ newRule ≤ 3) (u1 bG 12 newRule) bG) rfl rfl rfl rfl rfl rfl rfl)
    have hP := vPe hP ew
    have hD := vDe hD ew
    exact x_retI (congrArg iI (by first | exact (iif_t c_4).symm | exact (iif_f c_4).symm : bG 12 = iif (0 ≤ newRule ∧ newRule ≤ 3) ((bG 12)) (-1000001))) hend hP hD hS dX0_chooseRule_21
  · refine x_ldc hC (-1000001) tb_238 (by decide) dX0_chooseRule_7 ?_
    have ew_2 : (wB h cs bO bG bF bE bZ bP bR bC bT) = (wB h cs bO (iif (0 ≤ newRule ∧ newRule ≤ 3) (u1 bG 12 newRule) bG) bF bE bZ bP bR bC bT) := (wBc rfl (by first | exact (iif_t c_4).symm | exact (iif_f c_4).symm : bG = iif (0 ≤ newRule ∧ newRule ≤ 3) (u1 bG 12 newRule) bG) rfl rfl rfl rfl rfl rfl rfl)
    have hP := vPe hP ew_2
    have hD := vDe hD ew_2
    exact x_retI (congrArg iI (by first | exact (iif_t c_4).symm | exact (iif_f c_4).symm : (-1000001) = iif (0 ≤ newRule ∧ newRule ≤ 3) ((bG 12)) (-1000001))) hend hP hD hS dX0_chooseRule_9
abbrev r0_tellAnew : Room := { frames := 3, cells := 0, slots := 0, locals := 78 }
set_option maxHeartbeats 4000000 in
set_option maxRecDepth 100000 in
theorem k0_tellAnew (l : Launch) (D : va_G) (cs : Nat → ClassId) (h : Nat → Nat) (bO : Nat → Bool) (bG : Int → Int) (bF : Int → Int) (bE : Int → Int) (bZ : Int → Int) (bP : Int → Int) (bR : Int → Int) (bC : Int → Int) (bT : Int → Nat → Bool) (byRule : Int) (hB : IB bF bE bZ bP bR bC) (h3 : 0 ≤ byRule ∧ byRule ≤ 3) : CI l D cs yX0_tellAnew cX0_tellAnew 5 .int r0_tellAnew 0 0 [.ref (h 0), .int (iI byRule)] (wB h cs bO bG bF bE bZ bP bR bC bT) (wB h cs ((bAnew bF bE bZ bR bC bG bP bT byRule).2.1) ((bAnew bF bE bZ bR bC bG bP bT byRule).2.2.1) bF bE bZ ((bAnew bF bE bZ bR bC bG bP bT byRule).2.2.2.1) bR bC ((bAnew bF bE bZ bR bC bG bP bT byRule).2.2.2.2)) (iI (iif (bAnew bF bE bZ bR bC bG bP bT byRule).1 ((bAnew bF bE bZ bR bC bG bP bT byRule).2.2.1 11) (-1000002))) := by
  refine CI_start (own := RX0) (by decide) rfl rfl (Nat.le_of_ble_eq_true rfl) ?_
  intro p e s m args below meth c Q A ls hC hl hP hD hA hS hend
  have hl : lv_has ls 5 [(0, .ref (h 0)), (1, .int (iI byRule))] := hl
  obtain ⟨H, hH⟩ : ∃ H : Heap, H = s.heap := ⟨_, rfl⟩
  have hS : va_S A s.heap H [] := by rw [hH]; exact hS
  rw [← hH] at hP
  obtain ⟨locs, hlocs⟩ : ∃ locs : List Loc, locs = [] := ⟨_, rfl⟩
  rw [← hlocs] at hS
  suffices hgo : W p l e r0_tellAnew s m args below meth c H locs 0 0 Q (F0 m 0 ls []) by rw [← hH, ← hlocs]; exact hgo
  clear hH hlocs
  refine x_al hC hl 0 dX0_tellAnew_0 rfl rfl ?_
  refine x_vV (As := []) hC (k0_forgetRooms l D cs h bO bG bF bE bZ bP bR bC bT ) lk0_102 (q0 := 0) (ci := 0) rfl rfl rfl (sub_all hP hD hS hA) hP hS rfl hl.1 rfl (Nat.le_of_ble_eq_true rfl) ⟨rfl, rfl⟩ ⟨Nat.le_of_ble_eq_true rfl, Nat.le_of_ble_eq_true rfl⟩ ⟨Nat.le_of_ble_eq_true rfl, Nat.le_of_ble_eq_true rfl⟩ dX0_tellAnew_1 (fun H locs hP hD hS hHs => ?_)
  have hP : va_P D vwCl (wB h cs (fun _ => false) (u1 bG 11 0) bF bE bZ bP bR bC (bZero bT)) H := hP
  have hD : va_D A (wB h cs (fun _ => false) (u1 bG 11 0) bF bE bZ bP bR bC (bZero bT)) := hD
  refine x_ic hC dX0_tellAnew_4 ?_
  refine x_is hC [(2, .int (iI 0)), (0, .ref (h 0)), (1, .int (iI byRule))] hl dX0_tellAnew_5 rfl (by decide) rfl (fun ls hl => ?_)
  have loop_6 : ∀ (n : Nat) (i : Int) (xO : Nat → Bool) (xG : Int → Int) (xP : Int → Int) (xT : Int → Nat → Bool), (hi0 : 0 ≤ i) → (hiN : i ≤ 48) → (hI : IB bF bE bZ xP bR bC) → (hf : bScan bF bE bZ bR bC byRule (960 - 20 * i).toNat (20 * i) xO xG xP xT = bAnew bF bE bZ bR bC bG bP bT byRule) → (48 - i) < (n : Int) → ∀ (H : Heap) (locs : List Loc) (ls : Array Slot), va_P D vwCl (wB h cs xO xG bF bE bZ xP bR bC xT) H → va_D A (wB h cs xO xG bF bE bZ xP bR bC xT) → va_S A s.heap H locs → lv_has ls 5 [(2, .int (iI i)), (0, .ref (h 0)), (1, .int (iI byRule))] → W p l e r0_tellAnew s m args below meth c H locs 0 0 Q (F0 m 6 ls []) := by
    intro n
    induction n with
    | zero =>
      intro i xO xG xP xT hi0 hiN hI hf hnn
      exfalso; omega
    | succ n ih_6 =>
      intro i xO xG xP xT hi0 hiN hI hf hnn H locs ls hP hD hS hl
      refine x_il hC hl 0 dX0_tellAnew_6 rfl rfl ?_
      refine x_bi hC dX0_tellAnew_7 (by decide) ?_
      refine x_ic_ge hC 90 dX0_tellAnew_9 (by decide) (by omega) (by omega) (fun c_9 => ?_) (fun c_9 => ?_)
      · have hi48 : i = 48 := by omega
        have hgf : (True, xO, xG, xP, xT) = bAnew bF bE bZ bR bC bG bP bT byRule := by rw [← hf, hi48]; rfl
        refine x_al hC hl 1 dX0_tellAnew_90 rfl rfl ?_
        refine x_get0 (v := .int (iI (xG 11))) hC hP 0 rfl 11 (by decide) tb_107 rfl rfl dX0_tellAnew_91 ?_
        have ew : (wB h cs xO xG bF bE bZ xP bR bC xT) = (wB h cs ((bAnew bF bE bZ bR bC bG bP bT byRule).2.1) ((bAnew bF bE bZ bR bC bG bP bT byRule).2.2.1) bF bE bZ ((bAnew bF bE bZ bR bC bG bP bT byRule).2.2.2.1) bR bC ((bAnew bF bE bZ bR bC bG bP bT byRule).2.2.2.2)) := (wBc (by rw [← hgf] : xO = (bAnew bF bE bZ bR bC bG bP bT byRule).2.1) (by rw [← hgf] : xG = (bAnew bF bE bZ bR bC bG bP bT byRule).2.2.1) rfl rfl rfl (by rw [← hgf] : xP = (bAnew bF bE bZ bR bC bG bP bT byRule).2.2.2.1) rfl rfl (by rw [← hgf] : xT = (bAnew bF bE bZ bR bC bG bP bT byRule).2.2.2.2))
        have hP := vPe hP ew
        have hD := vDe hD ew
        exact x_retI (congrArg iI (by rw [← hgf]; exact (iif_t trivial).symm : xG 11 = iif (bAnew bF bE bZ bR bC bG bP bT byRule).1 ((bAnew bF bE bZ bR bC bG bP bT byRule).2.2.1 11) (-1000002))) hend hP hD hS dX0_tellAnew_94
      · refine x_ic hC dX0_tellAnew_12 ?_
        refine x_is hC [(3, .int (iI 0)), (2, .int (iI i)), (0, .ref (h 0)), (1, .int (iI byRule))] hl dX0_tellAnew_13 rfl (by decide) rfl (fun ls hl => ?_)
        have loop_14 : ∀ (n : Nat) (j : Int) (yO : Nat → Bool) (yG : Int → Int) (yP : Int → Int) (yT : Int → Nat → Bool), (hj0 : 0 ≤ j) → (hjN : j ≤ 20) → (hJ : IB bF bE bZ yP bR bC) → (hg : bScan bF bE bZ bR bC byRule (960 - (20 * i + j)).toNat (20 * i + j) yO yG yP yT = bAnew bF bE bZ bR bC bG bP bT byRule) → (20 - j) < (n : Int) → ∀ (H : Heap) (locs : List Loc) (ls : Array Slot), va_P D vwCl (wB h cs yO yG bF bE bZ yP bR bC yT) H → va_D A (wB h cs yO yG bF bE bZ yP bR bC yT) → va_S A s.heap H locs → lv_has ls 5 [(3, .int (iI j)), (2, .int (iI i)), (0, .ref (h 0)), (1, .int (iI byRule))] → W p l e r0_tellAnew s m args below meth c H locs 0 0 Q (F0 m 14 ls []) := by
          intro n
          induction n with
          | zero =>
            intro j yO yG yP yT hj0 hjN hJ hg hnn
            exfalso; omega
          | succ n ih_14 =>
            intro j yO yG yP yT hj0 hjN hJ hg hnn H locs ls hP hD hS hl
            refine x_il hC hl 0 dX0_tellAnew_14 rfl rfl ?_
            refine x_bi hC dX0_tellAnew_15 (by decide) ?_
            refine x_ic_ge hC 84 dX0_tellAnew_17 (by decide) (by omega) (by omega) (fun c_17 => ?_) (fun c_17 => ?_)
            · refine x_iinc hC [(2, .int (iI (i + 1))), (3, .int (iI j)), (0, .ref (h 0)), (1, .int (iI byRule))] 1 hl dX0_tellAnew_84 rfl (by decide) rfl (fun ls hl => ?_)
              refine x_goto hC 6 dX0_tellAnew_87 (by decide) ?_
              have hl := lv_sub (l' := [(2, .int (iI (i + 1))), (0, .ref (h 0)), (1, .int (iI byRule))]) hl [0, 2, 3] rfl
              exact ih_6 (i + 1) yO yG yP yT (by omega) (by omega) hJ (by rw [← hg]; congr 1 <;> omega) (by omega) H locs ls hP hD hS hl
            · have qj := ibT hJ j (by omega)
              obtain ⟨qk, hqk⟩ : ∃ qk : Nat, (960 - (20 * i + j)).toNat = qk + 1 := ⟨(960 - (20 * i + j)).toNat - 1, by omega⟩
              rw [hqk] at hg
              refine x_al hC hl 2 dX0_tellAnew_20 rfl rfl ?_
              refine x_get0 (v := .ref (h 4)) hC hP 0 rfl 3 (by decide) tb_99 rfl rfl dX0_tellAnew_21 ?_
              refine x_il hC hl 0 dX0_tellAnew_24 rfl rfl ?_
              refine x_iald hC hP 4 rfl (by omega) (by decide) dX0_tellAnew_25 ?_
              refine x_ic hC dX0_tellAnew_26 ?_
              refine x_ic_eq hC 78 dX0_tellAnew_27 (by decide) (by omega) (by omega) (fun c_27 => ?_) (fun c_27 => ?_)
              · refine x_iinc hC [(3, .int (iI (j + 1))), (2, .int (iI i)), (0, .ref (h 0)), (1, .int (iI byRule))] 0 hl dX0_tellAnew_78 rfl (by decide) rfl (fun ls hl => ?_)
                refine x_goto hC 14 dX0_tellAnew_81 (by decide) ?_
                have hl := lv_sub (l' := [(3, .int (iI (j + 1))), (2, .int (iI i)), (0, .ref (h 0)), (1, .int (iI byRule))]) hl [0, 1, 2, 3] rfl
                exact ih_14 (j + 1) yO yG yP yT (by omega) (by omega) (by first | exact hJ | exact IB_P hJ (by omega) (by omega)) (by rw [show (960 - (20 * i + (j + 1))).toNat = qk by omega, show 20 * i + (j + 1) = 20 * i + j + 1 by omega]; first | exact (bScan_n rfl ⟨by omega, by omega⟩ (by first | exact fun h => h.1 c_27 | exact fun h => c_37 h.2)).symm.trans hg | exact (bScan_s rfl ⟨by omega, by omega⟩ c_27 c_37 rfl (by omega)).symm.trans hg) (by omega) H locs ls hP hD hS hl
              · refine x_al hC hl 2 dX0_tellAnew_30 rfl rfl ?_
                refine x_get0 (v := .ref (h 1)) hC hP 0 rfl 0 (by decide) tb_96 rfl rfl dX0_tellAnew_31 ?_
                refine x_il hC hl 0 dX0_tellAnew_34 rfl rfl ?_
                refine x_iald hC hP 1 rfl (by omega) (by decide) dX0_tellAnew_35 ?_
                refine x_il hC hl 1 dX0_tellAnew_36 rfl rfl ?_
                refine x_ic_ne hC 78 dX0_tellAnew_37 (by decide) (by omega) (by omega) (fun c_37 => ?_) (fun c_37 => ?_)
                · refine x_iinc hC [(3, .int (iI (j + 1))), (2, .int (iI i)), (0, .ref (h 0)), (1, .int (iI byRule))] 0 hl dX0_tellAnew_78 rfl (by decide) rfl (fun ls hl => ?_)
                  refine x_goto hC 14 dX0_tellAnew_81 (by decide) ?_
                  have hl := lv_sub (l' := [(3, .int (iI (j + 1))), (2, .int (iI i)), (0, .ref (h 0)), (1, .int (iI byRule))]) hl [0, 1, 2, 3] rfl
                  exact ih_14 (j + 1) yO yG yP yT (by omega) (by omega) (by first | exact hJ | exact IB_P hJ (by omega) (by omega)) (by rw [show (960 - (20 * i + (j + 1))).toNat = qk by omega, show 20 * i + (j + 1) = 20 * i + j + 1 by omega]; first | exact (bScan_n rfl ⟨by omega, by omega⟩ (by first | exact fun h => h.1 c_27 | exact fun h => c_37 h.2)).symm.trans hg | exact (bScan_s rfl ⟨by omega, by omega⟩ c_27 c_37 rfl (by omega)).symm.trans hg) (by omega) H locs ls hP hD hS hl
                · have qf := qj.2.2 c_27
                  refine x_al hC hl 2 dX0_tellAnew_40 rfl rfl ?_
                  refine x_il hC hl 1 dX0_tellAnew_41 rfl rfl ?_
                  refine x_al hC hl 2 dX0_tellAnew_42 rfl rfl ?_
                  refine x_get0 (v := .ref (h 2)) hC hP 0 rfl 1 (by decide) tb_97 rfl rfl dX0_tellAnew_43 ?_
                  refine x_il hC hl 0 dX0_tellAnew_46 rfl rfl ?_
                  refine x_iald hC hP 2 rfl (by omega) (by decide) dX0_tellAnew_47 ?_
                  refine x_al hC hl 2 dX0_tellAnew_48 rfl rfl ?_
                  refine x_get0 (v := .ref (h 3)) hC hP 0 rfl 2 (by decide) tb_98 rfl rfl dX0_tellAnew_49 ?_
                  refine x_il hC hl 0 dX0_tellAnew_52 rfl rfl ?_
                  refine x_iald hC hP 3 rfl (by omega) (by decide) dX0_tellAnew_53 ?_
                  refine x_il hC hl 3 dX0_tellAnew_54 rfl rfl ?_
                  refine x_vI (As := [.int (iI i), .int (iI (bE j)), .int (iI (bZ j)), .int (iI byRule)]) hC (k0_roomFor l D cs h yO yG bF bE bZ yP bR bC yT i (bE j) (bZ j) byRule (by first | assumption | omega) (by first | assumption | omega) (by first | assumption | omega) (by first | assumption | omega)) lk0_64 (q0 := 0) (ci := 0) rfl rfl rfl (sub_all hP hD hS hA) hP hS rfl hl.1 rfl (Nat.le_of_ble_eq_true rfl) ⟨rfl, rfl⟩ ⟨Nat.le_of_ble_eq_true rfl, Nat.le_of_ble_eq_true rfl⟩ ⟨Nat.le_of_ble_eq_true rfl, Nat.le_of_ble_eq_true rfl⟩ dX0_tellAnew_55 (fun H locs hP hD hS hHs => ?_)
                  have q_55 := bFor_rg (by assumption) yO yT (b := i) (bE j) (bZ j) byRule (by omega)
                  refine x_isw hC [(4, .int (iI (bFor yO bR bC yT i (bE j) (bZ j) byRule))), (3, .int (iI j)), (2, .int (iI i)), (0, .ref (h 0)), (1, .int (iI byRule))] hl dX0_tellAnew_58 (by decide) rfl (fun ls hl => ?_)
                  refine x_ilw hC hl 0 dX0_tellAnew_60 rfl ?_
                  refine x_nI (As := [.int (iI (bFor yO bR bC yT i (bE j) (bZ j) byRule))]) hC (k4_isRoom l D cs (bFor yO bR bC yT i (bE j) (bZ j) byRule) (by first | assumption | omega)) lk0_68 (sub_none hP hD hS hA) hP hS rfl hl.1 rfl (Nat.le_of_ble_eq_true rfl) ⟨rfl, rfl⟩ ⟨Nat.le_of_ble_eq_true rfl, Nat.le_of_ble_eq_true rfl⟩ ⟨Nat.le_of_ble_eq_true rfl, Nat.le_of_ble_eq_true rfl⟩ dX0_tellAnew_62 (fun H locs hP hD hS hHs => ?_)
                  refine x_if_ne_b hC 71 dX0_tellAnew_65 (by decide) (fun c_65 => ?_) (fun c_65 => ?_)
                  · refine x_al hC hl 3 dX0_tellAnew_71 rfl rfl ?_
                    refine x_il hC hl 1 dX0_tellAnew_72 rfl rfl ?_
                    refine x_ilw hC hl 0 dX0_tellAnew_73 rfl ?_
                    refine x_vV (As := [.int (iI j), .int (iI (bFor yO bR bC yT i (bE j) (bZ j) byRule))]) hC (k0_putIn l D cs h yO yG bF bE bZ yP bR bC yT j (bFor yO bR bC yT i (bE j) (bZ j) byRule) (by first | assumption | omega) (by first | assumption | omega) (by first | assumption | omega)) lk0_74 (q0 := 0) (ci := 0) rfl rfl rfl (sub_all hP hD hS hA) hP hS rfl hl.1 rfl (Nat.le_of_ble_eq_true rfl) ⟨rfl, rfl⟩ ⟨Nat.le_of_ble_eq_true rfl, Nat.le_of_ble_eq_true rfl⟩ ⟨Nat.le_of_ble_eq_true rfl, Nat.le_of_ble_eq_true rfl⟩ dX0_tellAnew_75 (fun H locs hP hD hS hHs => ?_)
                    have hP : va_P D vwCl (wB h cs (bPutO yO (bFor yO bR bC yT i (bE j) (bZ j) byRule)) (bPutG yO yG bC (bFor yO bR bC yT i (bE j) (bZ j) byRule)) bF bE bZ (u1 yP j (bFor yO bR bC yT i (bE j) (bZ j) byRule)) bR bC (bPutT yT bF bE j (bFor yO bR bC yT i (bE j) (bZ j) byRule))) H := hP
                    have hD : va_D A (wB h cs (bPutO yO (bFor yO bR bC yT i (bE j) (bZ j) byRule)) (bPutG yO yG bC (bFor yO bR bC yT i (bE j) (bZ j) byRule)) bF bE bZ (u1 yP j (bFor yO bR bC yT i (bE j) (bZ j) byRule)) bR bC (bPutT yT bF bE j (bFor yO bR bC yT i (bE j) (bZ j) byRule))) := hD
                    refine x_iinc hC [(3, .int (iI (j + 1))), (4, .int (iI (bFor yO bR bC yT i (bE j) (bZ j) byRule))), (2, .int (iI i)), (0, .ref (h 0)), (1, .int (iI byRule))] 1 hl dX0_tellAnew_78 rfl (by decide) rfl (fun ls hl => ?_)
                    refine x_goto hC 14 dX0_tellAnew_81 (by decide) ?_
                    have hl := lv_sub (l' := [(3, .int (iI (j + 1))), (2, .int (iI i)), (0, .ref (h 0)), (1, .int (iI byRule))]) hl [0, 2, 3, 4] rfl
                    exact ih_14 (j + 1) (bPutO yO (bFor yO bR bC yT i (bE j) (bZ j) byRule)) (bPutG yO yG bC (bFor yO bR bC yT i (bE j) (bZ j) byRule)) (u1 yP j (bFor yO bR bC yT i (bE j) (bZ j) byRule)) (bPutT yT bF bE j (bFor yO bR bC yT i (bE j) (bZ j) byRule)) (by omega) (by omega) (by first | exact hJ | exact IB_P hJ (by omega) (by omega)) (by rw [show (960 - (20 * i + (j + 1))).toNat = qk by omega, show 20 * i + (j + 1) = 20 * i + j + 1 by omega]; first | exact (bScan_n rfl ⟨by omega, by omega⟩ (by first | exact fun h => h.1 c_27 | exact fun h => c_37 h.2)).symm.trans hg | exact (bScan_s rfl ⟨by omega, by omega⟩ c_27 c_37 rfl (by omega)).symm.trans hg) (by omega) H locs ls hP hD hS hl
                  · have hgf := (bScan_f (O := yO) (G := yG) (T := yT) rfl ⟨by omega, by omega⟩ c_27 c_37 (by omega)).symm.trans hg
                    refine x_ldc hC (-1000002) tb_275 (by decide) dX0_tellAnew_68 ?_
                    have ew_2 : (wB h cs yO yG bF bE bZ yP bR bC yT) = (wB h cs ((bAnew bF bE bZ bR bC bG bP bT byRule).2.1) ((bAnew bF bE bZ bR bC bG bP bT byRule).2.2.1) bF bE bZ ((bAnew bF bE bZ bR bC bG bP bT byRule).2.2.2.1) bR bC ((bAnew bF bE bZ bR bC bG bP bT byRule).2.2.2.2)) := (wBc (by rw [← hgf] : yO = (bAnew bF bE bZ bR bC bG bP bT byRule).2.1) (by rw [← hgf] : yG = (bAnew bF bE bZ bR bC bG bP bT byRule).2.2.1) rfl rfl rfl (by rw [← hgf] : yP = (bAnew bF bE bZ bR bC bG bP bT byRule).2.2.2.1) rfl rfl (by rw [← hgf] : yT = (bAnew bF bE bZ bR bC bG bP bT byRule).2.2.2.2))
                    have hP := vPe hP ew_2
                    have hD := vDe hD ew_2
                    exact x_retI (congrArg iI (by rw [← hgf]; exact (iif_f (fun h => h)).symm : (-1000002) = iif (bAnew bF bE bZ bR bC bG bP bT byRule).1 ((bAnew bF bE bZ bR bC bG bP bT byRule).2.2.1 11) (-1000002))) hend hP hD hS dX0_tellAnew_70
        have hl := lv_sub (l' := [(3, .int (iI 0)), (2, .int (iI i)), (0, .ref (h 0)), (1, .int (iI byRule))]) hl [0, 1, 2, 3] rfl
        exact loop_14 (Int.toNat (20 - 0) + 1) 0 xO xG xP xT (by omega) (by omega) hI (by rw [← hf]; congr 1 <;> omega) (by omega) H locs ls hP hD hS hl
  have hl := lv_sub (l' := [(2, .int (iI 0)), (0, .ref (h 0)), (1, .int (iI byRule))]) hl [0, 1, 2] rfl
  exact loop_6 (Int.toNat (48 - 0) + 1) 0 (fun _ => false) (u1 bG 11 0) bP (bZero bT) (by omega) (by omega) hB rfl (by omega) H locs ls hP hD hS hl
abbrev r0_emptyOut : Room := { frames := 3, cells := 0, slots := 0, locals := 69 }
set_option maxHeartbeats 4000000 in
set_option maxRecDepth 100000 in
theorem k0_emptyOut (l : Launch) (D : va_G) (cs : Nat → ClassId) (h : Nat → Nat) (bO : Nat → Bool) (bG : Int → Int) (bF : Int → Int) (bE : Int → Int) (bZ : Int → Int) (bP : Int → Int) (bR : Int → Int) (bC : Int → Int) (bT : Int → Nat → Bool) (room : Int) (hB : IB bF bE bZ bP bR bC) (g_room : -2147483648 ≤ room ∧ room ≤ 2147483647) : CI l D cs yX0_emptyOut cX0_emptyOut 3 .boolean r0_emptyOut 0 0 [.ref (h 0), .int (iI room)] (wB h cs bO bG bF bE bZ bP bR bC bT) (wB h cs (iif (bEmC bT room) (bEmp bF bE bZ bR bC room 20 0 bO bG bP bT).2.1 bO) (iif (bEmC bT room) (bEmp bF bE bZ bR bC room 20 0 bO bG bP bT).2.2.1 bG) bF bE bZ (iif (bEmC bT room) (bEmp bF bE bZ bR bC room 20 0 bO bG bP bT).2.2.2.1 bP) bR bC (iif (bEmC bT room) (bEmp bF bE bZ bR bC room 20 0 bO bG bP bT).2.2.2.2 bT)) (iI (b2p (bEmC bT room ∧ (bEmp bF bE bZ bR bC room 20 0 bO bG bP bT).1))) := by
  refine CI_start (own := RX0) (by decide) rfl b2p_nar (Nat.le_of_ble_eq_true rfl) ?_
  intro p e s m args below meth c Q A ls hC hl hP hD hA hS hend
  have hl : lv_has ls 3 [(0, .ref (h 0)), (1, .int (iI room))] := hl
  obtain ⟨H, hH⟩ : ∃ H : Heap, H = s.heap := ⟨_, rfl⟩
  have hS : va_S A s.heap H [] := by rw [hH]; exact hS
  rw [← hH] at hP
  obtain ⟨locs, hlocs⟩ : ∃ locs : List Loc, locs = [] := ⟨_, rfl⟩
  rw [← hlocs] at hS
  suffices hgo : W p l e r0_emptyOut s m args below meth c H locs 0 0 Q (F0 m 0 ls []) by rw [← hH, ← hlocs]; exact hgo
  clear hH hlocs
  refine x_il hC hl 1 dX0_emptyOut_0 rfl rfl ?_
  refine x_nI (As := [.int (iI room)]) hC (k4_isRoom l D cs room (by first | assumption | omega)) lk0_68 (sub_none hP hD hS hA) hP hS rfl hl.1 rfl (Nat.le_of_ble_eq_true rfl) ⟨rfl, rfl⟩ ⟨Nat.le_of_ble_eq_true rfl, Nat.le_of_ble_eq_true rfl⟩ ⟨Nat.le_of_ble_eq_true rfl, Nat.le_of_ble_eq_true rfl⟩ dX0_emptyOut_1 (fun H locs hP hD hS hHs => ?_)
  refine x_if_eq_b hC 18 dX0_emptyOut_4 (by decide) (fun c_4 => ?_) (fun c_4 => ?_)
  · refine x_ic hC dX0_emptyOut_18 ?_
    have ew : (wB h cs bO bG bF bE bZ bP bR bC bT) = (wB h cs (iif (bEmC bT room) (bEmp bF bE bZ bR bC room 20 0 bO bG bP bT).2.1 bO) (iif (bEmC bT room) (bEmp bF bE bZ bR bC room 20 0 bO bG bP bT).2.2.1 bG) bF bE bZ (iif (bEmC bT room) (bEmp bF bE bZ bR bC room 20 0 bO bG bP bT).2.2.2.1 bP) bR bC (iif (bEmC bT room) (bEmp bF bE bZ bR bC room 20 0 bO bG bP bT).2.2.2.2 bT)) := (wBc (by first | exact (iif_f (fun h => absurd c_15 h.2)).symm | exact (iif_f (fun h => c_4 h.1)).symm : bO = iif (bEmC bT room) (bEmp bF bE bZ bR bC room 20 0 bO bG bP bT).2.1 bO) (by first | exact (iif_f (fun h => absurd c_15 h.2)).symm | exact (iif_f (fun h => c_4 h.1)).symm : bG = iif (bEmC bT room) (bEmp bF bE bZ bR bC room 20 0 bO bG bP bT).2.2.1 bG) rfl rfl rfl (by first | exact (iif_f (fun h => absurd c_15 h.2)).symm | exact (iif_f (fun h => c_4 h.1)).symm : bP = iif (bEmC bT room) (bEmp bF bE bZ bR bC room 20 0 bO bG bP bT).2.2.2.1 bP) rfl rfl (by first | exact (iif_f (fun h => absurd c_15 h.2)).symm | exact (iif_f (fun h => c_4 h.1)).symm : bT = iif (bEmC bT room) (bEmp bF bE bZ bR bC room 20 0 bO bG bP bT).2.2.2.2 bT))
    have hP := vPe hP ew
    have hD := vDe hD ew
    exact x_retI (congrArg iI (b2p_f (by first | exact fun h => h.1.2 c_15 | exact fun h => c_4 h.1.1)).symm) hend hP hD hS dX0_emptyOut_19
  · refine x_al hC hl 0 dX0_emptyOut_7 rfl rfl ?_
    refine x_get0 (v := .ref (h 7)) hC hP 0 rfl 6 (by decide) tb_102 rfl rfl dX0_emptyOut_8 ?_
    refine x_il hC hl 1 dX0_emptyOut_11 rfl rfl ?_
    refine x_lald hC hP 7 rfl (by omega) (by decide) dX0_emptyOut_12 ?_
    refine x_lc (v := 0) hC dX0_emptyOut_13 rfl ?_
    refine W.lcmp hC.1 hC.2.1 dX0_emptyOut_14 ?_
    refine lv_if_ne (tgt := 20) hC.1 hC.2.1 dX0_emptyOut_15 (by decide) (fun c_15 => ?_) (fun c_15 => ?_)
    · rw [lz] at c_15
      have qE : bEmC bT room := ⟨c_4, c_15⟩
      refine x_ic hC dX0_emptyOut_20 ?_
      refine x_is hC [(2, .int (iI 0)), (0, .ref (h 0)), (1, .int (iI room))] hl dX0_emptyOut_21 rfl (by decide) rfl (fun ls hl => ?_)
      have loop_22 : ∀ (n : Nat) (i : Int) (xO : Nat → Bool) (xG : Int → Int) (xP : Int → Int) (xT : Int → Nat → Bool), (hi0 : 0 ≤ i) → (hiN : i ≤ 20) → (hI : IB bF bE bZ xP bR bC) → (hf : bEmp bF bE bZ bR bC room (20 - i).toNat i xO xG xP xT = bEmp bF bE bZ bR bC room 20 0 bO bG bP bT) → (20 - i) < (n : Int) → ∀ (H : Heap) (locs : List Loc) (ls : Array Slot), va_P D vwCl (wB h cs xO xG bF bE bZ xP bR bC xT) H → va_D A (wB h cs xO xG bF bE bZ xP bR bC xT) → va_S A s.heap H locs → lv_has ls 3 [(2, .int (iI i)), (0, .ref (h 0)), (1, .int (iI room))] → W p l e r0_emptyOut s m args below meth c H locs 0 0 Q (F0 m 22 ls []) := by
        intro n
        induction n with
        | zero =>
          intro i xO xG xP xT hi0 hiN hI hf hnn
          exfalso; omega
        | succ n ih_22 =>
          intro i xO xG xP xT hi0 hiN hI hf hnn H locs ls hP hD hS hl
          refine x_il hC hl 0 dX0_emptyOut_22 rfl rfl ?_
          refine x_bi hC dX0_emptyOut_23 (by decide) ?_
          refine x_ic_ge hC 59 dX0_emptyOut_25 (by decide) (by omega) (by omega) (fun c_25 => ?_) (fun c_25 => ?_)
          · have hgf : (True, xO, xG, xP, xT) = bEmp bF bE bZ bR bC room 20 0 bO bG bP bT := by rw [← hf, show i = 20 by omega]; rfl
            refine x_ic hC dX0_emptyOut_59 ?_
            have ew_2 : (wB h cs xO xG bF bE bZ xP bR bC xT) = (wB h cs (iif (bEmC bT room) (bEmp bF bE bZ bR bC room 20 0 bO bG bP bT).2.1 bO) (iif (bEmC bT room) (bEmp bF bE bZ bR bC room 20 0 bO bG bP bT).2.2.1 bG) bF bE bZ (iif (bEmC bT room) (bEmp bF bE bZ bR bC room 20 0 bO bG bP bT).2.2.2.1 bP) bR bC (iif (bEmC bT room) (bEmp bF bE bZ bR bC room 20 0 bO bG bP bT).2.2.2.2 bT)) := (wBc (by rw [iif_t qE, ← hgf] : xO = iif (bEmC bT room) (bEmp bF bE bZ bR bC room 20 0 bO bG bP bT).2.1 bO) (by rw [iif_t qE, ← hgf] : xG = iif (bEmC bT room) (bEmp bF bE bZ bR bC room 20 0 bO bG bP bT).2.2.1 bG) rfl rfl rfl (by rw [iif_t qE, ← hgf] : xP = iif (bEmC bT room) (bEmp bF bE bZ bR bC room 20 0 bO bG bP bT).2.2.2.1 bP) rfl rfl (by rw [iif_t qE, ← hgf] : xT = iif (bEmC bT room) (bEmp bF bE bZ bR bC room 20 0 bO bG bP bT).2.2.2.2 bT))
            have hP := vPe hP ew_2
            have hD := vDe hD ew_2
            exact x_retI (congrArg iI (b2p_t (by exact ⟨qE, by rw [← hgf]; trivial⟩)).symm) hend hP hD hS dX0_emptyOut_60
          · have qi := ibT hI i (by omega)
            obtain ⟨qk, hqk⟩ : ∃ qk : Nat, (20 - i).toNat = qk + 1 := ⟨(20 - i).toNat - 1, by omega⟩
            rw [hqk] at hf
            refine x_al hC hl 1 dX0_emptyOut_28 rfl rfl ?_
            refine x_get0 (v := .ref (h 4)) hC hP 0 rfl 3 (by decide) tb_99 rfl rfl dX0_emptyOut_29 ?_
            refine x_il hC hl 0 dX0_emptyOut_32 rfl rfl ?_
            refine x_iald hC hP 4 rfl (by omega) (by decide) dX0_emptyOut_33 ?_
            refine x_il hC hl 2 dX0_emptyOut_34 rfl rfl ?_
            refine x_ic_ne hC 53 dX0_emptyOut_35 (by decide) (by omega) (by omega) (fun c_35 => ?_) (fun c_35 => ?_)
            · refine x_iinc hC [(2, .int (iI (i + 1))), (0, .ref (h 0)), (1, .int (iI room))] 0 hl dX0_emptyOut_53 rfl (by decide) rfl (fun ls hl => ?_)
              refine x_goto hC 22 dX0_emptyOut_56 (by decide) ?_
              have hl := lv_sub (l' := [(2, .int (iI (i + 1))), (0, .ref (h 0)), (1, .int (iI room))]) hl [0, 1, 2] rfl
              exact ih_22 (i + 1) xO xG xP xT (by omega) (by omega) (by first | exact hI | (simp only [iif_t qC]; exact IB_P (IB_P hI (by omega) qf) (by omega) qf)) (by rw [show (20 - (i + 1)).toNat = qk by omega]; first | exact (bEmp_n c_35).symm.trans hf | (simp only [iif_t qC, bShT, qpl]; exact (bEmp_s c_35 rfl qlo).symm.trans hf)) (by omega) H locs ls hP hD hS hl
            · have qf := qi.2.2 (by omega)
              have qpl : bPl xP i = room := (bPl_in ⟨by omega, by omega⟩).trans c_35
              have qlr := bLow_rg xO bF bE bZ xP bR xT i
              refine x_al hC hl 1 dX0_emptyOut_38 rfl rfl ?_
              refine x_il hC hl 0 dX0_emptyOut_39 rfl rfl ?_
              refine x_al hC hl 1 dX0_emptyOut_40 rfl rfl ?_
              refine x_il hC hl 0 dX0_emptyOut_41 rfl rfl ?_
              refine x_vI (As := [.int (iI i)]) hC (k0_lowestOther l D cs h xO xG bF bE bZ xP bR bC xT i (by first | assumption | omega) (by first | assumption | omega) (by first | assumption | omega)) lk0_105 (q0 := 0) (ci := 0) rfl rfl rfl (sub_all hP hD hS hA) hP hS rfl hl.1 rfl (Nat.le_of_ble_eq_true rfl) ⟨rfl, rfl⟩ ⟨Nat.le_of_ble_eq_true rfl, Nat.le_of_ble_eq_true rfl⟩ ⟨Nat.le_of_ble_eq_true rfl, Nat.le_of_ble_eq_true rfl⟩ dX0_emptyOut_42 (fun H locs hP hD hS hHs => ?_)
              refine x_vI (As := [.int (iI i), .int (iI (bLow xO bF bE bZ xP bR xT i))]) hC (k0_shift l D cs h xO xG bF bE bZ xP bR bC xT i (bLow xO bF bE bZ xP bR xT i) (by first | assumption | omega) (by first | assumption | omega) (by first | assumption | omega)) lk0_108 (q0 := 0) (ci := 0) rfl rfl rfl (sub_all hP hD hS hA) hP hS rfl hl.1 rfl (Nat.le_of_ble_eq_true rfl) ⟨rfl, rfl⟩ ⟨Nat.le_of_ble_eq_true rfl, Nat.le_of_ble_eq_true rfl⟩ ⟨Nat.le_of_ble_eq_true rfl, Nat.le_of_ble_eq_true rfl⟩ dX0_emptyOut_45 (fun H locs hP hD hS hHs => ?_)
              have hP : va_P D vwCl (wB h cs (iif (bShC xO bF bE bZ xP bR xT i (bLow xO bF bE bZ xP bR xT i)) (bPutO xO (bLow xO bF bE bZ xP bR xT i)) xO) (iif (bShC xO bF bE bZ xP bR xT i (bLow xO bF bE bZ xP bR xT i)) (bPutG xO xG bC (bLow xO bF bE bZ xP bR xT i)) xG) bF bE bZ (iif (bShC xO bF bE bZ xP bR xT i (bLow xO bF bE bZ xP bR xT i)) (u1 (u1 xP i (-1)) i (bLow xO bF bE bZ xP bR xT i)) xP) bR bC (iif (bShC xO bF bE bZ xP bR xT i (bLow xO bF bE bZ xP bR xT i)) (bShT bF bE xP xT i (bLow xO bF bE bZ xP bR xT i)) xT)) H := hP
              have hD : va_D A (wB h cs (iif (bShC xO bF bE bZ xP bR xT i (bLow xO bF bE bZ xP bR xT i)) (bPutO xO (bLow xO bF bE bZ xP bR xT i)) xO) (iif (bShC xO bF bE bZ xP bR xT i (bLow xO bF bE bZ xP bR xT i)) (bPutG xO xG bC (bLow xO bF bE bZ xP bR xT i)) xG) bF bE bZ (iif (bShC xO bF bE bZ xP bR xT i (bLow xO bF bE bZ xP bR xT i)) (u1 (u1 xP i (-1)) i (bLow xO bF bE bZ xP bR xT i)) xP) bR bC (iif (bShC xO bF bE bZ xP bR xT i (bLow xO bF bE bZ xP bR xT i)) (bShT bF bE xP xT i (bLow xO bF bE bZ xP bR xT i)) xT)) := hD
              refine x_top (iI (iif ((bLow xO bF bE bZ xP bR xT i) = -1) (-1000001) room)) (congrArg iI (by exact (bSh_low hI ⟨by omega, by omega⟩ c_35 c_4).1 : bShV xO bF bE bZ xP bR xT i (bLow xO bF bE bZ xP bR xT i) = iif ((bLow xO bF bE bZ xP bR xT i) = -1) (-1000001) room)) ?_
              refine x_if_ge hC 53 dX0_emptyOut_48 (by decide) (by unfold iif; split <;> omega) (fun c_48 => ?_) (fun c_48 => ?_)
              · (have qlo : ¬ (bLow xO bF bE bZ xP bR xT i) = -1 := fun hz => (by rw [iif_t hz] at c_48; omega)); have qC := (bSh_low hI ⟨by omega, by omega⟩ c_35 c_4).2.mpr qlo
                refine x_iinc hC [(2, .int (iI (i + 1))), (0, .ref (h 0)), (1, .int (iI room))] 0 hl dX0_emptyOut_53 rfl (by decide) rfl (fun ls hl => ?_)
                refine x_goto hC 22 dX0_emptyOut_56 (by decide) ?_
                have hl := lv_sub (l' := [(2, .int (iI (i + 1))), (0, .ref (h 0)), (1, .int (iI room))]) hl [0, 1, 2] rfl
                exact ih_22 (i + 1) (iif (bShC xO bF bE bZ xP bR xT i (bLow xO bF bE bZ xP bR xT i)) (bPutO xO (bLow xO bF bE bZ xP bR xT i)) xO) (iif (bShC xO bF bE bZ xP bR xT i (bLow xO bF bE bZ xP bR xT i)) (bPutG xO xG bC (bLow xO bF bE bZ xP bR xT i)) xG) (iif (bShC xO bF bE bZ xP bR xT i (bLow xO bF bE bZ xP bR xT i)) (u1 (u1 xP i (-1)) i (bLow xO bF bE bZ xP bR xT i)) xP) (iif (bShC xO bF bE bZ xP bR xT i (bLow xO bF bE bZ xP bR xT i)) (bShT bF bE xP xT i (bLow xO bF bE bZ xP bR xT i)) xT) (by omega) (by omega) (by first | exact hI | (simp only [iif_t qC]; exact IB_P (IB_P hI (by omega) qf) (by omega) qf)) (by rw [show (20 - (i + 1)).toNat = qk by omega]; first | exact (bEmp_n c_35).symm.trans hf | (simp only [iif_t qC, bShT, qpl]; exact (bEmp_s c_35 rfl qlo).symm.trans hf)) (by omega) H locs ls hP hD hS hl
              · (have qlo : (bLow xO bF bE bZ xP bR xT i) = -1 := Classical.byContradiction (fun hz => (by rw [iif_f hz] at c_48; omega))); have qC := mt (bSh_low hI ⟨by omega, by omega⟩ c_35 c_4).2.mp (fun h => h qlo)
                have hgf := (bEmp_f (G := xG) (C := bC) (room := room) (k := qk) c_35 qlo).symm.trans hf
                refine x_ic hC dX0_emptyOut_51 ?_
                have ew_3 : (wB h cs (iif (bShC xO bF bE bZ xP bR xT i (bLow xO bF bE bZ xP bR xT i)) (bPutO xO (bLow xO bF bE bZ xP bR xT i)) xO) (iif (bShC xO bF bE bZ xP bR xT i (bLow xO bF bE bZ xP bR xT i)) (bPutG xO xG bC (bLow xO bF bE bZ xP bR xT i)) xG) bF bE bZ (iif (bShC xO bF bE bZ xP bR xT i (bLow xO bF bE bZ xP bR xT i)) (u1 (u1 xP i (-1)) i (bLow xO bF bE bZ xP bR xT i)) xP) bR bC (iif (bShC xO bF bE bZ xP bR xT i (bLow xO bF bE bZ xP bR xT i)) (bShT bF bE xP xT i (bLow xO bF bE bZ xP bR xT i)) xT)) = (wB h cs (iif (bEmC bT room) (bEmp bF bE bZ bR bC room 20 0 bO bG bP bT).2.1 bO) (iif (bEmC bT room) (bEmp bF bE bZ bR bC room 20 0 bO bG bP bT).2.2.1 bG) bF bE bZ (iif (bEmC bT room) (bEmp bF bE bZ bR bC room 20 0 bO bG bP bT).2.2.2.1 bP) bR bC (iif (bEmC bT room) (bEmp bF bE bZ bR bC room 20 0 bO bG bP bT).2.2.2.2 bT)) := (wBc (by rw [iif_f qC, iif_t qE, ← hgf] : iif (bShC xO bF bE bZ xP bR xT i (bLow xO bF bE bZ xP bR xT i)) (bPutO xO (bLow xO bF bE bZ xP bR xT i)) xO = iif (bEmC bT room) (bEmp bF bE bZ bR bC room 20 0 bO bG bP bT).2.1 bO) (by rw [iif_f qC, iif_t qE, ← hgf] : iif (bShC xO bF bE bZ xP bR xT i (bLow xO bF bE bZ xP bR xT i)) (bPutG xO xG bC (bLow xO bF bE bZ xP bR xT i)) xG = iif (bEmC bT room) (bEmp bF bE bZ bR bC room 20 0 bO bG bP bT).2.2.1 bG) rfl rfl rfl (by rw [iif_f qC, iif_t qE, ← hgf] : iif (bShC xO bF bE bZ xP bR xT i (bLow xO bF bE bZ xP bR xT i)) (u1 (u1 xP i (-1)) i (bLow xO bF bE bZ xP bR xT i)) xP = iif (bEmC bT room) (bEmp bF bE bZ bR bC room 20 0 bO bG bP bT).2.2.2.1 bP) rfl rfl (by rw [iif_f qC, iif_t qE, ← hgf] : iif (bShC xO bF bE bZ xP bR xT i (bLow xO bF bE bZ xP bR xT i)) (bShT bF bE xP xT i (bLow xO bF bE bZ xP bR xT i)) xT = iif (bEmC bT room) (bEmp bF bE bZ bR bC room 20 0 bO bG bP bT).2.2.2.2 bT))
                have hP := vPe hP ew_3
                have hD := vDe hD ew_3
                exact x_retI (congrArg iI (b2p_f (by exact fun h => by rw [← hgf] at h; exact h.2)).symm) hend hP hD hS dX0_emptyOut_52
      have hl := lv_sub (l' := [(2, .int (iI 0)), (0, .ref (h 0)), (1, .int (iI room))]) hl [0, 1, 2] rfl
      exact loop_22 (Int.toNat (20 - 0) + 1) 0 bO bG bP bT (by omega) (by omega) hB rfl (by omega) H locs ls hP hD hS hl
    · rw [lz] at c_15
      refine x_ic hC dX0_emptyOut_18 ?_
      have ew_4 : (wB h cs bO bG bF bE bZ bP bR bC bT) = (wB h cs (iif (bEmC bT room) (bEmp bF bE bZ bR bC room 20 0 bO bG bP bT).2.1 bO) (iif (bEmC bT room) (bEmp bF bE bZ bR bC room 20 0 bO bG bP bT).2.2.1 bG) bF bE bZ (iif (bEmC bT room) (bEmp bF bE bZ bR bC room 20 0 bO bG bP bT).2.2.2.1 bP) bR bC (iif (bEmC bT room) (bEmp bF bE bZ bR bC room 20 0 bO bG bP bT).2.2.2.2 bT)) := (wBc (by first | exact (iif_f (fun h => absurd c_15 h.2)).symm | exact (iif_f (fun h => c_4 h.1)).symm : bO = iif (bEmC bT room) (bEmp bF bE bZ bR bC room 20 0 bO bG bP bT).2.1 bO) (by first | exact (iif_f (fun h => absurd c_15 h.2)).symm | exact (iif_f (fun h => c_4 h.1)).symm : bG = iif (bEmC bT room) (bEmp bF bE bZ bR bC room 20 0 bO bG bP bT).2.2.1 bG) rfl rfl rfl (by first | exact (iif_f (fun h => absurd c_15 h.2)).symm | exact (iif_f (fun h => c_4 h.1)).symm : bP = iif (bEmC bT room) (bEmp bF bE bZ bR bC room 20 0 bO bG bP bT).2.2.2.1 bP) rfl rfl (by first | exact (iif_f (fun h => absurd c_15 h.2)).symm | exact (iif_f (fun h => c_4 h.1)).symm : bT = iif (bEmC bT room) (bEmp bF bE bZ bR bC room 20 0 bO bG bP bT).2.2.2.2 bT))
      have hP := vPe hP ew_4
      have hD := vDe hD ew_4
      exact x_retI (congrArg iI (b2p_f (by first | exact fun h => h.1.2 c_15 | exact fun h => c_4 h.1.1)).symm) hend hP hD hS dX0_emptyOut_19
