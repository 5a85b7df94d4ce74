/-! the class's calls that change nothing -/
def wX (h hn ht hh hs : Nat → Nat) : va_W := [(h 0, .inr (4, [.ref (hn 0), .ref (ht 0), .ref (hh 0), .ref (hs 0)]))]
def wH (h : Nat → Nat) (cs : Nat → ClassId) (G : Int → Int) (N : Nat → Option Nat) : va_W := [(h 0, obH (h 1) G), (h 1, .inl (cs 4, 4, .inr (.inr (.inr (.inr N)))))]
theorem wHc {h : Nat → Nat} {cs : Nat → ClassId} {G G' : Int → Int} {N N' : Nat → Option Nat} (e1 : G = G') (e2 : N = N') : wH h cs G N = wH h cs G' N' := by rw [e1, e2]
theorem bScan_rg {F E Z R C : Int → Int} {rule : Int} : ∀ (k : Nat) (n : Int) (O : Nat → Bool) (G P : Int → Int) (T : Int → Nat → Bool), IB F E Z P R C → IB F E Z (bScan F E Z R C rule k n O G P T).2.2.2.1 R C ∧ (G 11 ≤ (bScan F E Z R C rule k n O G P T).2.2.1 11 ∧ (bScan F E Z R C rule k n O G P T).2.2.1 11 ≤ G 11 + 99 * k) ∧ ∀ j, ¬ j = 10 ∧ ¬ j = 11 → (bScan F E Z R C rule k n O G P T).2.2.1 j = G j
  | 0, n, O, G, P, T, h => ⟨h, ⟨Int.le_refl _, by show G 11 ≤ _; omega⟩, fun j _ => rfl⟩
  | k + 1, n, O, G, P, T, h => by
    have ht : 0 ≤ n % 20 ∧ n % 20 < 20 := by omega
    have hn : n = 20 * (n / 20) + n % 20 := by omega
    generalize n % 20 = t at *
    generalize n / 20 = hr at *
    by_cases c : ¬ P t = -1 ∧ F t = hr
    · have hv := (ibT h t ht).2.2 c.1
      have hg := bFor_rg h O T (b := hr) (E t) (Z t) rule (by omega)
      by_cases c2 : bFor O R C T hr (E t) (Z t) rule = -1
      · rw [bScan_f hn ht c.1 c.2 c2]
        exact ⟨h, ⟨Int.le_refl _, by show G 11 ≤ _; omega⟩, fun j _ => rfl⟩
      · rw [bScan_s hn ht c.1 c.2 rfl c2]
        have hC := ibR h (bFor O R C T hr (E t) (Z t) rule) (by omega)
        generalize bFor O R C T hr (E t) (Z t) rule = r at *
        have ih := bScan_rg (rule := rule) k (n + 1) (bPutO O r) (bPutG O G C r) _ (bPutT T F E t r) (IB_P h (t := t) (v := r) (by omega) hv)
        have hG : bPutG O G C r 11 = G 11 ∨ bPutG O G C r 11 = G 11 + C r := by
          unfold bPutG
          by_cases q : O r.toNat = true
          · rw [iif_t q]; exact Or.inl rfl
          · rw [iif_f q, u1_s]; exact Or.inr rfl
        refine ⟨ih.1, by omega, fun j hj => ?_⟩
        rw [ih.2.2 j hj, bPutG_k hj]
    · rw [bScan_n hn ht c]
      have ih := bScan_rg (rule := rule) k (n + 1) O G P T h
      exact ⟨ih.1, by omega, ih.2.2⟩
noncomputable def bAnV (F E Z R C G P : Int → Int) (T : Int → Nat → Bool) (rule : Int) : Int := iif (bAnew F E Z R C G P T rule).1 ((bAnew F E Z R C G P T rule).2.2.1 11) (-1000002)
theorem bAnew_IB {F E Z R C G P : Int → Int} (T : Int → Nat → Bool) (rule : Int) (h : IB F E Z P R C) : IB F E Z (bAnew F E Z R C G P T rule).2.2.2.1 R C := (bScan_rg _ _ _ _ _ _ h).1
theorem bAnV_rg {F E Z R C G P : Int → Int} (T : Int → Nat → Bool) (rule : Int) (h : IB F E Z P R C) : (-1000002 ≤ bAnV F E Z R C G P T rule ∧ bAnV F E Z R C G P T rule ≤ 1000000) ∧ (bAnV F E Z R C G P T rule < 0 ↔ ¬ (bAnew F E Z R C G P T rule).1) := by
  have h2 := (bScan_rg (rule := rule) 960 0 (fun _ => false) (u1 G 11 0) P (bZero T) h).2.1
  have h3 : 0 ≤ (bAnew F E Z R C G P T rule).2.2.1 11 ∧ (bAnew F E Z R C G P T rule).2.2.1 11 ≤ 99 * (960 : Nat) := by
    rw [u1_s] at h2
    unfold bAnew
    omega
  unfold bAnV
  by_cases c : (bAnew F E Z R C G P T rule).1
  · rw [iif_t c]; exact ⟨by omega, fun h => by omega, fun h => absurd c h⟩
  · rw [iif_f c]; exact ⟨by omega, fun _ => c, fun _ => by omega⟩
noncomputable def bBestS (F E Z R C G P : Int → Int) (T : Int → Nat → Bool) (r : Int) (x : Int × Int) : Int × Int := iif (0 ≤ bAnV F E Z R C G P T r ∧ (x.1 = -1 ∨ bAnV F E Z R C G P T r < x.2)) (r, bAnV F E Z R C G P T r) x
noncomputable def bBest (F E Z R C G P : Int → Int) (T : Int → Nat → Bool) (n : Int) : Int × Int := fI (bBestS F E Z R C G P T) (-1, 0) n
theorem bBest_s (F E Z R C G P : Int → Int) (T : Int → Nat → Bool) {i : Int} (h : 0 ≤ i) : bBest F E Z R C G P T (i + 1) = bBestS F E Z R C G P T i (bBest F E Z R C G P T i) := fI_s h
theorem bBest_rg {F E Z R C G P : Int → Int} (T : Int → Nat → Bool) (h : IB F E Z P R C) {n : Int} (h0 : 0 ≤ n) : (-1 ≤ (bBest F E Z R C G P T n).1 ∧ (bBest F E Z R C G P T n).1 < n) ∧ 0 ≤ (bBest F E Z R C G P T n).2 ∧ (bBest F E Z R C G P T n).2 ≤ 1000000 := by
  refine fI_ind (fun n (x : Int × Int) => (-1 ≤ x.1 ∧ x.1 < n) ∧ 0 ≤ x.2 ∧ x.2 ≤ 1000000) (by simp) (fun i x hi hin hx => ?_) h0
  have h1 := bAnV_rg (G := G) T i h
  unfold bBestS iif
  split
  · dsimp only; omega
  · omega
def bCbE (O : Nat → Bool) (G F E Z P R C : Int → Int) (T : Int → Nat → Bool) (r : Int) : Prop := bEmC T r ∧ (bEmp F E Z R C r 20 0 O G P T).1
noncomputable def bEmS (O : Nat → Bool) (G F E Z P R C : Int → Int) (T : Int → Nat → Bool) (r : Int) (x : Int × Int) : Int × Int := iif (x.2 < C r ∧ bCbE O G F E Z P R C T r) (r, C r) x
noncomputable def bEmX (O : Nat → Bool) (G F E Z P R C : Int → Int) (T : Int → Nat → Bool) (n : Int) : Int × Int := fI (bEmS O G F E Z P R C T) (-1, 0) n
theorem bEmX_s (O : Nat → Bool) (G F E Z P R C : Int → Int) (T : Int → Nat → Bool) {i : Int} (h : 0 ≤ i) : bEmX O G F E Z P R C T (i + 1) = bEmS O G F E Z P R C T i (bEmX O G F E Z P R C T i) := fI_s h
theorem bEmX_rg {O : Nat → Bool} {G F E Z P R C : Int → Int} (T : Int → Nat → Bool) (h : IB F E Z P R C) {n : Int} (h0 : 0 ≤ n) (h8 : n ≤ 8) : (-1 ≤ (bEmX O G F E Z P R C T n).1 ∧ (bEmX O G F E Z P R C T n).1 < n) ∧ 0 ≤ (bEmX O G F E Z P R C T n).2 ∧ (bEmX O G F E Z P R C T n).2 ≤ 99 := by
  refine fI_ind (fun n (x : Int × Int) => (-1 ≤ x.1 ∧ x.1 < n) ∧ 0 ≤ x.2 ∧ x.2 ≤ 99) (by simp) (fun i x hi hin hx => ?_) h0
  have h1 := ibR h i (by omega)
  unfold bEmS iif
  split
  · dsimp only; omega
  · omega
