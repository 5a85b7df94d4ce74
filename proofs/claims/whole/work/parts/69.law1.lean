/-! the law: worlds, arguments, ends -/
theorem pm_N {α : Type} (X N T S O G w M : List α) : List.Perm (((X ++ (N ++ (T ++ (S ++ (O ++ G))))) ++ w) ++ M) (((T ++ (S ++ (O ++ G))) ++ (w ++ M)) ++ (X ++ N)) := by
  classical
  exact List.perm_iff_count.mpr (fun a => by simp only [List.count_append]; omega)
theorem pm_NT {α : Type} (X N T S O G w M : List α) : List.Perm (((X ++ (N ++ (T ++ (S ++ (O ++ G))))) ++ w) ++ M) (((S ++ (O ++ G)) ++ (w ++ M)) ++ (X ++ (N ++ T))) := by
  classical
  exact List.perm_iff_count.mpr (fun a => by simp only [List.count_append]; omega)
theorem pm_NTw {α : Type} (X N T S O G w M : List α) : List.Perm (((X ++ (N ++ (T ++ (S ++ (O ++ G))))) ++ w) ++ M) (((S ++ (O ++ G)) ++ M) ++ ((X ++ (N ++ T)) ++ w)) := by
  classical
  exact List.perm_iff_count.mpr (fun a => by simp only [List.count_append]; omega)
theorem pm_Nw {α : Type} (X N T S O G w M : List α) : List.Perm (((X ++ (N ++ (T ++ (S ++ (O ++ G))))) ++ w) ++ M) (((T ++ (S ++ (O ++ G))) ++ M) ++ ((X ++ N) ++ w)) := by
  classical
  exact List.perm_iff_count.mpr (fun a => by simp only [List.count_append]; omega)
theorem pm_wN {α : Type} (X N T S O G w M : List α) : List.Perm (((X ++ (N ++ (T ++ (S ++ (O ++ G))))) ++ w) ++ M) (((T ++ (S ++ (O ++ G))) ++ M) ++ (X ++ (w ++ N))) := by
  classical
  exact List.perm_iff_count.mpr (fun a => by simp only [List.count_append]; omega)
theorem pm_SG {α : Type} (X N T S O G w M : List α) : List.Perm (((X ++ (N ++ (T ++ (S ++ (O ++ G))))) ++ w) ++ M) (((N ++ (T ++ O)) ++ (w ++ M)) ++ (X ++ (S ++ G))) := by
  classical
  exact List.perm_iff_count.mpr (fun a => by simp only [List.count_append]; omega)
theorem pm_S {α : Type} (X N T S O G w M : List α) : List.Perm (((X ++ (N ++ (T ++ (S ++ (O ++ G))))) ++ w) ++ M) (((N ++ (T ++ (O ++ G))) ++ (w ++ M)) ++ (X ++ S)) := by
  classical
  exact List.perm_iff_count.mpr (fun a => by simp only [List.count_append]; omega)
theorem pm_C {α : Type} (X N T S O G w M : List α) : List.Perm (((X ++ (N ++ (T ++ (S ++ (O ++ G))))) ++ w) ++ M) ((w ++ M) ++ (X ++ (N ++ (T ++ (S ++ (O ++ G)))))) := by
  classical
  exact List.perm_iff_count.mpr (fun a => by simp only [List.count_append]; omega)
theorem pm_Cw {α : Type} (X N T S O G w M : List α) : List.Perm (((X ++ (N ++ (T ++ (S ++ (O ++ G))))) ++ w) ++ M) (M ++ ((X ++ (N ++ (T ++ (S ++ (O ++ G))))) ++ w)) := by
  classical
  exact List.perm_iff_count.mpr (fun a => by simp only [List.count_append]; omega)
theorem pm_Cv {α : Type} (X N T S O G w M : List α) : List.Perm (((X ++ (N ++ (T ++ (S ++ (O ++ G))))) ++ w) ++ M) (M ++ ((S ++ (O ++ G)) ++ ((X ++ (N ++ T)) ++ w))) := by
  classical
  exact List.perm_iff_count.mpr (fun a => by simp only [List.count_append]; omega)
theorem pm_M {α : Type} (X N T S O G w M : List α) : List.Perm (((X ++ (N ++ (T ++ (S ++ (O ++ G))))) ++ w) ++ M) (M ++ ((X ++ (N ++ (T ++ (S ++ (O ++ G))))) ++ w)) := by
  classical
  exact List.perm_iff_count.mpr (fun a => by simp only [List.count_append]; omega)
theorem pm_NHS {α : Type} (X N T S O G w M J : List α) : List.Perm (((X ++ (N ++ (T ++ (S ++ (O ++ G))))) ++ (w ++ J)) ++ M) (((T ++ (O ++ G)) ++ (J ++ M)) ++ (X ++ (N ++ (w ++ S)))) := by
  classical
  exact List.perm_iff_count.mpr (fun a => by simp only [List.count_append]; omega)
theorem sub_of {D : va_G} {A : Nat → Prop} {ws wc wr : va_W} {H : Heap} (h : SubX D A H wc wr) (w1 : va_W) : Sub D A ws H wc w1 (wr ++ w1) := ⟨h.1, h.2.1, h.2.2.1, fun H1 a b c => h.2.2.2 w1 H1 a b c⟩
abbrev Lw (ha hn ht hh hs ho hg h : Nat → Nat) (cs : Nat → ClassId) (b t : Bd) (sG oG oN g : Int → Int) (w : va_W) (F S A V X B : Int → Int) : va_W := ((wX ha hn ht hh hs ++ (wb hn cs b ++ (wb ht cs t ++ (wS hs hg ho sG ++ (wO ho cs oG oN ++ wG hg cs g))))) ++ w) ++ wM h cs F S A V X B
theorem iI_of (x : Int32) : iI x.toInt = x := Int32.ofInt_toInt x
theorem i32_rg (x : Int32) : -2147483648 ≤ x.toInt ∧ x.toInt ≤ 2147483647 := by
  have h1 := x.le_toInt
  have h2 := x.toInt_lt
  omega
/-- the script's number at j -/
def xv (xs : Nat → Int32) (j : Int) : Int := (xs j.toNat).toInt
theorem xv_rg (xs : Nat → Int32) (j : Int) : -2147483648 ≤ xv xs j ∧ xv xs j ≤ 2147483647 := i32_rg _
section LW
variable {p : Program} {l : Launch} {e : Env} {R : Room} {s : State} {m : MethodId} {args : Array Value} {below : List Frame} {meth : Method} {c : Code} {H H0 : Heap} {locs : List Loc} {cells slots : Nat} {Q : State → Prop} {A : Nat → Prop} {pc : Nat} {ls : Array Slot} {rest : List Value} {D : va_G} {cs : Nat → ClassId}
theorem x_arg {own : String} (hC : Cx p s m args c cL_law 4 own D cs) {b L : Nat} {xs : Nat → Int32} (hX : va_X b L xs s H0) (hbl : b < H0.size) (hbA : ¬ A b) (hS : va_S A H0 H locs) {x mm : Nat} {I : Int} (hl : lv_has ls 4 [(3, .int (iI I)), (2, .ref mm), (1, .ref x), (0, .ref b)]) (hI : 0 ≤ I ∧ I + 4 < L) (hL : L ≤ 2560) (k : Int) (hk : 0 ≤ k ∧ k ≤ 4) (d0 : decode cL_law pc = .ok (.aload_n 0, 1)) (d1 : decode cL_law (pc + 1) = .ok (.iload_n 3, 1)) (d2 : decode cL_law (pc + 2) = .ok (.iconst k, 1)) (d3 : decode cL_law (pc + 3) = .ok (.iadd, 1)) (d4 : decode cL_law (pc + 4) = .ok (.iaload, 1))
    (kk : W p l e R s m args below meth c H locs cells slots Q (F0 m (pc + 5) ls (.int (iI (xv xs (I + k))) :: rest))) : W p l e R s m args below meth c H locs cells slots Q (F0 m pc ls rest) := by
  refine x_al hC hl 3 d0 rfl rfl ?_
  refine x_il hC hl 0 d1 rfl rfl ?_
  refine x_ic hC d2 ?_
  refine x_iadd hC d3 ?_
  refine va_sld hC.1 hC.2.1 hX hbl hbA hS (iI_in (n := L) (by omega) (by omega) (by omega)) d4 ?_
  have e : xs (iI (I + k)).toNatClampNeg = iI (xv xs (I + k)) := by
    rw [iI_clamp (by omega) (by omega)]
    exact (iI_of _).symm
  rw [e]
  exact kk
end LW
/-- what holds between two calls: K calls are done -/
def Inv (D : va_G) (cs : Nat → ClassId) (A : Nat → Prop) (H0 : Heap) (b : Nat) (K : Nat) (H : Heap) (locs : List Loc) (ls : Array Slot) : Prop :=
  ∃ (ha hn ht hh hs ho hg h : Nat → Nat) (bn bt : Bd) (Q : List Bd) (sG oG oN g F S Aa V X B : Int → Int) (w : va_W), (va_P D vwCl (Lw ha hn ht hh hs ho hg h cs bn bt sG oG oN g w F S Aa V X B) H ∧ va_D A (Lw ha hn ht hh hs ho hg h cs bn bt sG oG oN g w F S Aa V X B)) ∧ va_S A H0 H locs ∧ lv_has ls 4 [(3, .int (iI (5 * (K : Int)))), (2, .ref (h 0)), (1, .ref (ha 0)), (0, .ref b)] ∧ HW hh cs Q (K : Int) w ∧ RR (6200 * (K : Int)) bn Q (sG 2) g F S V X
