def arL (cA : ClassId) (n : Nat) (f : Int → Nat → Bool) : va_E := .inl (cA, n, .inr (.inl (fun j : Nat => lN (mkN (f j) 48))))
def wM (h : Nat → Nat) (cs : Nat → ClassId) (F S A V T B : Int → Int) : va_W := [(h 0, obM h F), (h 1, arI (cs 0) 109 S), (h 2, arI (cs 0) 109 A), (h 3, arI (cs 0) 436 V), (h 4, arI (cs 0) 60 T), (h 5, arI (cs 3) 20 B)]
def wB (h : Nat → Nat) (cs : Nat → ClassId) (O : Nat → Bool) (G F E Z P R C : Int → Int) (T : Int → Nat → Bool) : va_W := [(h 0, obB h O G), (h 1, arI (cs 0) 20 F), (h 2, arI (cs 0) 20 E), (h 3, arI (cs 0) 20 Z), (h 4, arI (cs 0) 20 P), (h 5, arI (cs 0) 8 R), (h 6, arI (cs 0) 8 C), (h 7, arL (cs 1) 8 T)]
def wS (h g o : Nat → Nat) (G : Int → Int) : va_W := [(h 0, obS (g 0) (o 0) G)]
def wG (h : Nat → Nat) (cs : Nat → ClassId) (T : Int → Int) : va_W := [(h 0, arI (cs 2) 60 T)]
def wO (h : Nat → Nat) (cs : Nat → ClassId) (G N : Int → Int) : va_W := [(h 0, obO (h 1) G), (h 1, arI (cs 0) 3 N)]
theorem wMc {h : Nat → Nat} {cs : Nat → ClassId} {F S A V T B F' S' A' V' T' B' : Int → Int} (e1 : F = F') (e2 : S = S') (e3 : A = A') (e4 : V = V') (e5 : T = T') (e6 : B = B') : wM h cs F S A V T B = wM h cs F' S' A' V' T' B' := by rw [e1, e2, e3, e4, e5, e6]
theorem wBc {h : Nat → Nat} {cs : Nat → ClassId} {O O' : Nat → Bool} {G F E Z P R C G' F' E' Z' P' R' C' : Int → Int} {T T' : Int → Nat → Bool} (e0 : O = O') (e1 : G = G') (e2 : F = F') (e3 : E = E') (e4 : Z = Z') (e5 : P = P') (e6 : R = R') (e7 : C = C') (e8 : T = T') : wB h cs O G F E Z P R C T = wB h cs O' G' F' E' Z' P' R' C' T' := by rw [e0, e1, e2, e3, e4, e5, e6, e7, e8]
theorem wSc {h g o : Nat → Nat} {G G' : Int → Int} (e1 : G = G') : wS h g o G = wS h g o G' := by rw [e1]
theorem wGc {h : Nat → Nat} {cs : Nat → ClassId} {T T' : Int → Int} (e1 : T = T') : wG h cs T = wG h cs T' := by rw [e1]
theorem wOc {h : Nat → Nat} {cs : Nat → ClassId} {G N G' N' : Int → Int} (e1 : G = G') (e2 : N = N') : wO h cs G N = wO h cs G' N' := by rw [e1, e2]
theorem appc {a a' b b' : va_W} (e1 : a = a') (e2 : b = b') : a ++ b = a' ++ b' := by rw [e1, e2]
theorem vPe {D : va_G} {cl : List vw_C} {ws ws' : va_W} {H : Heap} (h : va_P D cl ws H) (e : ws = ws') : va_P D cl ws' H := e ▸ h
theorem vDe {A : Nat → Prop} {ws ws' : va_W} (h : va_D A ws) (e : ws = ws') : va_D A ws' := e ▸ h
theorem b2p_nar {P : Prop} : narrow .boolean (.int (iI (b2p P))) = .int (iI (b2p P)) := by
  by_cases h : P
  · rw [b2p_t h]; rfl
  · rw [b2p_f h]; rfl
theorem b2p_vnar {P : Prop} : vp_nar .boolean (iI (b2p P)) = iI (b2p P) := by
  by_cases h : P
  · rw [b2p_t h]; rfl
  · rw [b2p_f h]; rfl
theorem lcE {i : Nat} {v v' : Value} {l l' : List (Nat × Value)} (h1 : v = v') (h2 : l = l') : (i, v) :: l = (i, v') :: l' := by rw [h1, h2]
theorem lvE {ls : Array Slot} {n : Nat} {l l' : List (Nat × Value)} (h : lv_has ls n l) (e : l = l') : lv_has ls n l' := e ▸ h
section XE
variable {p : Program} {l : Launch} {e : Env} {R : Room} {s : State} {m : MethodId} {args : Array Value} {below : List Frame} {meth : Method} {c : Code} {H H0 : Heap} {locs : List Loc} {cells slots : Nat} {Q : State → Prop} {A : Nat → Prop} {pc : Nat} {ls : Array Slot} {rest : List Value} {cc : ByteArray} {nL : Nat} {own : String} {D : va_G} {cs : Nat → ClassId} {ws : va_W} {a : Nat} {mc ms : Nat} {w1 : va_W}
theorem x_retI {v val : Int32} (ev : v = val) (hend : ∀ (H : Heap) (locs : List Loc) (pc : Nat) (ls' : Array Slot), va_P D vwCl w1 H → va_D A w1 → va_S A s.heap H locs → decode cc pc = .ok (.ireturn, 1) → W p l e R s m args below meth c H locs mc ms Q (F0 m pc ls' [.int val])) (hP : va_P D vwCl w1 H) (hD : va_D A w1) (hS : va_S A s.heap H locs) (d : decode cc pc = .ok (.ireturn, 1)) : W p l e R s m args below meth c H locs mc ms Q (F0 m pc ls [.int v]) := by
  subst ev
  exact hend H locs pc ls hP hD hS d
theorem x_retL {v val : Int64} (ev : v = val) (hend : ∀ (H : Heap) (locs : List Loc) (pc : Nat) (ls' : Array Slot), va_P D vwCl w1 H → va_D A w1 → va_S A s.heap H locs → decode cc pc = .ok (.lreturn, 1) → W p l e R s m args below meth c H locs mc ms Q (F0 m pc ls' [.long val])) (hP : va_P D vwCl w1 H) (hD : va_D A w1) (hS : va_S A s.heap H locs) (d : decode cc pc = .ok (.lreturn, 1)) : W p l e R s m args below meth c H locs mc ms Q (F0 m pc ls [.long v]) := by
  subst ev
  exact hend H locs pc ls hP hD hS d
theorem sub_par0 {ws ws' wc w1 : va_W} (isC isR : List Nat) (hP : va_P D vwCl ws H) (hD : va_D A ws) (hS : va_S A H0 H locs) (hA : ∀ q, H0.size ≤ q → A q)
    (hC : isC.map (fun i => ws[i]?) = wc.map some) (hC' : isC.map (fun i => ws'[i]?) = w1.map some) (hnd : va_nd isC = true) (hlen : ws'.length = ws.length) (hR : isR.map (fun i => ws'[i]?) = isR.map (fun i => ws[i]?)) (hcov : (List.range ws.length).all (fun i => isC.contains i || isR.contains i) = true) : Sub D A ws H wc w1 ws' := by
  have h := sub_part (pre := ws) (pre' := ws') (suf := []) isC isR (by rw [List.append_nil]; exact hP) (by rw [List.append_nil]; exact hD) hS hA hC hC' hnd hlen hR hcov
  rw [List.append_nil, List.append_nil] at h
  exact h
theorem x_tsIn (hC : Cx p s m args c cc nL own D cs) (tgt : Nat) {dflt lo hi : Int} {offs : Array Int} {len : Nat} {a off : Int} (d : decode cc pc = .ok (.tableswitch dflt lo hi offs, len)) (ha : -2147483648 ≤ a ∧ a ≤ 2147483647) (h1 : ¬ a < lo) (h2 : ¬ hi < a) (ho : offs[(a - lo).toNat]? = some off) (ht : (pc : Int) + off = (tgt : Int)) (kk : W p l e R s m args below meth c H locs cells slots Q (F0 m tgt ls rest)) : W p l e R s m args below meth c H locs cells slots Q (F0 m pc ls (.int (iI a) :: rest)) :=
  lv_tableIn hC.1 hC.2.1 d (by rw [iI_toInt ha]; exact h1) (by rw [iI_toInt ha]; exact h2) (by rw [iI_toInt ha]; exact ho) ht kk
theorem x_tsOut (hC : Cx p s m args c cc nL own D cs) (tgt : Nat) {dflt lo hi : Int} {offs : Array Int} {len : Nat} {a : Int} (d : decode cc pc = .ok (.tableswitch dflt lo hi offs, len)) (ha : -2147483648 ≤ a ∧ a ≤ 2147483647) (h : a < lo ∨ hi < a) (ht : (pc : Int) + dflt = (tgt : Int)) (kk : W p l e R s m args below meth c H locs cells slots Q (F0 m tgt ls rest)) : W p l e R s m args below meth c H locs cells slots Q (F0 m pc ls (.int (iI a) :: rest)) :=
  lv_tableOut hC.1 hC.2.1 d (by rw [iI_toInt ha]; exact h) ht kk
theorem x_look (hC : Cx p s m args c cc nL own D cs) (tgt : Nat) {dflt : Int} {ps : Array (Int × Int)} {len : Nat} {a off : Int} (d : decode cc pc = .ok (.lookupswitch dflt ps, len)) (hp : (ps.toList.zip (ps.toList.drop 1)).all (fun (a, next) => a.1 < next.1) = true) (ha : -2147483648 ≤ a ∧ a ≤ 2147483647) (ho : Op.lookupswitch.offset ps.toList dflt a = off) (ht : (pc : Int) + off = (tgt : Int)) (kk : W p l e R s m args below meth c H locs cells slots Q (F0 m tgt ls rest)) : W p l e R s m args below meth c H locs cells slots Q (F0 m pc ls (.int (iI a) :: rest)) :=
  lv_lookup hC.1 hC.2.1 d hp (by rw [iI_toInt ha]; exact ho) ht kk
theorem x_lald (hC : Cx p s m args c cc nL own D cs) (hP : va_P D vwCl ws H) (q0 : Nat) {n : Nat} {f : Int → Nat → Bool} (he : ws[q0]? = some (a, arL (cs 1) n f)) {i : Int} (h0 : 0 ≤ i ∧ i < n) (hn : n < 2 ^ 31) (d : decode cc pc = .ok (.laload, 1)) (kk : W p l e R s m args below meth c H locs cells slots Q (F0 m (pc + 1) ls (.long (lN (mkN (f i) 48)) :: rest))) : W p l e R s m args below meth c H locs cells slots Q (F0 m pc ls (.int (iI i) :: .ref a :: rest)) := by
  refine va_lald hC.1 hC.2.1 hC.2.2.2.2.2.1 hP q0 1 he rfl (iI_in h0.1 h0.2 hn) d ?_
  show W p l e R s m args below meth c H locs cells slots Q (F0 m (pc + 1) ls (.long (lN (mkN (f ((iI i).toNatClampNeg : Nat)) 48)) :: rest))
  rw [iI_clamp h0.1 (by omega), Int.toNat_of_nonneg h0.1]
  exact kk
theorem updL_lN (g : Int → Nat → Bool) (i : Int) (f : Nat → Bool) (h0 : 0 ≤ i) (h1 : i ≤ 2147483647) : vp_updL (fun j : Nat => lN (mkN (g j) 48)) (iI i).toNatClampNeg (lN (mkN f 48)) = fun j : Nat => lN (mkN (u1 g i f j) 48) := by
  funext j
  rw [iI_clamp h0 h1]
  unfold vp_updL u1
  by_cases h : j = i.toNat
  · rw [if_pos h, if_pos (by omega)]
  · rw [if_neg h, if_neg (by omega)]
theorem x_last (hC : Cx p s m args c cc nL own D cs) (f : Nat → Bool) (hP : va_P D vwCl ws H) (hD : va_D A ws) (hS : va_S A H0 H locs) (q0 : Nat) {n : Nat} {g : Int → Nat → Bool} (he : ws[q0]? = some (a, arL (cs 1) n g)) {i : Int} (h0 : 0 ≤ i ∧ i < n) (hn : n < 2 ^ 31) (d : decode cc pc = .ok (.lastore, 1)) (kk : ∀ (H1 : Heap) (locs1 : List Loc), va_P D vwCl (ws.set q0 (a, arL (cs 1) n (u1 g i f))) H1 → va_D A (ws.set q0 (a, arL (cs 1) n (u1 g i f))) → va_S A H0 H1 locs1 → W p l e R s m args below meth c H1 locs1 cells slots Q (F0 m (pc + 1) ls rest)) : W p l e R s m args below meth c H locs cells slots Q (F0 m pc ls (.long (lN (mkN f 48)) :: .int (iI i) :: .ref a :: rest)) := by
  refine va_last hC.1 hC.2.1 hC.2.2.2.2.2.1 hP hD hS q0 1 he rfl (iI_in h0.1 h0.2 hn) d ?_
  rw [updL_lN g i f h0.1 (by omega)]
  exact kk
theorem x_put0_7 (hC : Cx p s m args c cc nL RX0 D cs) (hP : va_P D vwCl ws H) (hD : va_D A ws) (hS : va_S A H0 H locs) (q0 : Nat) {h : Nat → Nat} {o o' : Nat → Bool} {G : Int → Int} (he : ws[q0]? = some (a, obB h o G)) {idx : Nat} (hlk : Cond.fieldLink RX0 idx RX0 (TX0 7).2.1 (TX0 7).2.2.1 ∈ lw_tbl) (d : decode cc pc = .ok (.putfield idx, 3)) (kk : ∀ (H1 : Heap) (locs1 : List Loc), va_P D vwCl (ws.set q0 (a, obB h o' G)) H1 → va_D A (ws.set q0 (a, obB h o' G)) → va_S A H0 H1 locs1 → W p l e R s m args below meth c H1 locs1 cells slots Q (F0 m (pc + 3) ls rest)) : W p l e R s m args below meth c H locs cells slots Q (F0 m pc ls (.int (nI (mkN o' 8)) :: .ref a :: rest)) := va_put (D := D) (ci := 0) (v := .int (nI (mkN o' 8))) (ty := .int) (C := RX0) (T := TX0) (N := 13) hC.1 hC.2.1 hC.2.2.2.2.1 inT0 tyX0 tyX0_ok nmX0 hC.2.2.2.1 hC.2.2.2.2.2.1 hP hD hS q0 he rfl 7 (by decide) (x_w hC hlk rfl) (fun _ h9 => h9) rfl (by decide +kernel) rfl rfl (Nat.le_of_ble_eq_true rfl) d kk
noncomputable def mmax2 (a b : Int) : Int := iif (a < b) b a
noncomputable def mmin2 (a b : Int) : Int := iif (b < a) b a
theorem mmax2_rg (a b : Int) : (a ≤ mmax2 a b ∧ b ≤ mmax2 a b) ∧ (mmax2 a b = a ∨ mmax2 a b = b) := by
  unfold mmax2 iif
  split <;> omega
theorem x_mmax (hC : Cx p s m args c cc nL own D cs) {index : Nat} (k1 : Cond.methodLink own index Lib.Math.max.name ∈ lw_tbl) (k2 : Cond.static Lib.Math.max.name ∈ lw_tbl) (k3 : Cond.initialized "java/lang/Math" ∈ lw_tbl) (k4 : Cond.code Lib.Math.max.name Lib.Math.max.code 2 (some .int) ∈ lw_tbl) (hls : ls.size = nL) (hf : 1 ≤ R.frames) (hlo : (rest.map fun v => v.category).sum + 13 ≤ R.locals) (hc : cells ≤ R.cells) (hs : slots ≤ R.slots) {a b : Int} (ha : -2147483648 ≤ a ∧ a ≤ 2147483647) (hb : -2147483648 ≤ b ∧ b ≤ 2147483647) (d : decode cc pc = .ok (.invokestatic index, 3)) (kk : W p l e R s m args below meth c H locs cells slots Q (F0 m (pc + 3) ls (.int (iI (mmax2 a b)) :: rest))) : W p l e R s m args below meth c H locs cells slots Q (F0 m pc ls (.int (iI b) :: .int (iI a) :: rest)) := by
  refine va_mmax hC.1 hC.2.1 (hC.2.2.1.trans hls.symm) hC.2.2.2.1 (x_w hC k1 rfl) (x_w hC k2 rfl) (x_w hC k3 rfl) (x_w hC k4 rfl) hf hlo hc hs d ?_
  have e1 : (if iI a < iI b then iI b else iI a) = iI (mmax2 a b) := by
    unfold mmax2
    by_cases h : a < b
    · rw [if_pos ((iI_lt ha hb).mpr h), iif_t h]
    · rw [if_neg (fun h2 => h ((iI_lt ha hb).mp h2)), iif_f h]
  rw [e1]
  exact kk
theorem x_mmin (hC : Cx p s m args c cc nL own D cs) {index : Nat} (k1 : Cond.methodLink own index Lib.Math.min.name ∈ lw_tbl) (k2 : Cond.static Lib.Math.min.name ∈ lw_tbl) (k3 : Cond.initialized "java/lang/Math" ∈ lw_tbl) (k4 : Cond.code Lib.Math.min.name Lib.Math.min.code 2 (some .int) ∈ lw_tbl) (hls : ls.size = nL) (hf : 1 ≤ R.frames) (hlo : (rest.map fun v => v.category).sum + 13 ≤ R.locals) (hc : cells ≤ R.cells) (hs : slots ≤ R.slots) {a b : Int} (ha : -2147483648 ≤ a ∧ a ≤ 2147483647) (hb : -2147483648 ≤ b ∧ b ≤ 2147483647) (d : decode cc pc = .ok (.invokestatic index, 3)) (kk : W p l e R s m args below meth c H locs cells slots Q (F0 m (pc + 3) ls (.int (iI (mmin2 a b)) :: rest))) : W p l e R s m args below meth c H locs cells slots Q (F0 m pc ls (.int (iI b) :: .int (iI a) :: rest)) := by
  refine va_mmin hC.1 hC.2.1 (hC.2.2.1.trans hls.symm) hC.2.2.2.1 (x_w hC k1 rfl) (x_w hC k2 rfl) (x_w hC k3 rfl) (x_w hC k4 rfl) hf hlo hc hs d ?_
  have e1 : (if iI b < iI a then iI b else iI a) = iI (mmin2 a b) := by
    unfold mmin2
    by_cases h : b < a
    · rw [if_pos ((iI_lt hb ha).mpr h), iif_t h]
    · rw [if_neg (fun h2 => h ((iI_lt hb ha).mp h2)), iif_f h]
  rw [e1]
  exact kk
end XE
