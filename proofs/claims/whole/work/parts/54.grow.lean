/-! worlds whose lists may grow: contracts, calls, things that are made -/
theorem vP_perm {D : va_G} {cl : List vw_C} {ws ws' : va_W} {H : Heap} (h : va_P D cl ws H) (hp : List.Perm ws ws') : va_P D cl ws' H := by
  intro k q hk
  have h1 : q ∈ ws := hp.mem_iff.mpr (List.mem_of_getElem? hk)
  obtain ⟨j, hj⟩ := List.getElem?_of_mem h1
  exact h j q hj
theorem vD_iff {A : Nat → Prop} {ws : va_W} : va_D A ws ↔ (ws.map Prod.fst).Nodup ∧ ∀ q ∈ ws, A q.1 := by
  constructor
  · intro h
    refine ⟨?_, fun q hq => ?_⟩
    · refine List.pairwise_iff_getElem.mpr (fun i j hi hj hij he => ?_)
      rw [List.length_map] at hi hj
      rw [List.getElem_map, List.getElem_map] at he
      have := h.1 i j _ _ (List.getElem?_eq_getElem hi) (List.getElem?_eq_getElem hj) he
      omega
    · obtain ⟨j, hj⟩ := List.getElem?_of_mem hq
      exact h.2 j q hj
  · intro h
    refine ⟨fun i j p q hi hj hpq => ?_, fun k q hk => h.2 q (List.mem_of_getElem? hk)⟩
    refine (List.getElem?_inj (l := ws.map Prod.fst) (by rw [List.length_map]; exact (List.getElem?_eq_some_iff.mp hi).1) h.1).mp ?_
    rw [List.getElem?_map, List.getElem?_map, hi, hj]
    exact congrArg some hpq
theorem vD_perm {A : Nat → Prop} {ws ws' : va_W} (h : va_D A ws) (hp : List.Perm ws ws') : va_D A ws' := by
  rw [vD_iff] at h ⊢
  exact ⟨(hp.map Prod.fst).nodup_iff.mp h.1, fun q hq => h.2 q (hp.mem_iff.mpr hq)⟩
theorem vA_perm {ws ws' : va_W} {sz : Nat} (hp : List.Perm ws ws') {q : Nat} (h : va_A ws sz q) : va_A ws' sz q := by
  rcases h with ⟨k, e, h⟩ | h
  · obtain ⟨j, hj⟩ := List.getElem?_of_mem (hp.mem_iff.mp (List.mem_of_getElem? h))
    exact Or.inl ⟨j, e, hj⟩
  · exact Or.inr h
theorem vP_app {D : va_G} {cl : List vw_C} {w1 w2 : va_W} {H : Heap} (h : va_P D cl (w1 ++ w2) H) : va_P D cl w1 H ∧ va_P D cl w2 H := by
  refine ⟨fun k q hk => ?_, fun k q hk => ?_⟩
  · obtain ⟨j, hj⟩ := List.getElem?_of_mem (List.mem_append_left w2 (List.mem_of_getElem? hk))
    exact h j q hj
  · obtain ⟨j, hj⟩ := List.getElem?_of_mem (List.mem_append_right w1 (List.mem_of_getElem? hk))
    exact h j q hj
theorem vD_app {A : Nat → Prop} {w1 w2 : va_W} (h : va_D A (w1 ++ w2)) : va_D A w1 ∧ va_D A w2 ∧ ∀ x ∈ w1, ∀ y ∈ w2, x.1 ≠ y.1 := by
  rw [vD_iff, List.map_append, List.nodup_append] at h
  refine ⟨vD_iff.mpr ⟨h.1.1, fun q hq => h.2 q (List.mem_append_left w2 hq)⟩, vD_iff.mpr ⟨h.1.2.1, fun q hq => h.2 q (List.mem_append_right w1 hq)⟩, fun x hx y hy => ?_⟩
  exact h.1.2.2 x.1 (List.mem_map.mpr ⟨x, hx, rfl⟩) y.1 (List.mem_map.mpr ⟨y, hy, rfl⟩)
/-- wc goes to a callee, wr stays -/
def SubX (D : va_G) (A : Nat → Prop) (H : Heap) (wc wr : va_W) : Prop := va_P D vwCl wc H ∧ va_D (fun _ => True) wc ∧ (∀ q, va_A wc H.size q → A q) ∧ ∀ (w1 : va_W) (H1 : Heap), (∀ q : Nat, q < H.size → ¬ va_A wc H.size q → H1[q]? = H[q]?) → va_P D vwCl w1 H1 → va_D (va_A wc H.size) w1 → va_P D vwCl (wr ++ w1) H1 ∧ va_D A (wr ++ w1)
theorem subX {D : va_G} {A : Nat → Prop} {ws wc wr : va_W} {H H0 : Heap} {locs : List Loc} (hp : List.Perm ws (wr ++ wc)) (hP : va_P D vwCl ws H) (hD : va_D A ws) (hS : va_S A H0 H locs) (hA : ∀ q, H0.size ≤ q → A q) : SubX D A H wc wr := by
  have hP2 := vP_app (vP_perm hP hp)
  have hD2 := vD_app (vD_perm hD hp)
  have hF : ∀ q, va_A wc H.size q → A q := by
    intro q h
    rcases h with ⟨k, e, h⟩ | h
    · exact hD2.2.1.2 k (q, e) h
    · exact hA q (Nat.le_trans hS.1 h)
  have apart : ∀ x ∈ wr, x.1 < H.size ∧ ¬ va_A wc H.size x.1 := by
    intro x hx
    obtain ⟨j, hj⟩ := List.getElem?_of_mem hx
    have hl := (hP2.1 j x hj).lt
    refine ⟨hl, fun h => ?_⟩
    rcases h with ⟨k, e, h⟩ | h
    · exact hD2.2.2 x hx (x.1, e) (List.mem_of_getElem? h) rfl
    · omega
  refine ⟨hP2.2, hD2.2.1.weaken (fun _ _ _ _ => trivial), hF, fun w1 H1 hk hP1 hD1 => ⟨va_P.app (fun k q hq => ?_) hP1, va_D.app hD2.1 (hD1.weaken (fun k q _ h => hF q.1 h)) (fun i j x y hx hy hxy => ?_)⟩⟩
  · obtain ⟨g1, g2⟩ := apart q (List.mem_of_getElem? hq)
    exact (hP2.1 k q hq).kept (hk q.1 g1 g2)
  · exact (apart x (List.mem_of_getElem? hx)).2 (by rw [hxy]; exact hD1.2 j y hy)
/-- contracts whose end is any world with a property -/
def CX (l : Launch) (D : va_G) (cs : Nat → ClassId) (y : MethodName) (bytes : ByteArray) (maxL : Nat) (ret : FieldType) (rm : Room) (mc ms : Nat) (av : List Value) (wc : va_W) (Post : Int32 → va_W → Prop) : Prop :=
  ∀ sz : Nat, Met l y (.code y bytes maxL (some ret) :: TB) rm (va_Pc av (PreW D cs wc sz)) (va_Qi Post (fun w1 t => va_P D vwCl w1 t.heap ∧ va_D (va_A wc sz) w1) (va_A wc sz)) mc ms (va_A wc sz)
def CY (l : Launch) (D : va_G) (cs : Nat → ClassId) (y : MethodName) (bytes : ByteArray) (maxL : Nat) (rm : Room) (mc ms : Nat) (av : List Value) (wc : va_W) (Post : va_W → Prop) : Prop :=
  ∀ sz : Nat, Met l y (.code y bytes maxL none :: TB) rm (va_Pc av (PreW D cs wc sz)) (va_Qv Post (fun w1 t => va_P D vwCl w1 t.heap ∧ va_D (va_A wc sz) w1) (va_A wc sz)) mc ms (va_A wc sz)
theorem CX_start {l : Launch} {D : va_G} {cs : Nat → ClassId} {y : MethodName} {bytes : ByteArray} {maxL : Nat} {rm : Room} {mc ms : Nat} {av : List Value} {wc : va_W} {Post : Int32 → va_W → Prop} {own : String}
    (hy : plainName y.cls = true) (ho : y.cls = own) (hal : (lg_sl av).length ≤ maxL)
    (body : ∀ (p : Program) (e : Env) (s : State) (m : MethodId) (args : Array Value) (below : List Frame) (meth : Method) (c : Code) (Q : State → Prop) (A : Nat → Prop) (ls : Array Slot), Cx p s m args c bytes maxL own D cs → lv_has ls maxL (lv_args 0 av) → va_P D vwCl wc s.heap → va_D A wc → (∀ q, s.heap.size ≤ q → A q) → va_S A s.heap s.heap [] →
      (∀ (H : Heap) (locs : List Loc) (pc : Nat) (ls' : Array Slot) (v : Int32) (w1 : va_W), Post v w1 → va_P D vwCl w1 H → va_D A w1 → va_S A s.heap H locs → decode bytes pc = .ok (.ireturn, 1) → W p l e rm s m args below meth c H locs mc ms Q (F0 m pc ls' [.int v])) → W p l e rm s m args below meth c s.heap [] 0 0 Q (F0 m 0 ls [])) : CX l D cs y bytes maxL .int rm mc ms av wc Post := by
  intro sz
  refine Met.ofW (cc := bytes) (maxL := maxL) (ret := some .int) hy rfl ?_
  intro p e s m args below meth c s₁ B hml hv
  obtain ⟨rfl, hsz, hP, hK, hD0⟩ := hv
  have hx := B.exec
  have hb := B.bytes
  have hr := B.returns
  have hts := atoms_spec (ws := .code y bytes maxL (some .int) :: TB) B.pre
  have hown : s.vm.findClass own = some m.cls := ho ▸ findClass_of_methodNamed B.named
  have hlocks := B.notSynchronized
  subst hsz
  have hD := hD0.self (sz := s.heap.size)
  have hl := lv_entry av hal
  rw [lg_entry_eq]
  refine body p e s m _ below meth c _ _ _ ⟨hx, hb, hml, hown, fun w hw => hts w (List.mem_cons_of_mem _ hw), hK⟩ hl hP hD (fun q h => Or.inr h) va_S.rf ?_
  intro H locs pc ls' v w1 hpost hP1 hD1 hS1 hd
  exact W.zret hx hb hr rfl (fun t ht hW => ⟨⟨v, w1, rfl, hpost, by rw [ht]; exact hP1, hD1⟩, hS1.F ht⟩) hS1.2.2 hd
theorem CY_start {l : Launch} {D : va_G} {cs : Nat → ClassId} {y : MethodName} {bytes : ByteArray} {maxL : Nat} {rm : Room} {mc ms : Nat} {av : List Value} {wc : va_W} {Post : va_W → Prop} {own : String}
    (hy : plainName y.cls = true) (ho : y.cls = own) (hal : (lg_sl av).length ≤ maxL)
    (body : ∀ (p : Program) (e : Env) (s : State) (m : MethodId) (args : Array Value) (below : List Frame) (meth : Method) (c : Code) (Q : State → Prop) (A : Nat → Prop) (ls : Array Slot), Cx p s m args c bytes maxL own D cs → lv_has ls maxL (lv_args 0 av) → va_P D vwCl wc s.heap → va_D A wc → (∀ q, s.heap.size ≤ q → A q) → va_S A s.heap s.heap [] → meth.name = y.name →
      (∀ (H : Heap) (locs : List Loc) (pc : Nat) (ls' : Array Slot) (w1 : va_W), Post w1 → va_P D vwCl w1 H → va_D A w1 → va_S A s.heap H locs → decode bytes pc = .ok (.return_, 1) → W p l e rm s m args below meth c H locs mc ms Q (F0 m pc ls' [])) → W p l e rm s m args below meth c s.heap [] 0 0 Q (F0 m 0 ls [])) : CY l D cs y bytes maxL rm mc ms av wc Post := by
  intro sz
  refine Met.ofW (cc := bytes) (maxL := maxL) (ret := none) hy rfl ?_
  intro p e s m args below meth c s₁ B hml hv
  obtain ⟨rfl, hsz, hP, hK, hD0⟩ := hv
  have hx := B.exec
  have hb := B.bytes
  have hr := B.returns
  have hts := atoms_spec (ws := .code y bytes maxL none :: TB) B.pre
  have hown : s.vm.findClass own = some m.cls := ho ▸ findClass_of_methodNamed B.named
  have hlocks := B.notSynchronized
  subst hsz
  have hD := hD0.self (sz := s.heap.size)
  have hl := lv_entry av hal
  rw [lg_entry_eq]
  refine body p e s m _ below meth c _ _ _ ⟨hx, hb, hml, hown, fun w hw => hts w (List.mem_cons_of_mem _ hw), hK⟩ hl hP hD (fun q h => Or.inr h) va_S.rf (name_of_methodNamed B.named B.method).1 ?_
  intro H locs pc ls' w1 hpost hP1 hD1 hS1 hd
  exact W.vret hx hb hr (fun t ht hW => ⟨⟨w1, rfl, hpost, by rw [ht]; exact hP1, hD1⟩, hS1.F ht⟩) hS1.2.2 hd
def LkI (own : String) (idx : Nat) (y : MethodName) (bytes : ByteArray) (maxL : Nat) (n : Nat) : Prop := Cond.code y bytes maxL none ∈ lw_tbl ∧ Cond.methodLink own idx y ∈ lw_tbl ∧ Cond.instanceMethod y ∈ lw_tbl ∧ Cond.initialized y.cls ∈ lw_tbl ∧ y.name = "<init>" ∧ (y.cls ≠ "java/lang/invoke/MethodHandle" ∧ y.cls ≠ "java/lang/invoke/VarHandle" ∧ (parseMethodDescriptor y.desc).map (fun d => d.parameters.length) = some n)
def LkJ (own : String) (idx : Nat) (y : MethodName) (host : String) (bytes : ByteArray) (maxL : Nat) (n : Nat) : Prop := Cond.code y bytes maxL none ∈ lw_tbl ∧ (own, idx, y, host) ∈ NWl ∧ Cond.instanceMethod y ∈ lw_tbl ∧ Cond.initialized y.cls ∈ lw_tbl ∧ y.name = "<init>" ∧ (y.cls ≠ "java/lang/invoke/MethodHandle" ∧ y.cls ≠ "java/lang/invoke/VarHandle" ∧ (parseMethodDescriptor y.desc).map (fun d => d.parameters.length) = some n)
section XG
variable {p : Program} {l : Launch} {e : Env} {R : Room} {s : State} {m : MethodId} {args : Array Value} {below : List Frame} {meth : Method} {c : Code} {H H0 : Heap} {locs : List Loc} {cells slots : Nat} {Q : State → Prop} {A : Nat → Prop} {pc : Nat} {ls : Array Slot} {rest : List Value} {cc : ByteArray} {nL : Nat} {own : String} {D : va_G} {cs : Nat → ClassId} {ws : va_W} {a : Nat}

theorem x_vX (hC : Cx p s m args c cc nL own D cs) {y : MethodName} {bytes : ByteArray} {maxL n mc ms idx : Nat} {ret : FieldType} {rm : Room} {As : List Value} {wc wr : va_W} {Post : Int32 → va_W → Prop} {b : Nat} (hM : CX l D cs y bytes maxL ret rm mc ms (.ref b :: As) wc Post) (hk : LkV own idx y bytes maxL (some ret) n) {q0 ci : Nat} {q : vw_C} {fs : List Value} (hrc : vwCl[ci]? = some q) (hre : ws[q0]? = some (b, .inr (ci, fs))) (hrq : q.1 = y.cls) (hSb : SubX D A H wc wr) (hP : va_P D vwCl ws H) (hS : va_S A H0 H locs) (hn : As.length = n) (hls : ls.size = nL) {st : List Value} (hst : st = As.reverse ++ .ref b :: rest) (hcat : (rest.map fun v => v.category).sum ≤ 8) (hrm : rm.cells = mc ∧ rm.slots = ms) (hR : rm.frames + 1 ≤ R.frames ∧ 8 + (maxL + 11) + rm.locals ≤ R.locals) (hfit : cells + mc ≤ R.cells ∧ slots + ms ≤ R.slots) (d : decode cc pc = .ok (.invokevirtual idx, 3)) (kk : ∀ (v : Int32) (w1 : va_W) (H1 : Heap) (locs1 : List Loc), Post v w1 → va_P D vwCl (wr ++ w1) H1 → va_D A (wr ++ w1) → va_S A H0 H1 locs1 → H.size ≤ H1.size → W p l e R s m args below meth c H1 locs1 (cells + mc) (slots + ms) Q (F0 m (pc + 3) ls (.int v :: rest))) : W p l e R s m args below meth c H locs cells slots Q (F0 m pc ls st) := by
  subst hst
  refine va_calli (va_runV (As := As) (rest := rest) ⟨hC.1, hC.2.1, hC.2.2.1, hC.2.2.2.1, hC.2.2.2.2.1⟩ (hM H.size) ⟨callB_of n hC.2.2.2.2.1 (tb_gi hk.1) rfl hrm.1 hrm.2 (x_w hC hk.2.2.2.2.1 rfl) (x_w hC hk.2.1 rfl) hk.2.2.2.2.2 hR, x_w hC hk.2.2.1 rfl, x_w hC hk.2.2.2.1 rfl⟩ ⟨PreW_blind, hrq ▸ x_recv hC hP hrc hre, fun U hU hW => ⟨rfl, by rw [hU], by rw [hU]; exact hSb.1, KK_warm hW hC.2.2.2.2.2, hSb.2.1⟩⟩ rfl hn hls rfl (lv_room hcat) d ⟨hfit.1, hfit.2⟩) hS (fun q _ h => hSb.2.2.1 q h) hSb.2.2.1 (fun v w1 t H1 locs1 ht _ hw hB hz1 hk1 hS1 => ?_)
  rw [ht] at hB
  obtain ⟨g1, g2⟩ := hSb.2.2.2 w1 H1 hk1 hB.1 hB.2
  exact kk v w1 H1 locs1 hw g1 g2 hS1 hz1
theorem x_vY (hC : Cx p s m args c cc nL own D cs) {y : MethodName} {bytes : ByteArray} {maxL n mc ms idx : Nat} {rm : Room} {As : List Value} {wc wr : va_W} {Post : va_W → Prop} {b : Nat} (hM : CY l D cs y bytes maxL rm mc ms (.ref b :: As) wc Post) (hk : LkV own idx y bytes maxL none n) {q0 ci : Nat} {q : vw_C} {fs : List Value} (hrc : vwCl[ci]? = some q) (hre : ws[q0]? = some (b, .inr (ci, fs))) (hrq : q.1 = y.cls) (hSb : SubX D A H wc wr) (hP : va_P D vwCl ws H) (hS : va_S A H0 H locs) (hn : As.length = n) (hls : ls.size = nL) {st : List Value} (hst : st = As.reverse ++ .ref b :: rest) (hcat : (rest.map fun v => v.category).sum ≤ 8) (hrm : rm.cells = mc ∧ rm.slots = ms) (hR : rm.frames + 1 ≤ R.frames ∧ 8 + (maxL + 11) + rm.locals ≤ R.locals) (hfit : cells + mc ≤ R.cells ∧ slots + ms ≤ R.slots) (d : decode cc pc = .ok (.invokevirtual idx, 3)) (kk : ∀ (w1 : va_W) (H1 : Heap) (locs1 : List Loc), Post w1 → va_P D vwCl (wr ++ w1) H1 → va_D A (wr ++ w1) → va_S A H0 H1 locs1 → H.size ≤ H1.size → W p l e R s m args below meth c H1 locs1 (cells + mc) (slots + ms) Q (F0 m (pc + 3) ls (rest))) : W p l e R s m args below meth c H locs cells slots Q (F0 m pc ls st) := by
  subst hst
  refine va_callv (va_runV (As := As) (rest := rest) ⟨hC.1, hC.2.1, hC.2.2.1, hC.2.2.2.1, hC.2.2.2.2.1⟩ (hM H.size) ⟨callB_of n hC.2.2.2.2.1 (tb_gi hk.1) rfl hrm.1 hrm.2 (x_w hC hk.2.2.2.2.1 rfl) (x_w hC hk.2.1 rfl) hk.2.2.2.2.2 hR, x_w hC hk.2.2.1 rfl, x_w hC hk.2.2.2.1 rfl⟩ ⟨PreW_blind, hrq ▸ x_recv hC hP hrc hre, fun U hU hW => ⟨rfl, by rw [hU], by rw [hU]; exact hSb.1, KK_warm hW hC.2.2.2.2.2, hSb.2.1⟩⟩ rfl hn hls rfl (lv_room hcat) d ⟨hfit.1, hfit.2⟩) hS (fun q _ h => hSb.2.2.1 q h) hSb.2.2.1 (fun w1 t H1 locs1 ht _ hw hB hz1 hk1 hS1 => ?_)
  rw [ht] at hB
  obtain ⟨g1, g2⟩ := hSb.2.2.2 w1 H1 hk1 hB.1 hB.2
  exact kk w1 H1 locs1 hw g1 g2 hS1 hz1
theorem x_iY (hC : Cx p s m args c cc nL own D cs) {y : MethodName} {bytes : ByteArray} {maxL n mc ms idx : Nat} {rm : Room} {As : List Value} {wc wr : va_W} {Post : va_W → Prop} {b : Nat} (hM : CY l D cs y bytes maxL rm mc ms (.ref b :: As) wc Post) (hk : LkI own idx y bytes maxL n) (hSb : SubX D A H wc wr) (hP : va_P D vwCl ws H) (hS : va_S A H0 H locs) (hn : As.length = n) (hls : ls.size = nL) {st : List Value} (hst : st = As.reverse ++ .ref b :: rest) (hcat : (rest.map fun v => v.category).sum ≤ 8) (hrm : rm.cells = mc ∧ rm.slots = ms) (hR : rm.frames + 1 ≤ R.frames ∧ 8 + (maxL + 11) + rm.locals ≤ R.locals) (hfit : cells + mc ≤ R.cells ∧ slots + ms ≤ R.slots) (d : decode cc pc = .ok (.invokespecial idx, 3)) (kk : ∀ (w1 : va_W) (H1 : Heap) (locs1 : List Loc), Post w1 → va_P D vwCl (wr ++ w1) H1 → va_D A (wr ++ w1) → va_S A H0 H1 locs1 → H.size ≤ H1.size → W p l e R s m args below meth c H1 locs1 (cells + mc) (slots + ms) Q (F0 m (pc + 3) ls (rest))) : W p l e R s m args below meth c H locs cells slots Q (F0 m pc ls st) := by
  subst hst
  refine va_callv (va_runI (As := As) (rest := rest) ⟨hC.1, hC.2.1, hC.2.2.1, hC.2.2.2.1, hC.2.2.2.2.1⟩ (hM H.size) ⟨callB_of n hC.2.2.2.2.1 (tb_gi hk.1) rfl hrm.1 hrm.2 (x_w hC hk.2.2.2.1 rfl) (x_w hC hk.2.1 rfl) hk.2.2.2.2.2 hR, hk.2.2.2.2.1, x_w hC hk.2.2.1 rfl⟩ ⟨PreW_blind, fun U hU hW => ⟨rfl, by rw [hU], by rw [hU]; exact hSb.1, KK_warm hW hC.2.2.2.2.2, hSb.2.1⟩⟩ rfl hn hls rfl (lv_room hcat) d ⟨hfit.1, hfit.2⟩) hS (fun q _ h => hSb.2.2.1 q h) hSb.2.2.1 (fun w1 t H1 locs1 ht _ hw hB hz1 hk1 hS1 => ?_)
  rw [ht] at hB
  obtain ⟨g1, g2⟩ := hSb.2.2.2 w1 H1 hk1 hB.1 hB.2
  exact kk w1 H1 locs1 hw g1 g2 hS1 hz1
theorem x_jY (hC : Cx p s m args c cc nL own D cs) {y : MethodName} {bytes : ByteArray} {maxL n mc ms idx : Nat} {rm : Room} {As : List Value} {wc wr : va_W} {Post : va_W → Prop} {b : Nat} (hM : CY l D cs y bytes maxL rm mc ms (.ref b :: As) wc Post) {host : String} (hk : LkJ own idx y host bytes maxL n) (hSb : SubX D A H wc wr) (hP : va_P D vwCl ws H) (hS : va_S A H0 H locs) (hn : As.length = n) (hls : ls.size = nL) {st : List Value} (hst : st = As.reverse ++ .ref b :: rest) (hcat : (rest.map fun v => v.category).sum ≤ 8) (hrm : rm.cells = mc ∧ rm.slots = ms) (hR : rm.frames + 1 ≤ R.frames ∧ 8 + (maxL + 11) + rm.locals ≤ R.locals) (hfit : cells + mc ≤ R.cells ∧ slots + ms ≤ R.slots) (d : decode cc pc = .ok (.invokespecial idx, 3)) (kk : ∀ (w1 : va_W) (H1 : Heap) (locs1 : List Loc), Post w1 → va_P D vwCl (wr ++ w1) H1 → va_D A (wr ++ w1) → va_S A H0 H1 locs1 → H.size ≤ H1.size → W p l e R s m args below meth c H1 locs1 (cells + mc) (slots + ms) Q (F0 m (pc + 3) ls (rest))) : W p l e R s m args below meth c H locs cells slots Q (F0 m pc ls st) := by
  subst hst
  refine va_callv (va_runIN (As := As) (rest := rest) ⟨hC.1, hC.2.1, hC.2.2.1, hC.2.2.2.1, hC.2.2.2.2.1⟩ (hM H.size) ⟨va_cnB n hC.2.2.2.2.1 (tb_gi hk.1) rfl hrm.1 hrm.2 (hC.2.2.2.2.2.2.1 _ hk.2.1) (x_w hC hk.2.2.2.1 rfl) hk.2.2.2.2.2 hR, hk.2.2.2.2.1, x_w hC hk.2.2.1 rfl⟩ ⟨PreW_blind, fun U hU hW => ⟨rfl, by rw [hU], by rw [hU]; exact hSb.1, KK_warm hW hC.2.2.2.2.2, hSb.2.1⟩⟩ rfl hn hls rfl (lv_room hcat) d ⟨hfit.1, hfit.2⟩) hS (fun q _ h => hSb.2.2.1 q h) hSb.2.2.1 (fun w1 t H1 locs1 ht _ hw hB hz1 hk1 hS1 => ?_)
  rw [ht] at hB
  obtain ⟨g1, g2⟩ := hSb.2.2.2 w1 H1 hk1 hB.1 hB.2
  exact kk w1 H1 locs1 hw g1 g2 hS1 hz1
theorem x_obj (hC : Cx p s m args c cc nL own D cs) {idx : Nat} (hlk : Cond.methodLink own idx Lib.objectInit ∈ lw_tbl) (hls : ls.size = nL) (hcat : (rest.map fun v => v.category).sum + 12 ≤ R.locals) (hf : 1 ≤ R.frames) (d : decode cc pc = .ok (.invokespecial idx, 3)) (kk : W p l e R s m args below meth c H locs cells slots Q (F0 m (pc + 3) ls rest)) : W p l e R s m args below meth c H locs cells slots Q (F0 m pc ls (.ref a :: rest)) :=
  W.objInit (a := a) (rest := rest) hC.1 hC.2.1 hC.2.2.2.1 (x_w hC hlk rfl) (x_w hC tb_88 rfl) (x_w hC tb_89 rfl) rfl (hls.trans hC.2.2.1.symm) rfl d hf (by show 2 * 0 + _ + 12 ≤ R.locals; omega) kk
theorem cA_eq {x y : ClassId} {ty : FieldType} {U : State} (h : va_RA U x ty) (h2 : va_RA U y ty) : x = y := by
  cases ty with
  | object C =>
    obtain ⟨_, _, _, _, _, h4⟩ := h
    obtain ⟨_, _, _, _, _, g4⟩ := h2
    exact Option.some.inj (h4.symm.trans g4)
  | _ => exact Option.some.inj (Eq.trans (Eq.symm h) h2)
theorem lst_app {α : Type} (xs : List α) (x : α) : (xs ++ [x])[xs.length]? = some x := by simp
theorem x_new (hC : Cx p s m args c cc nL own D cs) (hP : va_P D vwCl ws H) (hD : va_D A ws) (hS : va_S A H0 H locs) (hA : ∀ q, H0.size ≤ q → A q) {atype : ArrayType} {ty : FieldType} (hty : newarray.typeOf atype = ty) (htb : Cond.arrayClass ty ∈ lw_tbl) (t0 : Nat) {cA : ClassId} (hcA : (tyA cs)[t0]? = some (cA, ty)) (z : Int) (N : Nat) (hz : z = N) (hN : N < 2 ^ 20) {a0 : vp_A} (ha : ∀ cA : ClassId, vp_cell cA a0 = arrV cA N (fun _ => defaultValue ty)) (hbytes : N * componentBytes ty ≤ 536870912) (hcells : cells + 1 ≤ R.cells) (hslots : slots + N ≤ R.slots) (d : decode cc pc = .ok (.newarray atype, 2)) (kk : ∀ (q : Nat) (H1 : Heap), va_P D vwCl (ws ++ [(q, .inl (cA, a0))]) H1 → va_D A (ws ++ [(q, .inl (cA, a0))]) → va_S A H0 H1 locs → W p l e R s m args below meth c H1 locs (cells + 1) (slots + N) Q (F0 m (pc + 2) ls (.ref q :: rest))) : W p l e R s m args below meth c H locs cells slots Q (F0 m pc ls (.int (iI z) :: rest)) := by
  subst hz
  subst hty
  have hcl : (iI (N : Int)).toNatClampNeg = N := by rw [iI_clamp (by omega) (by omega)]; rfl
  have hng : ¬ iI (N : Int) < 0 := by
    intro h
    have h0 : (0 : Int32) = iI 0 := rfl
    rw [h0, iI_lt (by omega) (by omega)] at h
    omega
  refine va_newa (a0 := a0) hC.1 hC.2.1 (x_w hC htb rfl) rfl hC.2.2.2.2.2.1 hP hD hS hA ha hng hcl hbytes hcells hslots d (fun q cB H1 hK hP1 hD1 hS1 => ?_)
  have e : cB = cA := cA_eq (hK.2 _ (cB, newarray.typeOf atype) (lst_app (tyA cs) _)).2 (hC.2.2.2.2.2.1.2 t0 _ hcA).2
  subst e
  exact kk q H1 hP1 hD1 hS1
theorem x_newQ (hC : Cx p s m args c cc nL own D cs) (hP : va_P D vwCl ws H) (hD : va_D A ws) (hS : va_S A H0 H locs) (hA : ∀ q, H0.size ≤ q → A q) {idx : Nat} (hlk : Cond.classLink own idx "OnlineRooms$Board" ∈ lw_tbl) (hcells : cells + 1 ≤ R.cells) (hslots : slots + 4 ≤ R.slots) (d : decode cc pc = .ok (.anewarray idx, 3)) (kk : ∀ (q : Nat) (H1 : Heap), va_P D vwCl (ws ++ [(q, .inl (cs 4, 4, .inr (.inr (.inr (.inr (fun _ => none))))))]) H1 → va_D A (ws ++ [(q, .inl (cs 4, 4, .inr (.inr (.inr (.inr (fun _ => none))))))]) → va_S A H0 H1 locs → W p l e R s m args below meth c H1 locs (cells + 1) (slots + 4) Q (F0 m (pc + 3) ls (.ref q :: rest))) : W p l e R s m args below meth c H locs cells slots Q (F0 m pc ls (.int (iI 4) :: rest)) := by
  refine va_newq (N' := 4) hC.1 hC.2.1 hC.2.2.2.1 (x_w hC hlk rfl) hC.2.2.2.2.2.2.2 hC.2.2.2.2.2.1 hP hD hS hA (by decide) (by decide) (by decide) hcells hslots d (fun q cB H1 hK hP1 hD1 hS1 => ?_)
  have e : cB = cs 4 := cA_eq (hK.2 _ (cB, .object "OnlineRooms$Board") (lst_app (tyA cs) _)).2 (hC.2.2.2.2.2.1.2 4 _ rfl).2
  subst e
  exact kk q H1 hP1 hD1 hS1

theorem x_mk0 (hC : Cx p s m args c cc nL own D cs) (hP : va_P D vwCl ws H) (hD : va_D A ws) (hS : va_S A H0 H locs) (hA : ∀ q, H0.size ≤ q → A q) {idx : Nat} (hlk : Cond.classLink own idx RX0 ∈ lw_tbl) (hin : Cond.instantiable RX0 13 ∈ lw_tbl) (hini : Cond.initialized RX0 ∈ lw_tbl) (hcells : cells + 1 ≤ R.cells) (hslots : slots + 13 ≤ R.slots) (d : decode cc pc = .ok (.new idx, 3)) (kk : ∀ (q : Nat) (H1 : Heap), va_P D vwCl (ws ++ [(q, .inr (0, [.null, .null, .null, .null, .null, .null, .null, .int 0, .int 0, .int 0, .int 0, .int 0, .int 0]))]) H1 → va_D A (ws ++ [(q, .inr (0, [.null, .null, .null, .null, .null, .null, .null, .int 0, .int 0, .int 0, .int 0, .int 0, .int 0]))]) → va_S A H0 H1 locs → W p l e R s m args below meth c H1 locs (cells + 1) (slots + 13) Q (F0 m (pc + 3) ls (.ref q :: rest))) : W p l e R s m args below meth c H locs cells slots Q (F0 m pc ls rest) :=
  va_new (ci := 0) (C := RX0) (T := TX0) (N := 13) hC.1 hC.2.1 hC.2.2.2.2.1 inT0 tyX0 tyX0_ok hC.2.2.2.1 (x_w hC hlk rfl) (x_w hC hin rfl) (x_w hC hini rfl) hC.2.2.2.2.2.1 hP hD hS hA rfl (by decide +kernel) hcells hslots d kk
theorem x_pF0 (hC : Cx p s m args c cc nL RX0 D cs) (hP : va_P D vwCl ws H) (hD : va_D A ws) (hS : va_S A H0 H locs) (hname : meth.name = "<init>") (q0 : Nat) {fs : List Value} (he : ws[q0]? = some (a, .inr (0, fs))) (k : Nat) (hk : k < 13) {idx : Nat} (hlk : Cond.fieldLink RX0 idx RX0 (TX0 k).2.1 (TX0 k).2.2.1 ∈ lw_tbl) (ho : (TX0 k).1 = RX0) (hf : (TX0 k).2.2.2 = true) {ty : FieldType} {v : Value} (hd : parseFieldDescriptor (TX0 k).2.2.1 = some ty) (hn : narrow ty v = v) (hfit : fits ty v = true) (hl : k < fs.length) (d : decode cc pc = .ok (.putfield idx, 3)) (kk : ∀ (H1 : Heap) (locs1 : List Loc), va_P D vwCl (ws.set q0 (a, .inr (0, fs.set k v))) H1 → va_D A (ws.set q0 (a, .inr (0, fs.set k v))) → va_S A H0 H1 locs1 → W p l e R s m args below meth c H1 locs1 cells slots Q (F0 m (pc + 3) ls rest)) : W p l e R s m args below meth c H locs cells slots Q (F0 m pc ls (v :: .ref a :: rest)) :=
  va_putF (D := D) (ci := 0) (C := RX0) (T := TX0) (N := 13) hC.1 hC.2.1 hC.2.2.2.2.1 inT0 tyX0 tyX0_ok nmX0 hC.2.2.2.1 hC.2.2.2.2.2.1 hP hD hS q0 he rfl k hk (x_w hC hlk rfl) (fun _ h9 => ho ▸ h9) hf hname ho hd hn hfit hl d kk
theorem x_mk1 (hC : Cx p s m args c cc nL own D cs) (hP : va_P D vwCl ws H) (hD : va_D A ws) (hS : va_S A H0 H locs) (hA : ∀ q, H0.size ≤ q → A q) {idx : Nat} (hlk : Cond.classLink own idx RX1 ∈ lw_tbl) (hin : Cond.instantiable RX1 3 ∈ lw_tbl) (hini : Cond.initialized RX1 ∈ lw_tbl) (hcells : cells + 1 ≤ R.cells) (hslots : slots + 3 ≤ R.slots) (d : decode cc pc = .ok (.new idx, 3)) (kk : ∀ (q : Nat) (H1 : Heap), va_P D vwCl (ws ++ [(q, .inr (1, [.null, .int 0, .int 0]))]) H1 → va_D A (ws ++ [(q, .inr (1, [.null, .int 0, .int 0]))]) → va_S A H0 H1 locs → W p l e R s m args below meth c H1 locs (cells + 1) (slots + 3) Q (F0 m (pc + 3) ls (.ref q :: rest))) : W p l e R s m args below meth c H locs cells slots Q (F0 m pc ls rest) :=
  va_new (ci := 1) (C := RX1) (T := TX1) (N := 3) hC.1 hC.2.1 hC.2.2.2.2.1 inT1 tyX1 tyX1_ok hC.2.2.2.1 (x_w hC hlk rfl) (x_w hC hin rfl) (x_w hC hini rfl) hC.2.2.2.2.2.1 hP hD hS hA rfl (by decide +kernel) hcells hslots d kk
theorem x_pF1 (hC : Cx p s m args c cc nL RX1 D cs) (hP : va_P D vwCl ws H) (hD : va_D A ws) (hS : va_S A H0 H locs) (hname : meth.name = "<init>") (q0 : Nat) {fs : List Value} (he : ws[q0]? = some (a, .inr (1, fs))) (k : Nat) (hk : k < 3) {idx : Nat} (hlk : Cond.fieldLink RX1 idx RX1 (TX1 k).2.1 (TX1 k).2.2.1 ∈ lw_tbl) (ho : (TX1 k).1 = RX1) (hf : (TX1 k).2.2.2 = true) {ty : FieldType} {v : Value} (hd : parseFieldDescriptor (TX1 k).2.2.1 = some ty) (hn : narrow ty v = v) (hfit : fits ty v = true) (hl : k < fs.length) (d : decode cc pc = .ok (.putfield idx, 3)) (kk : ∀ (H1 : Heap) (locs1 : List Loc), va_P D vwCl (ws.set q0 (a, .inr (1, fs.set k v))) H1 → va_D A (ws.set q0 (a, .inr (1, fs.set k v))) → va_S A H0 H1 locs1 → W p l e R s m args below meth c H1 locs1 cells slots Q (F0 m (pc + 3) ls rest)) : W p l e R s m args below meth c H locs cells slots Q (F0 m pc ls (v :: .ref a :: rest)) :=
  va_putF (D := D) (ci := 1) (C := RX1) (T := TX1) (N := 3) hC.1 hC.2.1 hC.2.2.2.2.1 inT1 tyX1 tyX1_ok nmX1 hC.2.2.2.1 hC.2.2.2.2.2.1 hP hD hS q0 he rfl k hk (x_w hC hlk rfl) (fun _ h9 => ho ▸ h9) hf hname ho hd hn hfit hl d kk
theorem x_mk2 (hC : Cx p s m args c cc nL own D cs) (hP : va_P D vwCl ws H) (hD : va_D A ws) (hS : va_S A H0 H locs) (hA : ∀ q, H0.size ≤ q → A q) {idx : Nat} (hlk : Cond.classLink own idx RX2 ∈ lw_tbl) (hin : Cond.instantiable RX2 3 ∈ lw_tbl) (hini : Cond.initialized RX2 ∈ lw_tbl) (hcells : cells + 1 ≤ R.cells) (hslots : slots + 3 ≤ R.slots) (d : decode cc pc = .ok (.new idx, 3)) (kk : ∀ (q : Nat) (H1 : Heap), va_P D vwCl (ws ++ [(q, .inr (2, [.null, .int 0, .int 0]))]) H1 → va_D A (ws ++ [(q, .inr (2, [.null, .int 0, .int 0]))]) → va_S A H0 H1 locs → W p l e R s m args below meth c H1 locs (cells + 1) (slots + 3) Q (F0 m (pc + 3) ls (.ref q :: rest))) : W p l e R s m args below meth c H locs cells slots Q (F0 m pc ls rest) :=
  va_new (ci := 2) (C := RX2) (T := TX2) (N := 3) hC.1 hC.2.1 hC.2.2.2.2.1 inT2 tyX2 tyX2_ok hC.2.2.2.1 (x_w hC hlk rfl) (x_w hC hin rfl) (x_w hC hini rfl) hC.2.2.2.2.2.1 hP hD hS hA rfl (by decide +kernel) hcells hslots d kk
theorem x_pF2 (hC : Cx p s m args c cc nL RX2 D cs) (hP : va_P D vwCl ws H) (hD : va_D A ws) (hS : va_S A H0 H locs) (hname : meth.name = "<init>") (q0 : Nat) {fs : List Value} (he : ws[q0]? = some (a, .inr (2, fs))) (k : Nat) (hk : k < 3) {idx : Nat} (hlk : Cond.fieldLink RX2 idx RX2 (TX2 k).2.1 (TX2 k).2.2.1 ∈ lw_tbl) (ho : (TX2 k).1 = RX2) (hf : (TX2 k).2.2.2 = true) {ty : FieldType} {v : Value} (hd : parseFieldDescriptor (TX2 k).2.2.1 = some ty) (hn : narrow ty v = v) (hfit : fits ty v = true) (hl : k < fs.length) (d : decode cc pc = .ok (.putfield idx, 3)) (kk : ∀ (H1 : Heap) (locs1 : List Loc), va_P D vwCl (ws.set q0 (a, .inr (2, fs.set k v))) H1 → va_D A (ws.set q0 (a, .inr (2, fs.set k v))) → va_S A H0 H1 locs1 → W p l e R s m args below meth c H1 locs1 cells slots Q (F0 m (pc + 3) ls rest)) : W p l e R s m args below meth c H locs cells slots Q (F0 m pc ls (v :: .ref a :: rest)) :=
  va_putF (D := D) (ci := 2) (C := RX2) (T := TX2) (N := 3) hC.1 hC.2.1 hC.2.2.2.2.1 inT2 tyX2 tyX2_ok nmX2 hC.2.2.2.1 hC.2.2.2.2.2.1 hP hD hS q0 he rfl k hk (x_w hC hlk rfl) (fun _ h9 => ho ▸ h9) hf hname ho hd hn hfit hl d kk
theorem x_mk3 (hC : Cx p s m args c cc nL own D cs) (hP : va_P D vwCl ws H) (hD : va_D A ws) (hS : va_S A H0 H locs) (hA : ∀ q, H0.size ≤ q → A q) {idx : Nat} (hlk : Cond.classLink own idx RX3 ∈ lw_tbl) (hin : Cond.instantiable RX3 7 ∈ lw_tbl) (hini : Cond.initialized RX3 ∈ lw_tbl) (hcells : cells + 1 ≤ R.cells) (hslots : slots + 7 ≤ R.slots) (d : decode cc pc = .ok (.new idx, 3)) (kk : ∀ (q : Nat) (H1 : Heap), va_P D vwCl (ws ++ [(q, .inr (3, [.null, .null, .int 0, .int 0, .int 0, .int 0, .int 0]))]) H1 → va_D A (ws ++ [(q, .inr (3, [.null, .null, .int 0, .int 0, .int 0, .int 0, .int 0]))]) → va_S A H0 H1 locs → W p l e R s m args below meth c H1 locs (cells + 1) (slots + 7) Q (F0 m (pc + 3) ls (.ref q :: rest))) : W p l e R s m args below meth c H locs cells slots Q (F0 m pc ls rest) :=
  va_new (ci := 3) (C := RX3) (T := TX3) (N := 7) hC.1 hC.2.1 hC.2.2.2.2.1 inT3 tyX3 tyX3_ok hC.2.2.2.1 (x_w hC hlk rfl) (x_w hC hin rfl) (x_w hC hini rfl) hC.2.2.2.2.2.1 hP hD hS hA rfl (by decide +kernel) hcells hslots d kk
theorem x_pF3 (hC : Cx p s m args c cc nL RX3 D cs) (hP : va_P D vwCl ws H) (hD : va_D A ws) (hS : va_S A H0 H locs) (hname : meth.name = "<init>") (q0 : Nat) {fs : List Value} (he : ws[q0]? = some (a, .inr (3, fs))) (k : Nat) (hk : k < 7) {idx : Nat} (hlk : Cond.fieldLink RX3 idx RX3 (TX3 k).2.1 (TX3 k).2.2.1 ∈ lw_tbl) (ho : (TX3 k).1 = RX3) (hf : (TX3 k).2.2.2 = true) {ty : FieldType} {v : Value} (hd : parseFieldDescriptor (TX3 k).2.2.1 = some ty) (hn : narrow ty v = v) (hfit : fits ty v = true) (hl : k < fs.length) (d : decode cc pc = .ok (.putfield idx, 3)) (kk : ∀ (H1 : Heap) (locs1 : List Loc), va_P D vwCl (ws.set q0 (a, .inr (3, fs.set k v))) H1 → va_D A (ws.set q0 (a, .inr (3, fs.set k v))) → va_S A H0 H1 locs1 → W p l e R s m args below meth c H1 locs1 cells slots Q (F0 m (pc + 3) ls rest)) : W p l e R s m args below meth c H locs cells slots Q (F0 m pc ls (v :: .ref a :: rest)) :=
  va_putF (D := D) (ci := 3) (C := RX3) (T := TX3) (N := 7) hC.1 hC.2.1 hC.2.2.2.2.1 inT3 tyX3 tyX3_ok nmX3 hC.2.2.2.1 hC.2.2.2.2.2.1 hP hD hS q0 he rfl k hk (x_w hC hlk rfl) (fun _ h9 => ho ▸ h9) hf hname ho hd hn hfit hl d kk
theorem x_mk4 (hC : Cx p s m args c cc nL own D cs) (hP : va_P D vwCl ws H) (hD : va_D A ws) (hS : va_S A H0 H locs) (hA : ∀ q, H0.size ≤ q → A q) {idx : Nat} (hlk : Cond.classLink own idx RX4 ∈ lw_tbl) (hin : Cond.instantiable RX4 4 ∈ lw_tbl) (hini : Cond.initialized RX4 ∈ lw_tbl) (hcells : cells + 1 ≤ R.cells) (hslots : slots + 4 ≤ R.slots) (d : decode cc pc = .ok (.new idx, 3)) (kk : ∀ (q : Nat) (H1 : Heap), va_P D vwCl (ws ++ [(q, .inr (4, [.null, .null, .null, .null]))]) H1 → va_D A (ws ++ [(q, .inr (4, [.null, .null, .null, .null]))]) → va_S A H0 H1 locs → W p l e R s m args below meth c H1 locs (cells + 1) (slots + 4) Q (F0 m (pc + 3) ls (.ref q :: rest))) : W p l e R s m args below meth c H locs cells slots Q (F0 m pc ls rest) :=
  va_new (ci := 4) (C := RX4) (T := TX4) (N := 4) hC.1 hC.2.1 hC.2.2.2.2.1 inT4 tyX4 tyX4_ok hC.2.2.2.1 (x_w hC hlk rfl) (x_w hC hin rfl) (x_w hC hini rfl) hC.2.2.2.2.2.1 hP hD hS hA rfl (by decide +kernel) hcells hslots d kk
theorem x_pF4 (hC : Cx p s m args c cc nL RX4 D cs) (hP : va_P D vwCl ws H) (hD : va_D A ws) (hS : va_S A H0 H locs) (hname : meth.name = "<init>") (q0 : Nat) {fs : List Value} (he : ws[q0]? = some (a, .inr (4, fs))) (k : Nat) (hk : k < 4) {idx : Nat} (hlk : Cond.fieldLink RX4 idx RX4 (TX4 k).2.1 (TX4 k).2.2.1 ∈ lw_tbl) (ho : (TX4 k).1 = RX4) (hf : (TX4 k).2.2.2 = true) {ty : FieldType} {v : Value} (hd : parseFieldDescriptor (TX4 k).2.2.1 = some ty) (hn : narrow ty v = v) (hfit : fits ty v = true) (hl : k < fs.length) (d : decode cc pc = .ok (.putfield idx, 3)) (kk : ∀ (H1 : Heap) (locs1 : List Loc), va_P D vwCl (ws.set q0 (a, .inr (4, fs.set k v))) H1 → va_D A (ws.set q0 (a, .inr (4, fs.set k v))) → va_S A H0 H1 locs1 → W p l e R s m args below meth c H1 locs1 cells slots Q (F0 m (pc + 3) ls rest)) : W p l e R s m args below meth c H locs cells slots Q (F0 m pc ls (v :: .ref a :: rest)) :=
  va_putF (D := D) (ci := 4) (C := RX4) (T := TX4) (N := 4) hC.1 hC.2.1 hC.2.2.2.2.1 inT4 tyX4 tyX4_ok nmX4 hC.2.2.2.1 hC.2.2.2.2.2.1 hP hD hS q0 he rfl k hk (x_w hC hlk rfl) (fun _ h9 => ho ▸ h9) hf hname ho hd hn hfit hl d kk
theorem x_mk5 (hC : Cx p s m args c cc nL own D cs) (hP : va_P D vwCl ws H) (hD : va_D A ws) (hS : va_S A H0 H locs) (hA : ∀ q, H0.size ≤ q → A q) {idx : Nat} (hlk : Cond.classLink own idx RX5 ∈ lw_tbl) (hin : Cond.instantiable RX5 17 ∈ lw_tbl) (hini : Cond.initialized RX5 ∈ lw_tbl) (hcells : cells + 1 ≤ R.cells) (hslots : slots + 17 ≤ R.slots) (d : decode cc pc = .ok (.new idx, 3)) (kk : ∀ (q : Nat) (H1 : Heap), va_P D vwCl (ws ++ [(q, .inr (5, [.int 0, .null, .null, .null, .int 0, .null, .int 0, .null, .int 0, .int 0, .int 0, .int 0, .int 0, .int 0, .int 0, .int 0, .int 0]))]) H1 → va_D A (ws ++ [(q, .inr (5, [.int 0, .null, .null, .null, .int 0, .null, .int 0, .null, .int 0, .int 0, .int 0, .int 0, .int 0, .int 0, .int 0, .int 0, .int 0]))]) → va_S A H0 H1 locs → W p l e R s m args below meth c H1 locs (cells + 1) (slots + 17) Q (F0 m (pc + 3) ls (.ref q :: rest))) : W p l e R s m args below meth c H locs cells slots Q (F0 m pc ls rest) :=
  va_new (ci := 5) (C := RX5) (T := TX5) (N := 17) hC.1 hC.2.1 hC.2.2.2.2.1 inT5 tyX5 tyX5_ok hC.2.2.2.1 (x_w hC hlk rfl) (x_w hC hin rfl) (x_w hC hini rfl) hC.2.2.2.2.2.1 hP hD hS hA rfl (by decide +kernel) hcells hslots d kk
theorem x_pF5 (hC : Cx p s m args c cc nL RX5 D cs) (hP : va_P D vwCl ws H) (hD : va_D A ws) (hS : va_S A H0 H locs) (hname : meth.name = "<init>") (q0 : Nat) {fs : List Value} (he : ws[q0]? = some (a, .inr (5, fs))) (k : Nat) (hk : k < 17) {idx : Nat} (hlk : Cond.fieldLink RX5 idx RX5 (TX5 k).2.1 (TX5 k).2.2.1 ∈ lw_tbl) (ho : (TX5 k).1 = RX5) (hf : (TX5 k).2.2.2 = true) {ty : FieldType} {v : Value} (hd : parseFieldDescriptor (TX5 k).2.2.1 = some ty) (hn : narrow ty v = v) (hfit : fits ty v = true) (hl : k < fs.length) (d : decode cc pc = .ok (.putfield idx, 3)) (kk : ∀ (H1 : Heap) (locs1 : List Loc), va_P D vwCl (ws.set q0 (a, .inr (5, fs.set k v))) H1 → va_D A (ws.set q0 (a, .inr (5, fs.set k v))) → va_S A H0 H1 locs1 → W p l e R s m args below meth c H1 locs1 cells slots Q (F0 m (pc + 3) ls rest)) : W p l e R s m args below meth c H locs cells slots Q (F0 m pc ls (v :: .ref a :: rest)) :=
  va_putF (D := D) (ci := 5) (C := RX5) (T := TX5) (N := 17) hC.1 hC.2.1 hC.2.2.2.2.1 inT5 tyX5 tyX5_ok nmX5 hC.2.2.2.1 hC.2.2.2.2.2.1 hP hD hS q0 he rfl k hk (x_w hC hlk rfl) (fun _ h9 => ho ▸ h9) hf hname ho hd hn hfit hl d kk
end XG
