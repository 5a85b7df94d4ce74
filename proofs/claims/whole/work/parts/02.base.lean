/-! numbers, words, contracts -/
def iI (z : Int) : Int32 := Int32.ofInt z
theorem iI_add (a b : Int) : iI a + iI b = iI (a + b) := (Int32.ofInt_add a b).symm
theorem iI_sub (a b : Int) : iI a - iI b = iI (a - b) := (Int32.ofInt_sub a b).symm
theorem iI_mul (a b : Int) : iI a * iI b = iI (a * b) := (Int32.ofInt_mul a b).symm
theorem iI_neg (a : Int) : -iI a = iI (-a) := (Int32.ofInt_neg a).symm
theorem iI_toInt {a : Int} (h : -2147483648 ≤ a ∧ a ≤ 2147483647) : (iI a).toInt = a := by
  unfold iI
  rw [Int32.toInt_ofInt]
  apply Int.bmod_eq_of_le
  · have := h.1; simpa using this
  · have := h.2; simp only [Int32.size]; omega
theorem iI_lt {a b : Int} (ha : -2147483648 ≤ a ∧ a ≤ 2147483647) (hb : -2147483648 ≤ b ∧ b ≤ 2147483647) : iI a < iI b ↔ a < b := by
  rw [Int32.lt_iff_toInt_lt, iI_toInt ha, iI_toInt hb]
theorem iI_le {a b : Int} (ha : -2147483648 ≤ a ∧ a ≤ 2147483647) (hb : -2147483648 ≤ b ∧ b ≤ 2147483647) : iI a ≤ iI b ↔ a ≤ b := by
  rw [Int32.le_iff_toInt_le, iI_toInt ha, iI_toInt hb]
theorem iI_eq {a b : Int} (ha : -2147483648 ≤ a ∧ a ≤ 2147483647) (hb : -2147483648 ≤ b ∧ b ≤ 2147483647) : iI a = iI b ↔ a = b := by
  constructor
  · intro h
    have h2 := congrArg Int32.toInt h
    rwa [iI_toInt ha, iI_toInt hb] at h2
  · intro h; rw [h]
theorem iI_clamp {a : Int} (h0 : 0 ≤ a) (h1 : a ≤ 2147483647) : (iI a).toNatClampNeg = a.toNat := by
  show (iI a).toInt.toNat = a.toNat
  rw [iI_toInt ⟨by omega, h1⟩]
theorem iI_in {a : Int} {n : Nat} (h0 : 0 ≤ a) (h1 : a < n) (hn : n < 2 ^ 31) : vp_in (iI a) n := by
  rw [vp_in_iff, iI_toInt ⟨by omega, by omega⟩]
  exact ⟨h0, h1⟩
theorem iI_nat (n : Nat) : iI (n : Int) = nI n := Int32.ofInt_eq_ofNat
noncomputable def b2p (P : Prop) : Int := @ite Int P (Classical.propDecidable P) 1 0
theorem b2p_t {P : Prop} (h : P) : b2p P = 1 := if_pos h
theorem b2p_f {P : Prop} (h : ¬ P) : b2p P = 0 := if_neg h
theorem b2p_rg (P : Prop) : -2147483648 ≤ b2p P ∧ b2p P ≤ 2147483647 := by
  by_cases h : P
  · rw [b2p_t h]; omega
  · rw [b2p_f h]; omega
theorem b2p_01 (P : Prop) : 0 ≤ b2p P ∧ b2p P ≤ 1 := by
  by_cases h : P
  · rw [b2p_t h]; omega
  · rw [b2p_f h]; omega
theorem b2p_0 {P : Prop} : b2p P = 0 ↔ ¬ P := by
  by_cases h : P
  · rw [b2p_t h]; simp [h]
  · rw [b2p_f h]; simp [h]
theorem b2p_1 {P : Prop} : b2p P = 1 ↔ P := by
  by_cases h : P
  · rw [b2p_t h]; simp [h]
  · rw [b2p_f h]; simp [h]
theorem b2p_c {P Q : Prop} (h : P ↔ Q) : b2p P = b2p Q := by rw [propext h]
noncomputable def iif {α : Type} (P : Prop) (a b : α) : α := @ite α P (Classical.propDecidable P) a b
theorem iif_t {α : Type} {P : Prop} {a b : α} (h : P) : iif P a b = a := if_pos h
theorem iif_f {α : Type} {P : Prop} {a b : α} (h : ¬ P) : iif P a b = b := if_neg h
def u1 {α : Type} (f : Int → α) (i : Int) (v : α) : Int → α := fun j => if j = i then v else f j
theorem u1_s {α : Type} {f : Int → α} {i : Int} {v : α} : u1 f i v i = v := if_pos rfl
theorem u1_n {α : Type} {f : Int → α} {i j : Int} {v : α} (h : ¬ j = i) : u1 f i v j = f j := if_neg h
theorem upd_iI (g : Int → Int) (i v : Int) (h0 : 0 ≤ i) (h1 : i ≤ 2147483647) : upd (fun j : Nat => iI (g j)) (iI i).toNatClampNeg (iI v) = fun j : Nat => iI (u1 g i v j) := by
  funext j
  rw [iI_clamp h0 h1]
  unfold upd u1
  by_cases h : j = i.toNat
  · rw [if_pos h, if_pos (by omega)]
  · rw [if_neg h, if_neg (by omega)]
/-- the tables' words that a callee may rely on -/
def TB : List Cond := lw_tbl.filter goodWord
theorem tb_in {w : Cond} (h : w ∈ lw_tbl) (hg : goodWord w = true) : w ∈ TB := List.mem_filter.mpr ⟨h, hg⟩
theorem tb_gi {y : MethodName} {bytes : ByteArray} {maxL : Nat} {ret : Option FieldType} (h : Cond.code y bytes maxL ret ∈ lw_tbl) : GoodIn TB (Cond.code y bytes maxL ret :: TB) := by
  intro w hw
  rcases List.mem_cons.mp hw with rfl | hw
  · have h2 := tb_in h rfl
    exact ⟨h2, good_of_word rfl⟩
  · exact ⟨hw, good_of_word (List.mem_filter.mp hw).2⟩
/-- links of a nest mate's private methods, which no word list may hold -/
def NWl : List (String × Nat × MethodName × String) := [(RX4, 21, yX1_init, "OnlineRooms"), (RX4, 28, yX3_init, "OnlineRooms"), (RX3, 17, yX2_init, "OnlineRooms"), (RX0, 59, yX4_isTalk, "OnlineRooms"), (RX0, 68, yX4_isRoom, "OnlineRooms"), (RX0, 89, yX4_isSize, "OnlineRooms"), (RX0, 99, yX4_isRule, "OnlineRooms")]
def NW (U : State) : Prop := ∀ q ∈ NWl, va_Nw (.methodLinkNest q.1 q.2.1 q.2.2.1 q.2.2.2) U
theorem NW_warm {s U : State} (hW : s.WarmedH U.vm) (h : NW s) : NW U := fun q hq => va_Nw.warmM hW (h q hq)
theorem NW_same {u U : State} (hv : u.vm = U.vm) (h : NW u) : NW U := fun q hq => va_Nw.same rfl hv (h q hq)
abbrev tyA (cs : Nat → ClassId) : List (ClassId × FieldType) := [(cs 0, .int), (cs 1, .long), (cs 2, .char), (cs 3, .boolean), (cs 4, .object "OnlineRooms$Board")]
def KK (D : va_G) (cs : Nat → ClassId) (U : State) : Prop := va_K D vwCl (tyA cs) U ∧ NW U ∧ va_AO "OnlineRooms$Board" U
theorem KK_warm {D : va_G} {cs : Nat → ClassId} {s U : State} (hW : s.WarmedH U.vm) (h : KK D cs s) : KK D cs U := ⟨va_K.moved hW.alike h.1, NW_warm hW h.2.1, va_AO.moved hW.alike h.2.2⟩
theorem KK_same {D : va_G} {cs : Nat → ClassId} {u U : State} (ha : u.vm.Alike U.vm) (hv : u.vm = U.vm) (h : KK D cs u) : KK D cs U := ⟨va_K.moved ha h.1, NW_same hv h.2.1, va_AO.moved ha h.2.2⟩
def Cx (p : Program) (s : State) (m : MethodId) (args : Array Value) (c : Code) (cc : ByteArray) (nL : Nat) (own : String) (D : va_G) (cs : Nat → ClassId) : Prop :=
  p.tables.exec = Jvm.exec ∧ c.code = cc ∧ c.maxLocals = nL ∧ s.vm.findClass own = some m.cls ∧ (∀ w ∈ TB, w.before args s = true) ∧ KK D cs s
def PreW (D : va_G) (cs : Nat → ClassId) (wc : va_W) (sz : Nat) : State → Prop := fun U => U.heap.size = sz ∧ va_P D vwCl wc U.heap ∧ KK D cs U ∧ va_D (fun _ => True) wc
theorem PreW_blind {D : va_G} {cs : Nat → ClassId} {wc : va_W} {sz : Nat} {av : List Value} : FrameBlind (va_Pc av (PreW D cs wc sz)) := by
  intro a U g mk q
  obtain ⟨q0, q1, qP, qK, qD⟩ := q
  exact ⟨q0, q1, qP, KK_same (u := U) (U := U.calling g mk a) (Vm.Alike.refl U.vm) rfl qK, qD⟩
/-- a contract: the answer is a number, the cells are w1 then -/
def CI (l : Launch) (D : va_G) (cs : Nat → ClassId) (y : MethodName) (bytes : ByteArray) (maxL : Nat) (ret : FieldType) (rm : Room) (mc ms : Nat) (av : List Value) (wc w1 : va_W) (val : Int32) : Prop :=
  ∀ sz : Nat, Met l y (.code y bytes maxL (some ret) :: TB) rm (va_Pc av (PreW D cs wc sz)) (va_Qi (fun (r : Int32) (_ : Unit) => r = val) (fun _ t => va_P D vwCl w1 t.heap ∧ va_D (va_A wc sz) w1) (va_A wc sz)) mc ms (va_A wc sz)
def CV (l : Launch) (D : va_G) (cs : Nat → ClassId) (y : MethodName) (bytes : ByteArray) (maxL : Nat) (rm : Room) (mc ms : Nat) (av : List Value) (wc w1 : va_W) : Prop :=
  ∀ sz : Nat, Met l y (.code y bytes maxL none :: TB) rm (va_Pc av (PreW D cs wc sz)) (va_Qv (fun (_ : Unit) => True) (fun _ t => va_P D vwCl w1 t.heap ∧ va_D (va_A wc sz) w1) (va_A wc sz)) mc ms (va_A wc sz)
def CL (l : Launch) (D : va_G) (cs : Nat → ClassId) (y : MethodName) (bytes : ByteArray) (maxL : Nat) (rm : Room) (mc ms : Nat) (av : List Value) (wc w1 : va_W) (val : Int64) : Prop :=
  ∀ sz : Nat, Met l y (.code y bytes maxL (some .long) :: TB) rm (va_Pc av (PreW D cs wc sz)) (va_Ql (fun (r : Int64) (_ : Unit) => r = val) (fun _ t => va_P D vwCl w1 t.heap ∧ va_D (va_A wc sz) w1) (va_A wc sz)) mc ms (va_A wc sz)
theorem CI_start {l : Launch} {D : va_G} {cs : Nat → ClassId} {y : MethodName} {bytes : ByteArray} {maxL : Nat} {ret : FieldType} {rm : Room} {mc ms : Nat} {av : List Value} {wc w1 : va_W} {val : Int32} {own : String}
    (hy : plainName y.cls = true) (ho : y.cls = own) (hret : narrow ret (.int val) = .int val) (hal : (lg_sl av).length ≤ maxL)
    (body : ∀ (p : Program) (e : Env) (s : State) (m : MethodId) (args : Array Value) (below : List Frame) (meth : Method) (c : Code) (Q : State → Prop) (A : Nat → Prop) (ls : Array Slot), Cx p s m args c bytes maxL own D cs → lv_has ls maxL (lv_args 0 av) → va_P D vwCl wc s.heap → va_D A wc → (∀ q, s.heap.size ≤ q → A q) → va_S A s.heap s.heap [] →
      (∀ (H : Heap) (locs : List Loc) (pc : Nat) (ls' : Array Slot), va_P D vwCl w1 H → va_D A w1 → va_S A s.heap H locs → decode bytes pc = .ok (.ireturn, 1) → W p l e rm s m args below meth c H locs mc ms Q (F0 m pc ls' [.int val])) → W p l e rm s m args below meth c s.heap [] 0 0 Q (F0 m 0 ls [])) : CI l D cs y bytes maxL ret rm mc ms av wc w1 val := by
  intro sz
  refine Met.ofW (cc := bytes) (maxL := maxL) (ret := some ret) hy rfl ?_
  intro p e s m args below meth c s₁ B hml hv
  obtain ⟨rfl, hsz, hP, hK, hD0⟩ := hv
  have hx := B.exec
  have hb := B.bytes
  have hr := B.returns
  have hts := atoms_spec (ws := .code y bytes maxL (some ret) :: TB) B.pre
  have hown : s.vm.findClass own = some m.cls := ho ▸ findClass_of_methodNamed B.named
  have hlocks := B.notSynchronized
  subst hsz
  have hD := hD0.self (sz := s.heap.size)
  have hl := lv_entry av hal
  rw [lg_entry_eq]
  refine body p e s m _ below meth c _ _ _ ⟨hx, hb, hml, hown, fun w hw => hts w (List.mem_cons_of_mem _ hw), hK⟩ hl hP hD (fun q h => Or.inr h) va_S.rf ?_
  intro H locs pc ls' hP1 hD1 hS1 hd
  exact W.zret hx hb hr hret (fun t ht hW => ⟨⟨val, (), rfl, rfl, by rw [ht]; exact hP1, hD1⟩, hS1.F ht⟩) hS1.2.2 hd
theorem CL_start {l : Launch} {D : va_G} {cs : Nat → ClassId} {y : MethodName} {bytes : ByteArray} {maxL : Nat} {rm : Room} {mc ms : Nat} {av : List Value} {wc w1 : va_W} {val : Int64} {own : String}
    (hy : plainName y.cls = true) (ho : y.cls = own) (hal : (lg_sl av).length ≤ maxL)
    (body : ∀ (p : Program) (e : Env) (s : State) (m : MethodId) (args : Array Value) (below : List Frame) (meth : Method) (c : Code) (Q : State → Prop) (A : Nat → Prop) (ls : Array Slot), Cx p s m args c bytes maxL own D cs → lv_has ls maxL (lv_args 0 av) → va_P D vwCl wc s.heap → va_D A wc → (∀ q, s.heap.size ≤ q → A q) → va_S A s.heap s.heap [] →
      (∀ (H : Heap) (locs : List Loc) (pc : Nat) (ls' : Array Slot), va_P D vwCl w1 H → va_D A w1 → va_S A s.heap H locs → decode bytes pc = .ok (.lreturn, 1) → W p l e rm s m args below meth c H locs mc ms Q (F0 m pc ls' [.long val])) → W p l e rm s m args below meth c s.heap [] 0 0 Q (F0 m 0 ls [])) : CL l D cs y bytes maxL rm mc ms av wc w1 val := by
  intro sz
  refine Met.ofW (cc := bytes) (maxL := maxL) (ret := some .long) hy rfl ?_
  intro p e s m args below meth c s₁ B hml hv
  obtain ⟨rfl, hsz, hP, hK, hD0⟩ := hv
  have hx := B.exec
  have hb := B.bytes
  have hr := B.returns
  have hts := atoms_spec (ws := .code y bytes maxL (some .long) :: TB) B.pre
  have hown : s.vm.findClass own = some m.cls := ho ▸ findClass_of_methodNamed B.named
  have hlocks := B.notSynchronized
  subst hsz
  have hD := hD0.self (sz := s.heap.size)
  have hl := lv_entry av hal
  rw [lg_entry_eq]
  refine body p e s m _ below meth c _ _ _ ⟨hx, hb, hml, hown, fun w hw => hts w (List.mem_cons_of_mem _ hw), hK⟩ hl hP hD (fun q h => Or.inr h) va_S.rf ?_
  intro H locs pc ls' hP1 hD1 hS1 hd
  exact W.lret hx hb hr (fun t ht hW => ⟨⟨val, (), rfl, rfl, by rw [ht]; exact hP1, hD1⟩, hS1.F ht⟩) hS1.2.2 hd
theorem CV_start {l : Launch} {D : va_G} {cs : Nat → ClassId} {y : MethodName} {bytes : ByteArray} {maxL : Nat} {rm : Room} {mc ms : Nat} {av : List Value} {wc w1 : va_W} {own : String}
    (hy : plainName y.cls = true) (ho : y.cls = own) (hal : (lg_sl av).length ≤ maxL)
    (body : ∀ (p : Program) (e : Env) (s : State) (m : MethodId) (args : Array Value) (below : List Frame) (meth : Method) (c : Code) (Q : State → Prop) (A : Nat → Prop) (ls : Array Slot), Cx p s m args c bytes maxL own D cs → lv_has ls maxL (lv_args 0 av) → va_P D vwCl wc s.heap → va_D A wc → (∀ q, s.heap.size ≤ q → A q) → va_S A s.heap s.heap [] → meth.name = y.name →
      (∀ (H : Heap) (locs : List Loc) (pc : Nat) (ls' : Array Slot), va_P D vwCl w1 H → va_D A w1 → va_S A s.heap H locs → decode bytes pc = .ok (.return_, 1) → W p l e rm s m args below meth c H locs mc ms Q (F0 m pc ls' [])) → W p l e rm s m args below meth c s.heap [] 0 0 Q (F0 m 0 ls [])) : CV l D cs y bytes maxL rm mc ms av wc w1 := by
  intro sz
  refine Met.ofW (cc := bytes) (maxL := maxL) (ret := none) hy rfl ?_
  intro p e s m args below meth c s₁ B hml hv
  obtain ⟨rfl, hsz, hP, hK, hD0⟩ := hv
  have hx := B.exec
  have hb := B.bytes
  have hr := B.returns
  have hts := atoms_spec (ws := .code y bytes maxL none :: TB) B.pre
  have hown : s.vm.findClass own = some m.cls := ho ▸ findClass_of_methodNamed B.named
  have hlocks := B.notSynchronized
  subst hsz
  have hD := hD0.self (sz := s.heap.size)
  have hl := lv_entry av hal
  rw [lg_entry_eq]
  refine body p e s m _ below meth c _ _ _ ⟨hx, hb, hml, hown, fun w hw => hts w (List.mem_cons_of_mem _ hw), hK⟩ hl hP hD (fun q h => Or.inr h) va_S.rf (name_of_methodNamed B.named B.method).1 ?_
  intro H locs pc ls' hP1 hD1 hS1 hd
  exact W.vret hx hb hr (fun t ht hW => ⟨⟨(), rfl, trivial, by rw [ht]; exact hP1, hD1⟩, hS1.F ht⟩) hS1.2.2 hd
