/-! what there is, on both sides -/
def sI (g : Int → Int) (n : Int) : Int := fI (fun r x => x + g r) 0 n
theorem sI_s (g : Int → Int) {i : Int} (h : 0 ≤ i) : sI g (i + 1) = sI g i + g i := fI_s (g := fun r x => x + g r) (a := (0 : Int)) h
theorem sI_c {g g' : Int → Int} {n : Int} (h0 : 0 ≤ n) (h : ∀ r, 0 ≤ r → r < n → g' r = g r) : sI g' n = sI g n := by
  obtain ⟨m, rfl⟩ := Int.eq_ofNat_of_zero_le h0
  induction m with
  | zero => rfl
  | succ m ih =>
    have e1 : sI g' (((m + 1 : Nat) : Int)) = sI g' m + g' m := sI_s g' (i := (m : Int)) (by omega)
    have e2 : sI g (((m + 1 : Nat) : Int)) = sI g m + g m := sI_s g (i := (m : Int)) (by omega)
    rw [e1, e2, ih (by omega) (fun r r0 r1 => h r r0 (by omega)), h m (by omega) (by omega)]
theorem sI_one {g g' : Int → Int} {n q d : Int} (hq : 0 ≤ q ∧ q < n) (h : ∀ r, 0 ≤ r → r < n → ¬ r = q → g' r = g r) (h1 : g' q = g q + d) : sI g' n = sI g n + d := by
  obtain ⟨m, rfl⟩ := Int.eq_ofNat_of_zero_le (a := n) (by omega)
  induction m with
  | zero => omega
  | succ m ih =>
    have e1 : sI g' (((m + 1 : Nat) : Int)) = sI g' m + g' m := sI_s g' (i := (m : Int)) (by omega)
    have e2 : sI g (((m + 1 : Nat) : Int)) = sI g m + g m := sI_s g (i := (m : Int)) (by omega)
    rw [e1, e2]
    by_cases c : q = (m : Int)
    · rw [sI_c (g := g) (g' := g') (n := (m : Int)) (by omega) (fun r r0 r1 => h r r0 (by omega) (by omega)), ← c, h1]; omega
    · rw [ih (by omega) (fun r r0 r1 hn => h r r0 (by omega) hn), h m (by omega) (by omega) (fun x => c x.symm)]; omega
theorem sI_0 {g : Int → Int} {n : Int} (h0 : 0 ≤ n) (h : ∀ r, 0 ≤ r → r < n → g r = 0) : sI g n = 0 := by
  refine fI_ind (fun n (x : Int) => x = 0) rfl (fun i x hi hin hx => ?_) h0
  show x + g i = 0
  rw [hx, h i hi hin]; rfl
theorem talkAt_sp (S : Int → Int) (hc : 0 ≤ S 1) (r k : Int) : (mTalkAt S r k = -1000004 ∧ ∀ t, 0 ≤ t → t < S 1 → ¬ (S (29 + 4 * t + 3) = r ∧ S (29 + 4 * t + 0) ≤ k ∧ k ≤ S (29 + 4 * t + 1) - 1)) ∨ ((0 ≤ mTalkAt S r k ∧ mTalkAt S r k < S 1) ∧ (S (29 + 4 * (mTalkAt S r k) + 3) = r ∧ S (29 + 4 * (mTalkAt S r k) + 0) ≤ k ∧ k ≤ S (29 + 4 * (mTalkAt S r k) + 1) - 1) ∧ ∀ t, 0 ≤ t → t < mTalkAt S r k → ¬ (S (29 + 4 * t + 3) = r ∧ S (29 + 4 * t + 0) ≤ k ∧ k ≤ S (29 + 4 * t + 1) - 1)) := by
  have h := fstI_sp (fun t => S (29 + 4 * t + 3) = r ∧ S (29 + 4 * t + 0) ≤ k ∧ k ≤ S (29 + 4 * t + 1) - 1) (-1000004) (S 1 - 0).toNat 0
  have e : fstI (fun t => S (29 + 4 * t + 3) = r ∧ S (29 + 4 * t + 0) ≤ k ∧ k ≤ S (29 + 4 * t + 1) - 1) (-1000004) (S 1 - 0).toNat 0 = mTalkAt S r k := rfl
  rw [e] at h
  rcases h with ⟨h1, h2⟩ | ⟨h1, h2, h3⟩
  · exact Or.inl ⟨h1, fun t t0 t1 => h2 t t0 (by omega)⟩
  · exact Or.inr ⟨by omega, h2, h3⟩
theorem tAt_iff {S : Int → Int} {T : Int → Nat → Bool} (hV : rV S) (hT : rT S T) {r k : Int} (hr : 0 ≤ r ∧ r < 8) (hk : 0 ≤ k ∧ k < 48) : T r k.toNat = true ↔ ¬ mTalkAt S r k = -1000004 := by
  rcases talkAt_sp S hV.1.1 r k with ⟨h1, h2⟩ | ⟨h1, h2, h3⟩
  · constructor
    · intro q
      obtain ⟨t, tt, a, b, c⟩ := rT_out hT hr hk q
      exact absurd ⟨a, b, by omega⟩ (h2 t tt.1 tt.2)
    · intro q; exact absurd h1 q
  · constructor
    · intro _; omega
    · intro _; exact rT_in hT hr h1 h2.1 hk (by omega)
theorem talkIn_eq {S : Int → Int} {O : Nat → Bool} {G F E Z P R C : Int → Int} {T : Int → Nat → Bool} (h : rB S O G F E Z P R C T) {r k : Int} (hr : 0 ≤ r ∧ r < 8) : iif (bTalkIn F E P r k = -1) (-1000004) (bTalkIn F E P r k) = mTalkAt S r k := by
  have z1 := h.2.2.1.1.2.1
  have pq : ∀ t, 0 ≤ t → t < 20 → ((P t = r ∧ bTk F E P t k) ↔ (t < S 1 ∧ S (29 + 4 * t + 3) = r ∧ S (29 + 4 * t + 0) ≤ k ∧ k ≤ S (29 + 4 * t + 1) - 1)) := by
    intro t t0 t20
    unfold bTk
    by_cases c : t < S 1
    · have g := h.2.1.1.1 t t0 c
      rw [g.1.1, g.1.2, g.2.2]
      omega
    · have g := h.2.1.1.2 t (by omega) t20
      rw [g]; omega
  have hb := fstI_sp (fun t => P t = r ∧ bTk F E P t k) (-1) (20 - (0 : Int)).toNat 0
  have e : fstI (fun t => P t = r ∧ bTk F E P t k) (-1) (20 - (0 : Int)).toNat 0 = bTalkIn F E P r k := rfl
  rw [e] at hb
  generalize bTalkIn F E P r k = b at *
  rcases hb with ⟨b1, b2⟩ | ⟨b1, b2, b3⟩
  · rw [iif_t b1]
    rcases talkAt_sp S z1.1 r k with ⟨h1, h2⟩ | ⟨h1, h2, h3⟩
    · exact h1.symm
    · exact absurd ((pq _ h1.1 (by omega)).mpr ⟨h1.2, h2⟩) (b2 _ h1.1 (by omega))
  · rw [iif_f (by omega)]
    have b4 := (pq b (by omega) (by omega)).mp b2
    rcases talkAt_sp S z1.1 r k with ⟨h1, h2⟩ | ⟨h1, h2, h3⟩
    · exact absurd b4.2 (h2 b (by omega) b4.1)
    · generalize mTalkAt S r k = a at *
      by_cases c1 : b < a
      · exact absurd b4.2 (h3 b (by omega) c1)
      · by_cases c2 : a < b
        · exact absurd ((pq a h1.1 (by omega)).mpr ⟨h1.2, h2⟩) (b3 a h1.1 c2)
        · omega
theorem long_eq {S : Int → Int} {T : Int → Nat → Bool} (hV : rV S) (hT : rT S T) {r : Int} (hr : 0 ≤ r ∧ r < 8) {n : Int} (h0 : 0 ≤ n) (hn : n ≤ 48) : bLong T r n = mLong S r n := by
  obtain ⟨m, rfl⟩ := Int.eq_ofNat_of_zero_le h0
  induction m with
  | zero => rfl
  | succ m ih =>
    have e1 : bLong T r (((m + 1 : Nat) : Int)) = bLongS T r m (bLong T r m) := bLong_s T r (i := (m : Int)) (by omega)
    have e2 : mLong S r (((m + 1 : Nat) : Int)) = mLongS S r m (mLong S r m) := mLong_s S r (i := (m : Int)) (by omega)
    rw [e1, e2, ih (by omega) (by omega)]
    have q := tAt_iff hV hT hr (k := (m : Int)) (by omega)
    unfold bLongS mLongS mmax2
    by_cases c : T r (m : Int).toNat = true
    · rw [iif_t c, iif_f (q.mp c)]
    · rw [iif_f c, iif_t (Classical.not_not.mp (fun x => c (q.mpr x)))]
theorem at_eq {S : Int → Int} {O : Nat → Bool} {G F E Z P R C : Int → Int} {T : Int → Nat → Bool} (h : rB S O G F E Z P R C T) {k : Int} : bAt F E P k 20 = mTalksAt S k 8 := by
  have z1 := h.2.2.1.1.2.1
  have main : ∀ n : Int, 0 ≤ n → n ≤ S 1 → bAt F E P k n = sI (fun r => b2p (∃ t, (0 ≤ t ∧ t < n) ∧ S (29 + 4 * t + 3) = r ∧ S (29 + 4 * t + 0) ≤ k ∧ k < S (29 + 4 * t + 1))) 8 := by
    intro n h0
    refine fI_ind (fun n (x : Int) => n ≤ S 1 → x = sI (fun r => b2p (∃ t, (0 ≤ t ∧ t < n) ∧ S (29 + 4 * t + 3) = r ∧ S (29 + 4 * t + 0) ≤ k ∧ k < S (29 + 4 * t + 1))) 8) (fun _ => ?_) (fun i x hi hin hx hle => ?_) h0
    · exact (sI_0 (by omega) (fun r r0 r1 => b2p_f (fun q => by obtain ⟨t, a, -⟩ := q; omega))).symm
    · have hx := hx (by omega)
      have g := h.2.1.1.1 i hi (by omega)
      have v := h.1.2.1.2 i hi (by omega)
      unfold bAtS
      by_cases c : bTk F E P i k
      · rw [iif_t c, hx]
        unfold bTk at c
        rw [g.1.1, g.1.2, g.2.2] at c
        refine (sI_one (q := S (29 + 4 * i + 3)) (by omega) (fun r r0 r1 rn => b2p_c ⟨?_, ?_⟩) ?_).symm
        · rintro ⟨t, tt, a, b⟩
          exact ⟨t, ⟨tt.1, by have : ¬ t = i := (fun q => rn (by rw [← a, q])); omega⟩, a, b⟩
        · rintro ⟨t, tt, a, b⟩
          exact ⟨t, by omega, a, b⟩
        · rw [b2p_t ⟨i, by omega, rfl, c.2⟩, b2p_f]
          · rfl
          · rintro ⟨t, tt, a, b⟩
            have := v.2.2 t tt.1 (by omega) (by omega) c.1 a
            omega
      · rw [iif_f c, hx]
        unfold bTk at c
        rw [g.1.1, g.1.2, g.2.2] at c
        refine (sI_c (by omega) (fun r r0 r1 => b2p_c ⟨?_, ?_⟩))
        · rintro ⟨t, tt, a, b⟩
          exact ⟨t, by omega, a, b⟩
        · rintro ⟨t, tt, a, b⟩
          exact ⟨t, ⟨tt.1, by have : ¬ t = i := (fun q => by rw [q] at a b; exact c ⟨by omega, b⟩); omega⟩, a, b⟩
  have more : ∀ d : Nat, S 1 + d ≤ 20 → bAt F E P k (S 1 + d) = bAt F E P k (S 1) := by
    intro d
    induction d with
    | zero => intro _; rw [show S 1 + ((0 : Nat) : Int) = S 1 by omega]
    | succ d ih =>
      intro hd
      rw [show S 1 + ((d + 1 : Nat) : Int) = (S 1 + d) + 1 by omega, bAt_s F E P k (by omega)]
      unfold bAtS
      rw [iif_f, ih (by omega)]
      unfold bTk
      rw [h.2.1.1.2 _ (by omega) (by omega)]
      exact fun q => q.1 rfl
  have e := more (20 - S 1).toNat (by omega)
  rw [show S 1 + (((20 - S 1).toNat : Nat) : Int) = 20 by omega] at e
  rw [e, main (S 1) z1.1 (Int.le_refl _)]
  have e2 : mTalksAt S k 8 = sI (fun r => b2p (¬ mTalkAt S r k = -1000004)) 8 := by
    unfold mTalksAt sI
    congr 1
    funext r x
    unfold mTalksAtS
    show _ = x + b2p (¬ mTalkAt S r k = -1000004)
    by_cases c : mTalkAt S r k = -1000004
    · rw [iif_t c, b2p_f (fun q => q c)]
    · rw [iif_f c, b2p_t c]
  rw [e2]
  refine sI_c (by omega) (fun r r0 r1 => b2p_c ?_)
  rcases talkAt_sp S z1.1 r k with ⟨h1, h2⟩ | ⟨h1, h2, h3⟩
  · refine ⟨fun q => ?_, fun q => absurd h1 q⟩
    obtain ⟨t, tt, a, b⟩ := q
    exact absurd ⟨a, b.1, by omega⟩ (h2 t tt.1 tt.2)
  · exact ⟨fun _ => by omega, fun _ => ⟨_, h1, h2.1, by omega⟩⟩
theorem few_eq {S : Int → Int} {O : Nat → Bool} {G F E Z P R C : Int → Int} {T : Int → Nat → Bool} (h : rB S O G F E Z P R C T) : bFew F E P 48 = mFew S 48 := by
  have main : ∀ m : Nat, m ≤ 48 → bFew F E P m = mFew S m := by
    intro m
    induction m with
    | zero => intro _; rfl
    | succ m ih =>
      intro hm
      have e1 : bFew F E P (((m + 1 : Nat) : Int)) = mmax2 (bFew F E P m) (bAt F E P m 20) := bFew_s F E P (i := (m : Int)) (by omega)
      have e2 : mFew S (((m + 1 : Nat) : Int)) = mFewS S m (mFew S m) := mFew_s S (i := (m : Int)) (by omega)
      rw [e1, e2, ih (by omega), at_eq h]
      rfl
  exact main 48 (by omega)
theorem hrs_eq {S : Int → Int} {T : Int → Nat → Bool} (hV : rV S) (hT : rT S T) : bHrs T 8 = mHours S 8 :=
  sI_c (g := fun r => mTaken S r (S 1)) (g' := fun r => ((cntN (T r) 48 : Nat) : Int)) (by omega) (fun r r0 r1 => taken_eq hV hT ⟨r0, r1⟩)
theorem mskI_c {p q : Int → Prop} {n : Int} (h : ∀ k, 0 ≤ k → k < n → (p k ↔ q k)) : mskI p n = mskI q n := by
  unfold mskI
  congr 1
  refine mkN_ext (mkN_lt _ _) (fun k hk => ?_)
  rw [mkN_bit, decide_eq_true (p := k < n.toNat) hk, Bool.true_and, Bool.eq_iff_iff, bd_iff, bd_iff]
  exact h k (by omega) (by omega)
theorem mskI_w {p : Int → Prop} {n m : Int} (h0 : 0 ≤ n) (hm : n ≤ m) (h : ∀ k, n ≤ k → k < m → ¬ p k) : mskI p n = mskI p m := by
  have main : ∀ d : Nat, n + d ≤ m → mskI p n = mskI p (n + d) := by
    intro d
    induction d with
    | zero => intro _; rw [show n + ((0 : Nat) : Int) = n by omega]
    | succ d ih =>
      intro hd
      rw [ih (by omega), show n + ((d + 1 : Nat) : Int) = (n + d) + 1 by omega]
      exact mskI_n (by omega) (h _ (by omega) (by omega))
  have e := main (m - n).toNat (by omega)
  rw [show n + (((m - n).toNat : Nat) : Int) = m by omega] at e
  exact e
theorem mskI_e {p q : Int → Prop} {n m : Int} (h0 : 0 ≤ n) (hm : n ≤ m) (h : ∀ k, n ≤ k → k < m → ¬ p k) (h2 : ∀ k, 0 ≤ k → k < n → (p k ↔ q k)) : mskI p m = mskI q n := by
  rw [← mskI_w h0 hm h]; exact mskI_c h2
theorem bit_at (f : Nat → Bool) {n : Nat} (hn : n ≤ 30) (k : Int) (hk : 0 ≤ k ∧ k < 30) : bitI (nI (mkN f n)) k = b2p (k < n ∧ f k.toNat = true) := by
  obtain ⟨j, rfl⟩ := Int.eq_ofNat_of_zero_le hk.1
  have hlt := mkN_lt f n
  have h30 : 2 ^ n ≤ 2 ^ 30 := Nat.pow_le_pow_right (by omega) hn
  have key : (nI (mkN f n) >>> (iI (j : Int) &&& 31)) &&& iI 1 = iI (b2p ((j : Int) < n ∧ f (j : Int).toNat = true)) := by
    rw [pk_shrN (by omega) (iI (j : Int) &&& 31) j (opSh j (by omega))]
    show nI (mkN f n / 2 ^ j) &&& nI 1 = _
    rw [fa_and, Nat.and_one_is_mod]
    have hb := mkN_bit f n j
    rw [Nat.testBit_eq_decide_div_mod_eq] at hb
    by_cases c : (j : Int) < n ∧ f (j : Int).toNat = true
    · have c2 : f j = true := c.2
      rw [c2, decide_eq_true (p := j < n) (by omega), Bool.true_and] at hb
      rw [b2p_t c, of_decide_eq_true hb]; rfl
    · have h0 : (decide (j < n) && f j) = false := by
        rw [Bool.and_eq_false_iff]
        by_cases c2 : j < n
        · right; rw [← Bool.not_eq_true]; exact fun x => c ⟨by omega, x⟩
        · left; exact decide_eq_false c2
      rw [h0] at hb
      have h2 : mkN f n / 2 ^ j % 2 = 0 := by
        have := of_decide_eq_false hb
        omega
      rw [b2p_f c, h2]; rfl
  unfold bitI
  rw [key, iI_toInt (b2p_rg _)]
theorem pop_eq (p : Int → Prop) {n : Int} (h0 : 0 ≤ n) (hn : n ≤ 20) : popI (mskI p n) 20 = ((cntN (bd (fun t => t < n ∧ p t)) 20 : Nat) : Int) := by
  have main : ∀ m : Nat, m ≤ 20 → popI (mskI p n) m = ((cntN (bd (fun t => t < n ∧ p t)) m : Nat) : Int) := by
    intro m
    induction m with
    | zero => intro _; rfl
    | succ m ih =>
      intro hm
      have e1 : popI (mskI p n) (((m + 1 : Nat) : Int)) = popI (mskI p n) m + bitI (mskI p n) m := fI_s (g := fun k y => y + bitI (mskI p n) k) (a := (0 : Int)) (i := (m : Int)) (by omega)
      rw [e1, ih (by omega)]
      unfold mskI
      rw [bit_at _ (by omega) _ (by omega)]
      show _ = ((cntN (bd (fun t => t < n ∧ p t)) m + (if bd (fun t => t < n ∧ p t) m then 1 else 0) : Nat) : Int)
      by_cases c : (m : Int) < n ∧ p m
      · rw [if_pos (bd_t (p := fun t => t < n ∧ p t) c), b2p_t]
        · rfl
        · exact ⟨by omega, bd_t c.2⟩
      · rw [if_neg (by rw [bd_f (p := fun t => t < n ∧ p t) c]; exact Bool.noConfusion), b2p_f]
        · rfl
        · rintro ⟨a, b⟩
          exact c ⟨by omega, bd_iff.mp b⟩
  exact main 20 (by omega)
theorem cnt_eq {S : Int → Int} {O : Nat → Bool} {G F E Z P R C : Int → Int} {T : Int → Nat → Bool} (h : rB S O G F E Z P R C T) {r : Int} (hr : 0 ≤ r) : ((cntN (bd (fun t => P t = r)) 20 : Nat) : Int) = popI (mskI (fun t => S (29 + 4 * t + 3) = r) (S 1)) 20 := by
  have z1 := h.2.2.1.1.2.1
  rw [pop_eq _ z1.1 z1.2]
  congr 1
  refine cntN_c _ (fun k hk => ?_)
  rw [Bool.eq_iff_iff, bd_iff, bd_iff]
  by_cases c : (k : Int) < S 1
  · have g := h.2.1.1.1 k (by omega) c
    rw [g.2.2]
    exact ⟨fun q => ⟨c, q⟩, fun q => q.2⟩
  · have g := h.2.1.1.2 k (by omega) (by omega)
    rw [g]
    exact ⟨fun q => by omega, fun q => absurd q.1 c⟩
theorem mskT_eq {S : Int → Int} {O : Nat → Bool} {G F E Z P R C : Int → Int} {T : Int → Nat → Bool} (h : rB S O G F E Z P R C T) {r : Int} (hr : 0 ≤ r) : mskI (fun t => P t = r) 20 = mskI (fun t => S (29 + 4 * t + 3) = r) (S 1) := by
  have z1 := h.2.2.1.1.2.1
  refine mskI_e z1.1 z1.2 (fun k k0 k1 => ?_) (fun k k0 k1 => ?_)
  · rw [h.2.1.1.2 k k0 k1]; omega
  · rw [(h.2.1.1.1 k k0 k1).2.2]
theorem roomOf_eq {S : Int → Int} {O : Nat → Bool} {G F E Z P R C : Int → Int} {T : Int → Nat → Bool} (h : rB S O G F E Z P R C T) {r w : Int} (hr : 0 ≤ r ∧ r < 8) : bRoomOf O P R C T r w = mRoomOf S r w := by
  have g := h.1.1 r hr.1 hr.2
  unfold bRoomOf mRoomOf
  rw [g.1.1, g.1.2, taken_eq h.1.2.1 h.1.2.2 hr, long_eq h.1.2.1 h.1.2.2 hr (n := 48) (by omega) (by omega), mskT_eq h hr.1, cnt_eq h hr.1]
  have eo : b2p (O r.toNat = true) = S (5 + 3 * r + 2) := by
    by_cases c : O r.toNat = true
    · rw [b2p_t c, g.2.1.1.mp c]
    · rw [b2p_f c]; exact (g.2.1.2.resolve_right (fun q => c (g.2.1.1.mpr q))).symm
  rw [eo]
  by_cases c0 : w = 0
  · subst c0; unfold iif; simp
  by_cases c1 : w = 1
  · subst c1; unfold iif; simp
  by_cases c2 : w = 2
  · subst c2; unfold iif; simp
  rw [iif_f c0, iif_f c1, iif_f c2, iif_f (P := 0 ≤ w ∧ w ≤ 2) (by omega)]
theorem talkOf_eq {S : Int → Int} {O : Nat → Bool} {G F E Z P R C : Int → Int} {T : Int → Nat → Bool} (h : rB S O G F E Z P R C T) {t w : Int} (ht : mTalkP S t) : bTalkOf O F E Z P R T t w = iif (0 ≤ w ∧ w ≤ 5) (iif (w = 4) (mskI (fun r => mMove S t r) 8) (iif (w = 5) (mskI (fun u => ¬ u = t ∧ ¬ S (29 + 4 * u + 3) = -1 ∧ S (29 + 4 * u + 0) < S (29 + 4 * t + 1) ∧ S (29 + 4 * t + 0) < S (29 + 4 * u + 1)) (S 1)) (iI (S (29 + 4 * t + w))))) (iI (-1000001)) := by
  have z1 := h.2.2.1.1.2.1
  obtain ⟨hp, h1, h2, h3⟩ := (talkP_iff h t).2 ht
  have v := (h.1.2.1.2 t h1.1 h1.2).1
  have e4 : mskI (fun r => bGo O F E Z P R T t r) 8 = mskI (fun r => mMove S t r) 8 := mskI_c (fun r r0 r1 => go_iff h ht ⟨r0, r1⟩)
  have e5 : mskI (fun u => bBes F E P t u) 20 = mskI (fun u => ¬ u = t ∧ ¬ S (29 + 4 * u + 3) = -1 ∧ S (29 + 4 * u + 0) < S (29 + 4 * t + 1) ∧ S (29 + 4 * t + 0) < S (29 + 4 * u + 1)) (S 1) := by
    refine mskI_e z1.1 z1.2 (fun k k0 k1 => ?_) (fun u u0 u1 => ?_)
    · unfold bBes
      rw [h.2.1.1.2 k k0 k1]; exact fun q => q.2.1 rfl
    · have g := h.2.1.1.1 u u0 u1
      have vu := (h.1.2.1.2 u u0 u1).1
      unfold bBes
      rw [h3.1.1, h3.1.2, g.1.1, g.1.2, g.2.2]
      refine and_congr Iff.rfl (and_congr Iff.rfl ⟨fun q => ?_, fun q q2 => ?_⟩)
      · by_cases c : S (29 + 4 * u + 0) < S (29 + 4 * t + 1) ∧ S (29 + 4 * t + 0) < S (29 + 4 * u + 1)
        · exact c
        · exfalso
          refine q (fun k hk => ?_)
          rw [Bool.and_eq_false_iff]
          unfold iv
          rw [decide_eq_false_iff_not, decide_eq_false_iff_not]
          omega
      · by_cases c : S (29 + 4 * u + 0) ≤ S (29 + 4 * t + 0)
        · have := q2 (S (29 + 4 * t + 0)).toNat (by omega)
          rw [Bool.and_eq_false_iff] at this
          unfold iv at this
          rw [decide_eq_false_iff_not, decide_eq_false_iff_not] at this
          omega
        · have := q2 (S (29 + 4 * u + 0)).toNat (by omega)
          rw [Bool.and_eq_false_iff] at this
          unfold iv at this
          rw [decide_eq_false_iff_not, decide_eq_false_iff_not] at this
          omega
  unfold bTalkOf
  rw [e4, e5, h3.1.1, h3.1.2, h3.2.1, h3.2.2]
  by_cases c0 : w = 0
  · subst c0; unfold iif; simp
  by_cases c1 : w = 1
  · subst c1; unfold iif; simp
  by_cases c2 : w = 2
  · subst c2; unfold iif; simp
  by_cases c3 : w = 3
  · subst c3; unfold iif; simp
  by_cases c4 : w = 4
  · subst c4; unfold iif; simp
  by_cases c5 : w = 5
  · subst c5; unfold iif; simp
  rw [iif_f c0, iif_f c1, iif_f c2, iif_f c3, iif_f c4, iif_f c5, iif_f (P := 0 ≤ w ∧ w ≤ 5) (by omega)]
/-- talks that are told and not withdrawn -/
def rN (S : Int → Int) : Prop := mTalks S (S 1) = S 1 - S 4
theorem talks_sI (S : Int → Int) (n : Int) : mTalks S n = sI (fun t => iif (S (29 + 4 * t + 3) = -1) 0 1) n := by
  unfold mTalks sI
  congr 1
  funext t x
  unfold mTalksS
  show _ = x + iif (S (29 + 4 * t + 3) = -1) 0 1
  by_cases c : S (29 + 4 * t + 3) = -1
  · rw [iif_t c, iif_t c]
  · rw [iif_f c, iif_f c]
theorem num_eq {S : Int → Int} {O : Nat → Bool} {G F E Z P R C : Int → Int} {T : Int → Nat → Bool} (h : rB S O G F E Z P R C T) (hN : rN S) (Fm : Int → Int) {w : Int} (h8 : ¬ w = 8) (h9 : ¬ w = 9) (h20 : ¬ w = 20) : bNum O G F E P T w = mCount Fm S w := by
  have hG := h.2.1.2
  unfold bNum mCount
  rw [iif_f h8, iif_f h9, iif_f h20, few_eq h, hrs_eq h.1.2.1 h.1.2.2, openN_eq h.1.1 (n := 8) (by omega) (by omega), hG.1.2, hG.2.1.1, hG.2.1.2, hG.2.2, hN]
  rfl
theorem free_eq {S : Int → Int} {O : Nat → Bool} {G F E Z P R C : Int → Int} {T : Int → Nat → Bool} (h : rB S O G F E Z P R C T) {k : Int} (hk : 0 ≤ k ∧ k < 48) : mskI (fun t => O t.toNat = true ∧ ¬ T t k.toNat = true) 8 = mskI (fun t => S (5 + 3 * t + 2) = 1 ∧ mTalkAt S t k = -1000004) 8 := by
  refine mskI_c (fun r r0 r1 => ?_)
  rw [(h.1.1 r r0 r1).2.1.1, tAt_iff h.1.2.1 h.1.2.2 ⟨r0, r1⟩ hk, Classical.not_not]
