/-! which room a talk gets, on both sides -/
theorem mCan_closed {S : Int → Int} {r f e z : Int} (b : Int) (hV : rV S) (hr : 0 ≤ r ∧ r < 8) (ho : ¬ S (5 + 3 * r + 2) = 1) : mCan S r f e z b ↔ z ≤ S (5 + 3 * r + 0) := by
  unfold mCan
  refine ⟨fun h => h.1, fun h => ⟨h, fun t h1 h2 => ?_⟩⟩
  by_cases c : S (29 + 4 * t + 3) = r
  · exfalso
    have := (hV.2 t h1 h2).2.1 (by omega)
    rw [c] at this
    exact ho this
  · exact Or.inr (Or.inl c)
theorem rank_eq {S : Int → Int} {O : Nat → Bool} {R C : Int → Int} {T : Int → Nat → Bool} (hR : rR S O R C) (hV : rV S) (hT : rT S T) {r f e z rule : Int} (hr : 0 ≤ r ∧ r < 8) (hf : 0 ≤ f ∧ f < e ∧ e ≤ 48) (hu : 0 ≤ rule ∧ rule ≤ 3) (hc : mCan S r f e z (-1)) : bRank R T r f rule = mWorth S r f rule := by
  unfold bRank mWorth
  have h0 := (hR r hr.1 hr.2).1.1
  have h1 := gap_eq hV hT hr hf hc
  have h2 := taken_eq hV hT hr
  rw [h0, h1, h2]
  unfold iif
  grind
theorem for_step {S : Int → Int} {O : Nat → Bool} {R C : Int → Int} {T : Int → Nat → Bool} (hR : rR S O R C) (hV : rV S) (hT : rT S T) {f e z rule : Int} (hf : 0 ≤ f ∧ f < e ∧ e ≤ 48) (hu : 0 ≤ rule ∧ rule ≤ 3) {n : Int} (h0 : 0 ≤ n) (h8 : n ≤ 8) :
    ((bForX O R T f e z rule n).1 = (mGetX S f e z rule n).1 ∧ ((bForX O R T f e z rule n).1 = -1 ∨ (bForX O R T f e z rule n).2 = mWorth S (bForX O R T f e z rule n).1 f rule)) ∧ ((bOpX O R C z n).1 = (mGetX S f e z rule n).2 ∧ ((bOpX O R C z n).1 = -1 ∨ (bOpX O R C z n).2 = mDear S (bOpX O R C z n).1)) ∧ -1 ≤ (bForX O R T f e z rule n).1 ∧ -1 ≤ (bOpX O R C z n).1 := by
  obtain ⟨m, rfl⟩ := Int.eq_ofNat_of_zero_le h0
  induction m with
  | zero =>
    refine ⟨⟨rfl, Or.inl rfl⟩, ⟨rfl, Or.inl rfl⟩, ?_⟩
    show (-1 : Int) ≤ -1 ∧ (-1 : Int) ≤ -1
    omega
  | succ m ih =>
    have ih := ih (by omega) (by omega)
    have hi : (0 : Int) ≤ (m : Int) := by omega
    have e1 : bForX O R T f e z rule (((m + 1 : Nat) : Int)) = bForS O R T f e z rule m (bForX O R T f e z rule m) := bForX_s O R T f e z rule hi
    have e2 : bOpX O R C z (((m + 1 : Nat) : Int)) = bOpS O R C z m (bOpX O R C z m) := bOpX_s O R C z hi
    have e3 : mGetX S f e z rule (((m + 1 : Nat) : Int)) = mGetS S f e z rule m (mGetX S f e z rule m) := fI_s hi
    rw [e1, e2, e3]
    generalize bForX O R T f e z rule m = x at *
    generalize bOpX O R C z m = y at *
    generalize mGetX S f e z rule m = g at *
    obtain ⟨x1, x2⟩ := x
    obtain ⟨y1, y2⟩ := y
    obtain ⟨g1, g2⟩ := g
    obtain ⟨⟨a1, a2⟩, ⟨b1, b2⟩, b3, b4⟩ := ih
    dsimp only at a1 a2 b1 b2 b3 b4
    subst a1 b1
    have hm : 0 ≤ (m : Int) ∧ (m : Int) < 8 := by omega
    have hr := hR m hm.1 hm.2
    have hd : mDear S m = 10 * C m + R m := by unfold mDear; rw [hr.1.1, hr.1.2]
    unfold bForS bOpS mGetS
    rw [hold_can hR hV hT (-1) hm hf (fun t h1 h2 h3 => by omega)]
    dsimp only
    by_cases c1 : S (5 + 3 * (m : Int) + 2) = 1
    · have c2 : O (m : Int).toNat = true := hr.2.1.1.mpr c1
      rw [iif_f (P := (¬ O (m : Int).toNat = true ∧ z ≤ R m) ∧ _) (fun h => h.1.1 c2)]
      by_cases c3 : mCan S m f e z (-1)
      · have hk := rank_eq hR hV hT hm hf hu c3
        rw [iif_t c3, iif_t c1, hk]
        dsimp only
        by_cases c4 : x1 = -1 ∨ mWorth S m f rule < mWorth S x1 f rule
        · rw [iif_t ⟨⟨c2, c3⟩, by omega⟩, iif_t c4]
          exact ⟨⟨rfl, Or.inr rfl⟩, ⟨rfl, b2⟩, by dsimp only; omega, b4⟩
        · rw [iif_f (fun h => by omega), iif_f c4]
          exact ⟨⟨rfl, a2⟩, ⟨rfl, b2⟩, b3, b4⟩
      · rw [iif_f (fun h => c3 h.1.2), iif_f c3]
        exact ⟨⟨rfl, a2⟩, ⟨rfl, b2⟩, b3, b4⟩
    · have c2 : ¬ O (m : Int).toNat = true := fun h => c1 (hr.2.1.1.mp h)
      rw [iif_f (P := (O (m : Int).toNat = true ∧ _) ∧ _) (fun h => c2 h.1.1), mCan_closed (-1) hV hm c1, hr.1.1, ← hr.1.1, ← hd]
      by_cases c3 : z ≤ R m
      · rw [iif_t c3, iif_f c1]
        dsimp only
        by_cases c4 : y1 = -1 ∨ mDear S m < mDear S y1
        · rw [iif_t ⟨⟨c2, c3⟩, by omega⟩, iif_t c4]
          exact ⟨⟨rfl, a2⟩, ⟨rfl, Or.inr rfl⟩, b3, by dsimp only; omega⟩
        · rw [iif_f (fun h => by omega), iif_f c4]
          exact ⟨⟨rfl, a2⟩, ⟨rfl, b2⟩, b3, b4⟩
      · rw [iif_f c3, iif_f (fun h => c3 h.1.2)]
        exact ⟨⟨rfl, a2⟩, ⟨rfl, b2⟩, b3, b4⟩
theorem for_eq {S : Int → Int} {O : Nat → Bool} {R C : Int → Int} {T : Int → Nat → Bool} (hR : rR S O R C) (hV : rV S) (hT : rT S T) {f e : Int} (z : Int) {rule : Int} (hf : 0 ≤ f ∧ f < e ∧ e ≤ 48) (hu : 0 ≤ rule ∧ rule ≤ 3) : bFor O R C T f e z rule = mGets S f e z rule := by
  have h := for_step (z := z) hR hV hT hf hu (n := 8) (by omega) (by omega)
  unfold bFor mGets
  rw [h.1.1, h.2.1.1]
/-- the room that is got: open and free, or shut -/
theorem gets_sp {S : Int → Int} (hV : rV S) {f e z rule : Int} {n : Int} (h0 : 0 ≤ n) (h8 : n ≤ 8) : ((mGetX S f e z rule n).1 = -1 ∨ ((0 ≤ (mGetX S f e z rule n).1 ∧ (mGetX S f e z rule n).1 < 8) ∧ mCan S (mGetX S f e z rule n).1 f e z (-1))) ∧ ((mGetX S f e z rule n).2 = -1 ∨ ((0 ≤ (mGetX S f e z rule n).2 ∧ (mGetX S f e z rule n).2 < 8) ∧ mCan S (mGetX S f e z rule n).2 f e z (-1))) := by
  refine fI_ind (fun n (x : Int × Int) => (x.1 = -1 ∨ ((0 ≤ x.1 ∧ x.1 < 8) ∧ mCan S x.1 f e z (-1))) ∧ (x.2 = -1 ∨ ((0 ≤ x.2 ∧ x.2 < 8) ∧ mCan S x.2 f e z (-1)))) ⟨Or.inl rfl, Or.inl rfl⟩ (fun i x hi hin hx => ?_) h0
  unfold mGetS
  by_cases c : mCan S i f e z (-1)
  · rw [iif_t c]
    by_cases c2 : S (5 + 3 * i + 2) = 1
    · rw [iif_t c2]
      refine ⟨?_, hx.2⟩
      by_cases c3 : x.1 = -1 ∨ mWorth S i f rule < mWorth S x.1 f rule
      · rw [iif_t c3]; exact Or.inr ⟨by dsimp only; omega, c⟩
      · rw [iif_f c3]; exact hx.1
    · rw [iif_f c2]
      refine ⟨hx.1, ?_⟩
      by_cases c3 : x.2 = -1 ∨ mDear S i < mDear S x.2
      · rw [iif_t c3]; exact Or.inr ⟨by dsimp only; omega, c⟩
      · rw [iif_f c3]; exact hx.2
  · rw [iif_f c]; exact hx
theorem gets_ok {S : Int → Int} (hV : rV S) (f e z rule : Int) : mGets S f e z rule = -1 ∨ ((0 ≤ mGets S f e z rule ∧ mGets S f e z rule < 8) ∧ mCan S (mGets S f e z rule) f e z (-1)) := by
  have h := gets_sp hV (f := f) (e := e) (z := z) (rule := rule) (n := 8) (by omega) (by omega)
  unfold mGets
  by_cases c : (mGetX S f e z rule 8).1 = -1
  · rw [iif_t c]; exact h.2
  · rw [iif_f c]; exact h.1
