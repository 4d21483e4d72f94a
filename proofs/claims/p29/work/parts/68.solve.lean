-- the search over rows that stay small: the best place is in the field, its cost fits into an int
section SV1
variable {F F' : Nat → Nat → Int32} {n : Nat} {px py lo : Int32}
def FB (F : Nat → Nat → Int32) (n : Nat) : Prop := ∀ k, k < n → (Bd (F 0 k) 200 ∧ Bd (F 1 k) 200) ∧ Bd (F 2 k) 7879 ∧ (F 3 k = 1 ∨ F 3 k = 2 ∨ F 3 k = 4)
def qW (F : Nat → Nat → Int32) (lo : Int32) : Nat → Int
  | 0 => 0
  | k + 1 => if nI k = lo then qW F lo k else qW F lo k + (F 3 k).toInt
def qS (F : Nat → Nat → Int32) (px py lo : Int32) : Nat → Int
  | 0 => 0
  | k + 1 => if nI k = lo then qS F px py lo k else qS F px py lo k + (F 3 k).toInt * (pOv F px py k).toInt
def qQ (F : Nat → Nat → Int32) (px py lo : Int32) : Nat → Int
  | 0 => 0
  | k + 1 => if nI k = lo then qQ F px py lo k else qQ F px py lo k + (F 3 k).toInt * (pOv F px py k).toInt * (pOv F px py k).toInt
def qC (F : Nat → Nat → Int32) (px py lo : Int32) (t : Int) : Nat → Int
  | 0 => 0
  | k + 1 => if nI k = lo then qC F px py lo t k else qC F px py lo t k + (F 3 k).toInt * ((pOv F px py k).toInt - t) * ((pOv F px py k).toInt - t)
theorem FB.w (h : FB F n) {k : Nat} (hk : k < n) : 1 ≤ (F 3 k).toInt ∧ (F 3 k).toInt ≤ 4 := by
  rcases (h k hk).2.2 with q | q | q <;> rw [q] <;> decide
theorem FB.ov (h : FB F n) {k : Nat} (hk : k < n) (hx : Bd px 12) (hy : Bd py 12) : Bd (pOv F px py k) 8091 := by
  obtain ⟨⟨h0, h1⟩, h2, -⟩ := h k hk
  unfold pOv
  exact Bd.sub h2 (Bd.range hx hy h0 h1 (by decide)) (by decide)
theorem sqI (x : Int) : 0 ≤ x * x := by
  rcases Int.le_total 0 x with h | h
  · exact Int.mul_nonneg h h
  · exact Int.mul_nonneg_of_nonpos_of_nonpos h h
theorem sq_le {x : Int} (h : x.natAbs ≤ 8091) : x * x ≤ 65464281 := by
  have h1 : x.natAbs * x.natAbs ≤ 8091 * 8091 := Nat.mul_le_mul h h
  have h2 : x * x = ((x.natAbs * x.natAbs : Nat) : Int) := Int.natAbs_mul_self.symm
  omega
theorem FB.wq (h : FB F n) : ∀ m, m ≤ n → 0 ≤ qW F lo m ∧ qW F lo m ≤ 4 * m
  | 0, _ => by rw [qW]; omega
  | m + 1, hm => by
    have ih := FB.wq h m (by omega)
    have hw := h.w (show m < n by omega)
    rw [qW]
    split <;> omega
theorem FB.sq (h : FB F n) (hx : Bd px 12) (hy : Bd py 12) : ∀ m, m ≤ n → (qS F px py lo m).natAbs ≤ m * 32364
  | 0, _ => by rw [qS]; decide
  | m + 1, hm => by
    have ih := FB.sq h hx hy m (by omega)
    have hw := h.w (show m < n by omega)
    have ho := h.ov (show m < n by omega) hx hy
    have hp : ((F 3 m).toInt * (pOv F px py m).toInt).natAbs ≤ 4 * 8091 := by
      rw [Int.natAbs_mul]
      exact Nat.mul_le_mul (by omega) ho
    rw [qS]
    split
    · exact Nat.le_trans ih (Nat.mul_le_mul_right _ (Nat.le_succ m))
    · refine Nat.le_trans (Int.natAbs_add_le _ _) ?_
      rw [Nat.succ_mul]
      exact Nat.add_le_add ih hp
theorem FB.qq (h : FB F n) (hx : Bd px 12) (hy : Bd py 12) : ∀ m, m ≤ n → qQ F px py lo m ≤ qW F lo m * 65464281
  | 0, _ => by rw [qQ, qW]; decide
  | m + 1, hm => by
    have ih := FB.qq h hx hy m (by omega)
    have hw := h.w (show m < n by omega)
    have ho := sq_le (h.ov (show m < n by omega) hx hy)
    have hp : (F 3 m).toInt * ((pOv F px py m).toInt * (pOv F px py m).toInt) ≤ (F 3 m).toInt * 65464281 := Int.mul_le_mul_of_nonneg_left ho (by omega)
    rw [← Int.mul_assoc] at hp
    rw [qQ, qW]
    split
    · exact ih
    · rw [Int.add_mul]
      omega
theorem qC_eq (t : Int) : ∀ m, qC F px py lo t m = qQ F px py lo m - 2 * (t * qS F px py lo m) + t * t * qW F lo m
  | 0 => by
    have h : (0 : Int) = 0 - 2 * (t * 0) + t * t * 0 := by simp
    rw [qC, qQ, qS, qW]
    exact h
  | m + 1 => by
    have ih := qC_eq t m
    rw [qC, qQ, qS, qW]
    split
    · exact ih
    · rw [ih]
      grind
theorem qC_nn (h : FB F n) (t : Int) : ∀ m, m ≤ n → 0 ≤ qC F px py lo t m
  | 0, _ => by rw [qC]; decide
  | m + 1, hm => by
    have ih := qC_nn h t m (by omega)
    have hw := h.w (show m < n by omega)
    have hp : 0 ≤ (F 3 m).toInt * (((pOv F px py m).toInt - t) * ((pOv F px py m).toInt - t)) := Int.mul_nonneg (by omega) (sqI _)
    rw [← Int.mul_assoc] at hp
    rw [qC]
    split
    · exact ih
    · omega
theorem pWt_i (h : FB F n) (h8 : n ≤ 8) : ∀ m, m ≤ n → (pWt F lo m).toInt = qW F lo m
  | 0, _ => by rw [pWt, qW, tI_0]
  | m + 1, hm => by
    have ih := pWt_i h h8 m (by omega)
    have hb := h.wq (lo := lo) m (by omega)
    have hw := h.w (show m < n by omega)
    rw [pWt, qW]
    split
    · exact ih
    · rw [i_add (by omega) (by omega), ih]
theorem pSum_i (h : FB F n) (h8 : n ≤ 8) (hx : Bd px 12) (hy : Bd py 12) : ∀ m, m ≤ n → (pSum F px py lo m).toInt = qS F px py lo m
  | 0, _ => by rw [pSum, qS, tI_0]
  | m + 1, hm => by
    have ih := pSum_i h h8 hx hy m (by omega)
    have hb := h.sq (lo := lo) hx hy m (by omega)
    have hw := h.w (show m < n by omega)
    have ho := h.ov (show m < n by omega) hx hy
    have hp : ((F 3 m).toInt * (pOv F px py m).toInt).natAbs ≤ 4 * 8091 := by
      rw [Int.natAbs_mul]
      exact Nat.mul_le_mul (by omega) ho
    have e : (F 3 m * pOv F px py m).toInt = (F 3 m).toInt * (pOv F px py m).toInt := i_mul (by omega) (by omega)
    rw [pSum, qS]
    split
    · exact ih
    · rw [i_add (by rw [ih, e]; omega) (by rw [ih, e]; omega), ih, e]
/-- the quotient that goes down -/
theorem pFDiv_sp {x c : Int32} (hc : 0 < c.toInt) : (pFDiv x c).toInt * c.toInt ≤ x.toInt ∧ x.toInt < (pFDiv x c).toInt * c.toInt + c.toInt := by
  have hn : c ≠ -1 := fun q => by
    rw [q] at hc
    exact absurd hc (by decide)
  have hc0 : 0 ≤ c := by rw [Int32.le_iff_toInt_le, tI_0]; omega
  have h1 : (x / c).toInt = x.toInt.tdiv c.toInt := i_div hn
  have h2 := Int.mul_tdiv_add_tmod x.toInt c.toInt
  rw [Int.mul_comm] at h2
  have h3 := tmod_lt (x := x.toInt) hc
  have hx1 := x.toInt_lt
  have hx2 := x.le_toInt
  have hc9 := c.toInt_lt
  have h5 : (x.toInt.tdiv c.toInt * c.toInt).natAbs ≤ x.toInt.natAbs := by
    rw [Int.natAbs_mul, Int.natAbs_tdiv]
    exact Nat.div_mul_le_self _ _
  have h6 : (x / c * c).toInt = x.toInt.tdiv c.toInt * c.toInt := by
    rw [i_mul (by rw [h1]; omega) (by rw [h1]; omega), h1]
  have h7 : (x.toInt.tdiv c.toInt).natAbs ≤ x.toInt.natAbs := by
    rw [Int.natAbs_tdiv]
    exact Nat.div_le_self _ _
  unfold pFDiv
  by_cases h : 0 ≤ x
  · have hs : 0 ≤ x.toInt.tmod c.toInt := Int.tmod_nonneg _ (by rw [Int32.le_iff_toInt_le, tI_0] at h; exact h)
    rw [if_pos ((sgn_xor hc0).mpr h), h1]
    omega
  · have hs : x.toInt.tmod c.toInt ≤ 0 := by
      rw [← pRem_toInt hc]
      exact pRem_np hc h
    have hx0 : x.toInt < 0 := by
      rw [Int32.le_iff_toInt_le, tI_0] at h
      omega
    rw [if_neg (fun q => h ((sgn_xor hc0).mp q))]
    by_cases h8 : x / c * c = x
    · rw [if_pos h8, h1]
      have h9 := congrArg Int32.toInt h8
      rw [h6] at h9
      omega
    · rw [if_neg h8]
      have h9 : x.toInt.tdiv c.toInt * c.toInt ≠ x.toInt := fun q => h8 (Int32.toInt_inj.mp (h6.trans q))
      have hq : 0 < c.toInt → x.toInt.tdiv c.toInt * c.toInt ≤ 0 → x.toInt.tdiv c.toInt ≤ 0 := fun a b => by
        rcases Int.le_total (x.toInt.tdiv c.toInt) 0 with z | z
        · exact z
        · by_cases z1 : x.toInt.tdiv c.toInt = 0
          · omega
          · have := Int.mul_pos (show 0 < x.toInt.tdiv c.toInt by omega) a
            omega
      have hlo : -2147483648 < x.toInt.tdiv c.toInt := by
        by_cases z : c.toInt = 1
        · rw [z, Int.mul_one] at h9
          rw [z] at h2 h3
          omega
        · have z2 : x.toInt.natAbs / c.toInt.natAbs ≤ x.toInt.natAbs / 2 := Nat.div_le_div_left (by omega) (by omega)
          have z3 : (x.toInt.tdiv c.toInt).natAbs ≤ x.toInt.natAbs / 2 := by
            rw [Int.natAbs_tdiv]
            exact z2
          omega
      rw [i_sub (by rw [h1, tI_1]; omega) (by rw [h1, tI_1]; omega), h1, tI_1, Int.sub_mul, Int.one_mul]
      omega
/-- the time of a place, and its cost -/
theorem cost_le {W S Q t : Int} (hW : 0 < W) (h1 : t * W ≤ S) (h2 : S < t * W + W) (hQ : Q ≤ W * 65464281) (hW2 : W ≤ 32) : Q - 2 * (t * S) + t * t * W ≤ 2094857024 := by
  have key : t * t * W - 2 * (t * S) ≤ W := by
    obtain ⟨d, hd⟩ : ∃ d, d = S - t * W := ⟨_, rfl⟩
    have hS : S = t * W + d := by omega
    have e : t * t * W - 2 * (t * S) = -(t * t * W) - 2 * (t * d) := by
      rw [hS]
      grind
    rw [e]
    rcases Int.le_total 0 t with h | h
    · have a1 : 0 ≤ t * t * W := Int.mul_nonneg (sqI t) (by omega)
      have a2 : 0 ≤ t * d := Int.mul_nonneg h (by omega)
      omega
    · have a1 : 0 ≤ W * ((t + 1) * (t + 1)) := Int.mul_nonneg (by omega) (sqI _)
      have a2 : 0 ≤ (-t) * (W - d) := Int.mul_nonneg (by omega) (by omega)
      have e1 : W * ((t + 1) * (t + 1)) = t * t * W + 2 * (t * W) + W := by grind
      have e2 : (-t) * (W - d) = t * d - t * W := by grind
      rw [e1] at a1
      rw [e2] at a2
      omega
  omega
theorem pTm_sp (h : FB F n) (h8 : n ≤ 8) (hx : Bd px 12) (hy : Bd py 12) : Bd (pTm F px py lo n) 258913 ∧ qC F px py lo (pTm F px py lo n).toInt n ≤ 2094857024 := by
  have hw := h.wq (lo := lo) n (Nat.le_refl _)
  have hs := h.sq (lo := lo) hx hy n (Nat.le_refl _)
  have hq := h.qq (lo := lo) hx hy n (Nat.le_refl _)
  have eW := pWt_i (lo := lo) h h8 n (Nat.le_refl _)
  have eS := pSum_i (lo := lo) h h8 hx hy n (Nat.le_refl _)
  have bS : Bd (pSum F px py lo n) 258912 := by
    unfold Bd
    omega
  rw [qC_eq]
  unfold pTm
  by_cases c : pWt F lo n = 0
  · rw [if_pos c]
    rw [c, tI_0] at eW
    rw [← eW] at hq
    refine ⟨Bd0 _, ?_⟩
    rw [tI_0, Int.zero_mul, Int.zero_mul, Int.zero_mul]
    omega
  · rw [if_neg c]
    have hp : 0 < (pWt F lo n).toInt := by
      have : (pWt F lo n).toInt ≠ 0 := fun q => c (Int32.toInt_inj.mp (q.trans tI_0.symm))
      omega
    have hn : pWt F lo n ≠ -1 := fun q => by
      rw [q] at hp
      exact absurd hp (by decide)
    refine ⟨Bd.fdiv bS hn (by decide), ?_⟩
    obtain ⟨a1, a2⟩ := pFDiv_sp (x := pSum F px py lo n) hp
    rw [eW, eS] at a1 a2
    exact cost_le (by omega) a1 a2 hq (by omega)
theorem pCs_i (h : FB F n) (h8 : n ≤ 8) (hx : Bd px 12) (hy : Bd py 12) {t : Int32} (ht : Bd t 258913) : ∀ m, m ≤ n → (pCs (pOv F px py) (F 3) t lo m).toInt = qC F px py lo t.toInt m ∧ qC F px py lo t.toInt m ≤ m * 285164544064
  | 0, _ => by
    rw [pCs, qC]
    decide
  | m + 1, hm => by
    obtain ⟨ih, ib⟩ := pCs_i h h8 hx hy ht m (by omega)
    have i0 := qC_nn (px := px) (py := py) (lo := lo) h t.toInt m (by omega)
    have hw := h.w (show m < n by omega)
    have ho := h.ov (show m < n by omega) hx hy
    have hd : Bd (pOv F px py m - t) 267004 := Bd.sub ho ht (by decide)
    have ed : (pOv F px py m - t).toInt = (pOv F px py m).toInt - t.toInt := by
      unfold Bd at ho ht
      exact i_sub (by omega) (by omega)
    rw [pCs, qC]
    split
    · exact ⟨ih, by omega⟩
    · have e1 : ((F 3 m).toInt64 * (pOv F px py m - t).toInt64).toInt = (F 3 m).toInt * (pOv F px py m - t).toInt := by
        have hp : ((F 3 m).toInt * (pOv F px py m - t).toInt).natAbs ≤ 4 * 267004 := by
          rw [Int.natAbs_mul]
          exact Nat.mul_le_mul (by omega) hd
        rw [l_mul (by rw [Int32.toInt_toInt64, Int32.toInt_toInt64]; omega) (by rw [Int32.toInt_toInt64, Int32.toInt_toInt64]; omega), Int32.toInt_toInt64, Int32.toInt_toInt64]
      have hp2 : ((F 3 m).toInt * (pOv F px py m - t).toInt * (pOv F px py m - t).toInt).natAbs ≤ 4 * 267004 * 267004 := by
        rw [Int.natAbs_mul, Int.natAbs_mul]
        exact Nat.mul_le_mul (Nat.mul_le_mul (by omega) hd) hd
      have e2 : ((F 3 m).toInt64 * (pOv F px py m - t).toInt64 * (pOv F px py m - t).toInt64).toInt = (F 3 m).toInt * (pOv F px py m - t).toInt * (pOv F px py m - t).toInt := by
        rw [l_mul (by rw [e1, Int32.toInt_toInt64]; omega) (by rw [e1, Int32.toInt_toInt64]; omega), e1, Int32.toInt_toInt64]
      rw [ed] at e2 hp2
      have hm8 : m ≤ 8 := by omega
      rw [l_add (by rw [ih, e2]; omega) (by rw [ih, e2]; omega), ih, e2]
      exact ⟨rfl, by omega⟩
theorem pCs_fit (h : FB F n) (h8 : n ≤ 8) (hx : Bd px 12) (hy : Bd py 12) : 0 ≤ (pCs (pOv F px py) (F 3) (pTm F px py lo n) lo n).toInt ∧ (pCs (pOv F px py) (F 3) (pTm F px py lo n) lo n).toInt ≤ 2094857024 := by
  obtain ⟨ht, hc⟩ := pTm_sp (lo := lo) h h8 hx hy
  obtain ⟨e, -⟩ := pCs_i (lo := lo) h h8 hx hy ht n (Nat.le_refl _)
  rw [e]
  exact ⟨qC_nn h _ n (Nat.le_refl _), hc⟩
/-- a best place that was found -/
def KB (b : Bst) : Prop := (Bd b.1 12 ∧ IR b.2.1 0 12) ∧ 0 ≤ b.2.2.2.toInt ∧ b.2.2.2.toInt ≤ 2094857024
def KM (b : Bst) : Prop := KB b ∨ b.2.2.2 = -1
theorem pTry_KB (h : FB F n) (h8 : n ≤ 8) (hx : Bd px 12) (hy : IR py 0 12) {b : Bst} (hb : KM b) : KB (pTry F n lo px py b) := by
  have hy2 : Bd py 12 := hy.bd (by omega) (by omega)
  unfold pTry
  by_cases c0 : isM1 b.2.2.2 = true
  · rw [if_pos c0]
    exact ⟨⟨hx, hy⟩, pCs_fit h h8 hx hy2⟩
  · rw [if_neg c0]
    by_cases c : 0 ≤ lg_cmp (pCs (pOv F px py) (F 3) (pTm F px py lo n) lo n) b.2.2.2
    · rw [if_pos c]
      rcases hb with hb | hb
      · exact hb
      · exact absurd ((isM1_iff _).mpr hb) c0
    · rw [if_neg c]
      exact ⟨⟨hx, hy⟩, pCs_fit h h8 hx hy2⟩
theorem x12_Bd : ∀ k, k < 25 → Bd (nI k + (-12)) 12 := by
  have h : ∀ k, k < 25 → (nI k + (-12)).toInt.natAbs ≤ 12 := by decide +kernel
  exact h
theorem pRowS_KB (h : FB F n) (h8 : n ≤ 8) (hy : IR py 0 12) {b : Bst} (hb : KM b) : ∀ k, k ≤ 25 → KM (pRowS F n lo py k b) ∧ (0 < k → KB (pRowS F n lo py k b))
  | 0, _ => by
    rw [pRowS_0]
    exact ⟨hb, fun q => absurd q (by omega)⟩
  | k + 1, hk => by
    have ih := pRowS_KB h h8 hy hb k (by omega)
    rw [pRowS_s]
    have z := pTry_KB (lo := lo) h h8 (x12_Bd k (by omega)) hy ih.1
    exact ⟨Or.inl z, fun _ => z⟩
theorem pSrch_KB (h : FB F n) (h8 : n ≤ 8) {b : Bst} (hb : KM b) : ∀ j, j ≤ 13 → KM (pSrch F n lo j b) ∧ (0 < j → KB (pSrch F n lo j b))
  | 0, _ => by
    rw [pSrch_0]
    exact ⟨hb, fun q => absurd q (by omega)⟩
  | j + 1, hj => by
    have ih := pSrch_KB h h8 hb j (by omega)
    rw [pSrch_s]
    have z := (pRowS_KB (lo := lo) h h8 (IR.of_nI (k := j) (a := 0) (b := 12) (by omega) (by omega) (by omega)) ih.1 25 (Nat.le_refl _)).2 (by decide)
    exact ⟨Or.inl z, fun _ => z⟩
theorem pFind_KB (h : FB F n) (h8 : n ≤ 8) (b : Bst) : KB (pFind F n lo b) := (pSrch_KB h h8 (b := (b.1, b.2.1, b.2.2.1, -1)) (Or.inr rfl) 13 (Nat.le_refl _)).2 (by decide)
theorem pFar_IR (h : FB F n) (h8 : n ≤ 8) {x y : Int32} (hx : Bd x 12) (hy : IR y 0 12) (b : Bst) : ∀ i, IR (pFar F n x y b i).1 0 24
  | 0 => by
    rw [pFar_0]
    exact (show IR (0 : Int32) 0 24 from IR.lit (by decide))
  | i + 1 => by
    have ih := pFar_IR h h8 hx hy b i
    rw [pFar_s]
    obtain ⟨⟨k1, k2⟩, -⟩ := pFind_KB (lo := nI i) h h8 (pFar F n x y b i).2
    exact pMax_IR ih (pRange_IR hx (hy.bd (by omega) (by omega)) k1 (k2.bd (by omega) (by omega)) (by decide) (by decide))
-- what was found before, and what lies behind the rows, doesn't matter
def FE (F F' : Nat → Nat → Int32) (n : Nat) : Prop := ∀ k, k < n → ∀ r, r < 4 → F r k = F' r k
theorem FE.ov (h : FE F F' n) {k : Nat} (hk : k < n) : pOv F px py k = pOv F' px py k := by
  unfold pOv
  rw [h k hk 0 (by decide), h k hk 1 (by decide), h k hk 2 (by decide)]
theorem FE.wt (h : FE F F' n) : ∀ m, m ≤ n → pWt F lo m = pWt F' lo m
  | 0, _ => by rw [pWt, pWt]
  | m + 1, hm => by rw [pWt, pWt, FE.wt h m (by omega), h m (by omega) 3 (by decide)]
theorem FE.sm (h : FE F F' n) : ∀ m, m ≤ n → pSum F px py lo m = pSum F' px py lo m
  | 0, _ => by rw [pSum, pSum]
  | m + 1, hm => by rw [pSum, pSum, FE.sm h m (by omega), h m (by omega) 3 (by decide), h.ov (show m < n by omega)]
theorem FE.tm (h : FE F F' n) : pTm F px py lo n = pTm F' px py lo n := by
  unfold pTm
  rw [h.wt n (Nat.le_refl _), h.sm n (Nat.le_refl _)]
theorem FE.cs (h : FE F F' n) {t : Int32} : ∀ m, m ≤ n → pCs (pOv F px py) (F 3) t lo m = pCs (pOv F' px py) (F' 3) t lo m
  | 0, _ => by rw [pCs, pCs]
  | m + 1, hm => by rw [pCs, pCs, FE.cs h m (by omega), h m (by omega) 3 (by decide), h.ov (show m < n by omega)]
theorem FE.tr_1 (h : FE F F' n) (b : Bst) : pTry F n lo px py b = pTry F' n lo px py b := by
  unfold pTry
  rw [h.tm, h.cs n (Nat.le_refl _)]
theorem FE.row (h : FE F F' n) (b : Bst) : ∀ k, pRowS F n lo py k b = pRowS F' n lo py k b
  | 0 => by rw [pRowS_0, pRowS_0]
  | k + 1 => by rw [pRowS_s, pRowS_s, FE.row h b k, h.tr_1]
theorem FE.srch (h : FE F F' n) (b : Bst) : ∀ j, pSrch F n lo j b = pSrch F' n lo j b
  | 0 => by rw [pSrch_0, pSrch_0]
  | j + 1 => by rw [pSrch_s, pSrch_s, FE.srch h b j, h.row]
theorem FE.find (h : FE F F' n) (b : Bst) : pFind F n lo b = pFind F' n lo b := h.srch _ 13
theorem pRowS_b {b b' : Bst} (hb : b.2.2.2 = -1) (hb' : b'.2.2.2 = -1) : ∀ k, pRowS F n lo py (k + 1) b = pRowS F n lo py (k + 1) b'
  | 0 => by
    rw [pRowS_s, pRowS_s, pRowS_0, pRowS_0]
    unfold pTry
    rw [if_pos ((isM1_iff _).mpr hb), if_pos ((isM1_iff _).mpr hb')]
  | k + 1 => by rw [pRowS_s, pRowS_b hb hb' k, ← pRowS_s]
theorem pSrch_b {b b' : Bst} (hb : b.2.2.2 = -1) (hb' : b'.2.2.2 = -1) : ∀ j, pSrch F n lo (j + 1) b = pSrch F n lo (j + 1) b'
  | 0 => by
    rw [pSrch_s, pSrch_s, pSrch_0, pSrch_0]
    exact pRowS_b hb hb' 24
  | j + 1 => by rw [pSrch_s, pSrch_b hb hb' j, ← pSrch_s]
theorem pFind_b (b b' : Bst) : pFind F n lo b = pFind F n lo b' := pSrch_b rfl rfl 12
theorem pFar_b (h : FB F n) (h8 : n ≤ 8) (he : FE F F' n) {x y : Int32} (b b' : Bst) : ∀ i, (pFar F n x y b i).1 = (pFar F' n x y b' i).1
  | 0 => by rw [pFar_0, pFar_0]
  | i + 1 => by
    rw [pFar_s, pFar_s]
    have ih := pFar_b h h8 he (x := x) (y := y) b b' i
    have e : pFind F n (nI i) (pFar F n x y b i).2 = pFind F' n (nI i) (pFar F' n x y b' i).2 := (pFind_b _ _).trans (he.find _)
    show pMax (pFar F n x y b i).1 _ = pMax (pFar F' n x y b' i).1 _
    rw [ih, e]
end SV1
