-- the costs are no more than the machine can hold
theorem l_add {x y : Int64} (h1 : -9223372036854775808 ≤ x.toInt + y.toInt) (h2 : x.toInt + y.toInt < 9223372036854775808) : (x + y).toInt = x.toInt + y.toInt := by
  rw [Int64.toInt_add]
  exact Int.bmod_eq_of_le_mul_two (by omega) (by omega)
theorem l_mul {x y : Int64} (h1 : -9223372036854775808 ≤ x.toInt * y.toInt) (h2 : x.toInt * y.toInt < 9223372036854775808) : (x * y).toInt = x.toInt * y.toInt := by
  rw [Int64.toInt_mul]
  exact Int.bmod_eq_of_le_mul_two (by omega) (by omega)
def Bl (x : Int64) (K : Nat) : Prop := x.toInt.natAbs ≤ K
theorem Bl.mono {x : Int64} {K K' : Nat} (h : Bl x K) (hk : K ≤ K') : Bl x K' := Nat.le_trans h hk
theorem Bl.add {x y : Int64} {K K' : Nat} (h : Bl x K) (h' : Bl y K') (hk : K + K' < 9223372036854775808) : Bl (x + y) (K + K') := by
  unfold Bl at *
  rw [l_add (by omega) (by omega)]
  omega
theorem Bl.mul {x y : Int64} {K K' : Nat} (h : Bl x K) (h' : Bl y K') (hk : K * K' < 9223372036854775808) : Bl (x * y) (K * K') := by
  have e : (x.toInt * y.toInt).natAbs ≤ K * K' := by
    rw [Int.natAbs_mul]
    exact Nat.mul_le_mul h h'
  unfold Bl
  rw [l_mul (by omega) (by omega)]
  exact e
theorem l_mulB {x y : Int64} {K K' : Nat} (h : Bl x K) (h' : Bl y K') (hk : K * K' < 9223372036854775808) : (x * y).toInt = x.toInt * y.toInt := by
  have e : (x.toInt * y.toInt).natAbs ≤ K * K' := by
    rw [Int.natAbs_mul]
    exact Nat.mul_le_mul h h'
  exact l_mul (by omega) (by omega)
theorem l_addB {x y : Int64} {K K' : Nat} (h : Bl x K) (h' : Bl y K') (hk : K + K' < 9223372036854775808) : (x + y).toInt = x.toInt + y.toInt := by
  unfold Bl at h h'
  exact l_add (by omega) (by omega)
theorem Bl.of {x : Int32} {K : Nat} (h : Bd x K) : Bl x.toInt64 K := by
  unfold Bl
  rw [Int32.toInt_toInt64]
  exact h
section BN1
variable {L : Nat → Nat → Int32} {n : Nat}
/-- what is laid stays small -/
def BQ (L : Nat → Nat → Int32) (n : Nat) : Prop := ∀ j, j < n → ¬ L 9 j = 0 → Bd (L 6 j) 100000 ∧ Bd (L 7 j) 100000 ∧ Bd (L 8 j) 3400000
theorem WOK.bd (h : WOK L n) {j : Nat} (hj : j < n) : Bd (L 9 j) 4 := by
  rcases h j hj with e | e | e | e <;> rw [e] <;> unfold Bd <;> decide
theorem bOver (hb : BQ L n) {j : Nat} (hj : j < n) (hu : ¬ L 9 j = 0) {x y : Int32} (hx : Bd x 12) (hy : Bd y 12) : Bd (mOver L x y j) 3500012 := by
  obtain ⟨h6, h7, h8⟩ := hb j hj hu
  unfold mOver
  exact Bd.sub h8 (Bd.range hx hy h6 h7 (by decide)) (by decide)
theorem bSw (hb : BQ L n) (hw : WOK L n) (h8 : n ≤ 8) {x y : Int32} (hx : Bd x 12) (hy : Bd y 12) : ∀ m, m ≤ n → Bd (mSw L x y m) (m * 14000048)
  | 0, _ => by
    rw [mSw_0]
    unfold Bd
    decide
  | m + 1, hm => by
    have ih := bSw hb hw h8 hx hy m (by omega)
    rw [mSw_s]
    by_cases c : L 9 m = 0
    · rw [if_pos c]
      exact ih.mono (by omega)
    · rw [if_neg c]
      have hp : Bd (L 9 m * mOver L x y m) (4 * 3500012) := Bd.mul (hw.bd (by omega)) (bOver hb (by omega) c hx hy) (by decide)
      exact (Bd.add ih hp (by omega)).mono (by omega)
theorem bTm (hb : BQ L n) (hw : WOK L n) (h8 : n ≤ 8) {x y : Int32} (hx : Bd x 12) (hy : Bd y 12) : Bd (mTm L n x y) 112000385 := by
  have h1 := (bSw hb hw h8 hx hy n (Nat.le_refl _)).mono (show n * 14000048 ≤ 112000384 by omega)
  obtain ⟨e, a, b⟩ := mAw_nI hw
  unfold mTm
  refine Bd.fdiv h1 (fun q => ?_) (by decide)
  have h2 : ¬ nI (wS L n) < 0 := nI_pos (by omega)
  rw [← e, q] at h2
  exact h2 (by decide)
theorem bCw (hb : BQ L n) (hw : WOK L n) (h8 : n ≤ 8) {x y tm : Int32} (hx : Bd x 12) (hy : Bd y 12) (ht : Bd tm 112000385) : ∀ m, m ≤ n → Bl (mCw L x y tm m) (m * 53361366828630436)
  | 0, _ => by
    rw [mCw_0]
    unfold Bl
    decide
  | m + 1, hm => by
    have ih := bCw hb hw h8 hx hy ht m (by omega)
    rw [mCw_s]
    by_cases c : L 9 m = 0
    · rw [if_pos c]
      exact ih.mono (by omega)
    · rw [if_neg c]
      have ho : Bd (mOver L x y m - tm) (3500012 + 112000385) := Bd.sub (bOver hb (by omega) c hx hy) ht (by decide)
      have h1 : Bl ((L 9 m).toInt64 * (mOver L x y m - tm).toInt64) (4 * 115500397) := Bl.mul (Bl.of (hw.bd (by omega))) (Bl.of ho) (by omega)
      have h2 : Bl ((L 9 m).toInt64 * (mOver L x y m - tm).toInt64 * (mOver L x y m - tm).toInt64) (4 * 115500397 * 115500397) := Bl.mul h1 (Bl.of ho) (by omega)
      exact (Bl.add ih h2 (by omega)).mono (by omega)
theorem bCwN (hb : BQ L n) (hw : WOK L n) (h8 : n ≤ 8) {x y tm : Int32} (hx : Bd x 12) (hy : Bd y 12) (ht : Bd tm 112000385) : ∀ m, m ≤ n → 0 ≤ (mCw L x y tm m).toInt
  | 0, _ => by
    rw [mCw_0]
    decide
  | m + 1, hm => by
    have ih := bCwN hb hw h8 hx hy ht m (by omega)
    have ib := bCw hb hw h8 hx hy ht m (by omega)
    rw [mCw_s]
    by_cases c : L 9 m = 0
    · rw [if_pos c]
      exact ih
    · rw [if_neg c]
      have ho : Bd (mOver L x y m - tm) (3500012 + 112000385) := Bd.sub (bOver hb (by omega) c hx hy) ht (by decide)
      have hwB : Bl (L 9 m).toInt64 4 := Bl.of (hw.bd (by omega))
      have h1 : Bl ((L 9 m).toInt64 * (mOver L x y m - tm).toInt64) (4 * 115500397) := Bl.mul hwB (Bl.of ho) (by omega)
      have h2 : Bl ((L 9 m).toInt64 * (mOver L x y m - tm).toInt64 * (mOver L x y m - tm).toInt64) (4 * 115500397 * 115500397) := Bl.mul h1 (Bl.of ho) (by omega)
      rw [l_addB ib h2 (by omega), l_mulB h1 (Bl.of ho) (by omega), l_mulB hwB (Bl.of ho) (by omega)]
      have h9 : 0 ≤ (L 9 m).toInt64.toInt := by
        rw [Int32.toInt_toInt64]
        rcases hw m (by omega) with e | e | e | e <;> rw [e] <;> decide
      have h3 : 0 ≤ (L 9 m).toInt64.toInt * (mOver L x y m - tm).toInt64.toInt * (mOver L x y m - tm).toInt64.toInt := by
        rw [Int.mul_assoc]
        refine Int.mul_nonneg h9 ?_
        rcases Int.le_total 0 (mOver L x y m - tm).toInt64.toInt with q | q
        · exact Int.mul_nonneg q q
        · exact Int.mul_nonneg_of_nonpos_of_nonpos q q
      omega
theorem bHN (hb : BQ L n) (hw : WOK L n) (h8 : n ≤ 8) : HN L n := by
  intro x y hx hy
  rw [Int64.le_iff_toInt_le]
  exact bCwN hb hw h8 hx hy (bTm hb hw h8 hx hy) n (Nat.le_refl _)
theorem bHQ (hb : BQ L n) (hw : WOK L n) (h8 : n ≤ 8) : HQ L n := by
  have hx : Bd (nI 0 + (-12)) 12 := by unfold Bd; decide
  have hy : Bd (nI 0) 12 := by unfold Bd; decide
  have h := bCw hb hw h8 hx hy (bTm hb hw h8 hx hy) n (Nat.le_refl _)
  unfold HQ
  rw [lg_cmp_lt, Int64.lt_iff_toInt_lt]
  have e : (9223372036854775807 : Int64).toInt = 9223372036854775807 := by decide
  rw [e]
  unfold Bl at h
  omega
theorem BQ.less (hb : BQ L n) (k : Nat) : BQ (Less L k) n := by
  intro j hj hu
  unfold Less at hu ⊢
  rw [mset_s] at hu
  rw [mset_n (by decide), mset_n (by decide), mset_n (by decide)]
  refine hb j hj (fun q => hu ?_)
  by_cases e : j = k
  · rw [e, upd_at]
  · rw [show upd (L 9) k 0 j = L 9 j from if_neg e]
    exact q
end BN1
