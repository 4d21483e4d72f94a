-- numbers that stay small, and the two ways to a phase
theorem i_add {x y : Int32} (h1 : -2147483648 ≤ x.toInt + y.toInt) (h2 : x.toInt + y.toInt < 2147483648) : (x + y).toInt = x.toInt + y.toInt := by
  rw [Int32.toInt_add]
  exact Int.bmod_eq_of_le_mul_two (by omega) (by omega)
theorem i_sub {x y : Int32} (h1 : -2147483648 ≤ x.toInt - y.toInt) (h2 : x.toInt - y.toInt < 2147483648) : (x - y).toInt = x.toInt - y.toInt := by
  rw [Int32.toInt_sub]
  exact Int.bmod_eq_of_le_mul_two (by omega) (by omega)
theorem i_mul {x y : Int32} (h1 : -2147483648 ≤ x.toInt * y.toInt) (h2 : x.toInt * y.toInt < 2147483648) : (x * y).toInt = x.toInt * y.toInt := by
  rw [Int32.toInt_mul]
  exact Int.bmod_eq_of_le_mul_two (by omega) (by omega)
theorem i_div {x y : Int32} (h : y ≠ -1) : (x / y).toInt = x.toInt.tdiv y.toInt := Int32.toInt_div_of_ne_right x y h
def Bd (x : Int32) (K : Nat) : Prop := x.toInt.natAbs ≤ K
theorem Bd.mono {x : Int32} {K K' : Nat} (h : Bd x K) (hk : K ≤ K') : Bd x K' := Nat.le_trans h hk
theorem Bd.add {x y : Int32} {K K' : Nat} (h : Bd x K) (h' : Bd y K') (hk : K + K' < 2147483648) : Bd (x + y) (K + K') := by
  unfold Bd at *
  rw [i_add (by omega) (by omega)]
  omega
theorem Bd.sub {x y : Int32} {K K' : Nat} (h : Bd x K) (h' : Bd y K') (hk : K + K' < 2147483648) : Bd (x - y) (K + K') := by
  unfold Bd at *
  rw [i_sub (by omega) (by omega)]
  omega
theorem Bd.mul {x y : Int32} {K K' : Nat} (h : Bd x K) (h' : Bd y K') (hk : K * K' < 2147483648) : Bd (x * y) (K * K') := by
  have e : (x.toInt * y.toInt).natAbs ≤ K * K' := by
    rw [Int.natAbs_mul]
    exact Nat.mul_le_mul h h'
  unfold Bd
  rw [i_mul (by omega) (by omega)]
  exact e
theorem Bd.div {x y : Int32} {K : Nat} (h : Bd x K) (hy : y ≠ -1) : Bd (x / y) K := by
  unfold Bd at *
  rw [i_div hy, Int.natAbs_tdiv]
  exact Nat.le_trans (Nat.div_le_self _ _) h
theorem Bd.neg {x : Int32} {K : Nat} (h : Bd x K) (hk : K < 2147483648) : Bd (-x) K := by
  have e : -x = 0 - x := by rw [Int32.sub_eq_add_neg, Int32.zero_add]
  rw [e]
  have h0 : Bd 0 0 := by unfold Bd; decide
  have := Bd.sub h0 h (by omega)
  rw [Nat.zero_add] at this
  exact this
theorem Bd.lit {x : Int32} {K : Nat} (h : x.toInt.natAbs ≤ K) : Bd x K := h
theorem Bd.abs {x : Int32} {K : Nat} (h : Bd x K) (hk : K < 2147483648) : Bd (pAbs x) K := by
  unfold pAbs
  split
  · exact h
  · have h0 : Bd 0 0 := by unfold Bd; decide
    have := Bd.sub h0 h (by omega)
    rw [Nat.zero_add] at this
    exact this
theorem Bd.max {x y : Int32} {K : Nat} (h : Bd x K) (h' : Bd y K) : Bd (pMax x y) K := by
  unfold pMax
  split
  · exact h'
  · exact h
theorem Bd.min {x y : Int32} {K : Nat} (h : Bd x K) (h' : Bd y K) : Bd (pMin x y) K := by
  unfold pMin
  split
  · exact h'
  · exact h
theorem Bd.range {x y u v : Int32} {A B : Nat} (h1 : Bd x A) (h2 : Bd y A) (h3 : Bd u B) (h4 : Bd v B) (hk : A + B < 2147483648) : Bd (pRange x y u v) (A + B) := by
  unfold pRange
  exact Bd.max (Bd.abs (Bd.sub h1 h3 hk) hk) (Bd.abs (Bd.sub h2 h4 hk) hk)
theorem Bd.held (x : Int32) {lim : Int32} {K : Nat} (h0 : 0 ≤ lim.toInt) (hK : lim.toInt ≤ K) (hk : K < 2147483648) : Bd (pHeld x lim) K := by
  have hl : Bd lim K := by unfold Bd; omega
  have hn : Bd (-lim) K := Bd.neg hl hk
  have en : (-lim).toInt = -lim.toInt := by
    have e : -lim = 0 - lim := by rw [Int32.sub_eq_add_neg, Int32.zero_add]
    have z : (0 : Int32).toInt = 0 := by decide
    rw [e, i_sub (by omega) (by omega), z]
    omega
  unfold pHeld pMax pMin
  by_cases c : x < lim
  · rw [if_pos c]
    split
    · rename_i c2
      rw [Int32.lt_iff_toInt_lt] at c c2
      unfold Bd
      omega
    · exact hn
  · rw [if_neg c]
    split
    · exact hl
    · exact hn
theorem pOut_bd {v lo hi : Int32} (h : bI (pOut v lo hi) = 0) : lo.toInt ≤ v.toInt ∧ v.toInt ≤ hi.toInt := by
  have h1 := bI_f h
  unfold pOut at h1
  by_cases c1 : v < lo
  · rw [if_pos c1] at h1; cases h1
  · rw [if_neg c1] at h1
    by_cases c2 : v ≤ hi
    · rw [Int32.lt_iff_toInt_lt] at c1
      rw [Int32.le_iff_toInt_le] at c2
      exact ⟨by omega, c2⟩
    · rw [if_neg c2] at h1; cases h1
theorem nn_msb (y : Int32) : 0 ≤ y ↔ y.toBitVec.msb = false := by
  rw [Int32.le_iff_toInt_le, BitVec.msb_eq_toInt]
  have z : (0 : Int32).toInt = 0 := by decide
  rw [z, decide_eq_false_iff_not]
  exact Int.not_lt.symm
theorem sgn_xor {x c : Int32} (hc : 0 ≤ c) : 0 ≤ x ^^^ c ↔ 0 ≤ x := by
  rw [nn_msb, nn_msb]
  have h := (nn_msb c).mp hc
  rw [Int32.toBitVec_xor, BitVec.msb_xor, h, Bool.xor_false]
theorem pRem_toInt {x c : Int32} (hc : 0 < c.toInt) : (pRem x c).toInt = x.toInt.tmod c.toInt := by
  have hn : c ≠ -1 := fun e => by
    rw [e] at hc
    exact absurd hc (by decide)
  have h1 : (x / c).toInt = x.toInt.tdiv c.toInt := i_div hn
  have h2 := Int.mul_tdiv_add_tmod x.toInt c.toInt
  have hx := x.toInt_lt
  have hx2 := x.le_toInt
  have h3 : (x.toInt.tdiv c.toInt * c.toInt).natAbs ≤ x.toInt.natAbs := by
    rw [Int.natAbs_mul, Int.natAbs_tdiv]
    exact Nat.div_mul_le_self _ _
  rw [Int.mul_comm] at h2
  have h6 : (x.toInt.tmod c.toInt).natAbs ≤ x.toInt.natAbs := by
    rw [Int.natAbs_tmod]
    exact Nat.mod_le _ _
  have h4 : (x / c * c).toInt = x.toInt.tdiv c.toInt * c.toInt := by
    rw [i_mul (by rw [h1]; omega) (by rw [h1]; omega), h1]
  have h5 : x.toInt - x.toInt.tdiv c.toInt * c.toInt = x.toInt.tmod c.toInt := by omega
  unfold pRem
  rw [i_sub (by rw [h4]; omega) (by rw [h4]; omega), h4, h5]
theorem pRem_nn {x c : Int32} (hc : 0 < c.toInt) (hx : 0 ≤ x) : 0 ≤ pRem x c := by
  rw [Int32.le_iff_toInt_le] at hx ⊢
  rw [pRem_toInt hc]
  exact Int.tmod_nonneg _ hx
theorem pRem_np {x c : Int32} (hc : 0 < c.toInt) (hx : ¬ 0 ≤ x) : (pRem x c).toInt ≤ 0 := by
  rw [Int32.le_iff_toInt_le] at hx
  have z : (0 : Int32).toInt = 0 := by decide
  rw [pRem_toInt hc]
  have h := Int.tmod_nonneg (a := -x.toInt) c.toInt (by omega)
  rw [Int.neg_tmod] at h
  omega
theorem pSwing_eq (ph : Int32) : pSwing ph = pT (pFMod ph 48) := by
  have hc : (0 : Int) < (48 : Int32).toInt := by decide
  have z : (0 : Int32).toInt = 0 := by decide
  unfold pSwing pFMod
  congr 1
  by_cases h : 0 ≤ ph
  · rw [if_pos (pRem_nn hc h), if_pos ((sgn_xor (by decide)).mpr h)]
  · rw [if_neg (fun q => h ((sgn_xor (c := 48) (by decide)).mp q))]
    have hn := pRem_np hc h
    by_cases h2 : pRem ph 48 = 0
    · rw [if_pos h2, if_pos (by rw [h2]; decide)]
    · rw [if_neg h2, if_neg (fun q => h2 (by
        rw [Int32.le_iff_toInt_le] at q
        apply Int32.toInt_inj.mp
        omega))]
theorem Bd.rem {x c : Int32} {K : Nat} (hc : 0 < c.toInt) (hK : c.toInt ≤ K) : Bd (pRem x c) K := by
  unfold Bd
  rw [pRem_toInt hc, Int.natAbs_tmod]
  have : 0 < c.toInt.natAbs := by omega
  have := Nat.mod_lt x.toInt.natAbs this
  omega
theorem Bd.fmod {x c : Int32} {K : Nat} (hc : 0 < c.toInt) (hK : c.toInt ≤ K) (hk : K + K < 2147483648) : Bd (pFMod x c) (K + K) := by
  have hr : Bd (pRem x c) K := Bd.rem hc hK
  have hcc : Bd c K := by unfold Bd; omega
  unfold pFMod
  split
  · exact hr.mono (by omega)
  · split
    · exact hr.mono (by omega)
    · exact Bd.add hr hcc hk
theorem Bd.fdiv {x c : Int32} {K : Nat} (hx : Bd x K) (hc : c ≠ -1) (hk : K + 1 < 2147483648) : Bd (pFDiv x c) (K + 1) := by
  have hd : Bd (x / c) K := Bd.div hx hc
  have h1 : Bd 1 1 := by unfold Bd; decide
  unfold pFDiv
  split
  · exact hd.mono (by omega)
  · split
    · exact hd.mono (by omega)
    · exact Bd.sub hd h1 hk
theorem Bd.tt {u : Int32} {K : Nat} (h : Bd u K) (hk : K + 48 < 2147483648) : Bd (pT u) (K + 48) := by
  have h48 : Bd 48 48 := by unfold Bd; decide
  have h24 : Bd 24 24 := by unfold Bd; decide
  unfold pT
  split
  · split
    · exact Bd.sub h h48 hk
    · exact (Bd.sub h24 h (by omega)).mono (by omega)
  · exact h.mono (by omega)
