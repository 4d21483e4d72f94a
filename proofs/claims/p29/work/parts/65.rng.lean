-- ranges of numbers; longs; the phases
theorem l_add {x y : Int64} (h1 : -9223372036854775808 ≤ x.toInt + y.toInt) (h2 : x.toInt + y.toInt < 9223372036854775808) : (x + y).toInt = x.toInt + y.toInt := by
  rw [Int64.toInt_add]
  exact Int.bmod_eq_of_le_mul_two (by omega) (by omega)
theorem l_mul {x y : Int64} (h1 : -9223372036854775808 ≤ x.toInt * y.toInt) (h2 : x.toInt * y.toInt < 9223372036854775808) : (x * y).toInt = x.toInt * y.toInt := by
  rw [Int64.toInt_mul]
  exact Int.bmod_eq_of_le_mul_two (by omega) (by omega)
theorem upd_at {f : Nat → Int32} {j : Nat} {v : Int32} : upd f j v j = v := by unfold upd; rw [if_pos rfl]
theorem upd_o {f : Nat → Int32} {a b : Nat} {x : Int32} (h : b ≠ a) : upd f a x b = f b := by unfold upd; rw [if_neg h]
theorem Bd0 (K : Nat) : Bd 0 K := by
  unfold Bd
  rw [show (0 : Int32).toInt.natAbs = 0 by decide]
  exact Nat.zero_le _
theorem nBd {x lo hi : Int32} {K : Nat} (h : bI (pOut x lo hi) = 0) (h1 : -(K : Int) ≤ lo.toInt) (h2 : hi.toInt ≤ K) : Bd x K := by
  have q := pOut_bd h
  unfold Bd
  omega
theorem bI_01 (b : Bool) : bI b = 0 ∨ bI b = 1 := by cases b <;> decide
theorem tI_0 : (0 : Int32).toInt = 0 := by decide
theorem tI_1 : (1 : Int32).toInt = 1 := by decide
theorem tI_m1 : (-1 : Int32).toInt = -1 := by decide
/-- between two numbers -/
def IR (x : Int32) (a b : Int) : Prop := a ≤ x.toInt ∧ x.toInt ≤ b
theorem IR.mono {x : Int32} {a b a' b' : Int} (h : IR x a b) (h1 : a' ≤ a) (h2 : b ≤ b') : IR x a' b' := ⟨Int.le_trans h1 h.1, Int.le_trans h.2 h2⟩
theorem IR.of_bd {x : Int32} {K : Nat} (h : Bd x K) : IR x (-(K : Int)) K := by
  unfold Bd at h
  exact ⟨by omega, by omega⟩
theorem IR.bd {x : Int32} {K : Nat} {a b : Int} (h : IR x a b) (h1 : -(K : Int) ≤ a) (h2 : b ≤ K) : Bd x K := by
  obtain ⟨p, q⟩ := h
  unfold Bd
  omega
theorem IR.of_out {x lo hi : Int32} {a b : Int} (h : bI (pOut x lo hi) = 0) (h1 : a ≤ lo.toInt) (h2 : hi.toInt ≤ b) : IR x a b := by
  obtain ⟨p, q⟩ := pOut_bd h
  exact ⟨Int.le_trans h1 p, Int.le_trans q h2⟩
theorem IR.out {x lo hi : Int32} {a b : Int} (h : IR x a b) (h1 : lo.toInt ≤ a) (h2 : b ≤ hi.toInt) : bI (pOut x lo hi) = 0 := by
  obtain ⟨p, q⟩ := h
  unfold pOut
  rw [if_neg (by rw [Int32.lt_iff_toInt_lt]; omega), if_pos (by rw [Int32.le_iff_toInt_le]; omega)]
  rfl
theorem IR.nat {x : Int32} {b : Nat} (h : IR x 0 b) : ∃ k : Nat, k ≤ b ∧ x = nI k := by
  obtain ⟨p, q⟩ := h
  obtain ⟨j, hj, rfl⟩ := nI_of (x := x) (by rw [Int32.lt_iff_toInt_lt, tI_0]; omega)
  rw [nI_toInt hj] at q
  exact ⟨j, by omega, rfl⟩
theorem IR.of_nI {k : Nat} {a b : Int} (hk : k < 2 ^ 31) (h1 : a ≤ k) (h2 : (k : Int) ≤ b) : IR (nI k) a b := by
  unfold IR
  rw [nI_toInt hk]
  exact ⟨h1, h2⟩
theorem IR.lit {x : Int32} {a b : Int} (h : decide (a ≤ x.toInt ∧ x.toInt ≤ b) = true) : IR x a b := (show a ≤ x.toInt ∧ x.toInt ≤ b from of_decide_eq_true h)
theorem IR.add {x y : Int32} {a b c d a' b' : Int} (h : IR x a b) (k : IR y c d) (h1 : -2147483648 ≤ a + c) (h2 : b + d < 2147483648) (h3 : a' ≤ a + c) (h4 : b + d ≤ b') : IR (x + y) a' b' := by
  obtain ⟨p, q⟩ := h
  obtain ⟨r, s⟩ := k
  unfold IR
  rw [i_add (by omega) (by omega)]
  exact ⟨by omega, by omega⟩
theorem IR.sub {x y : Int32} {a b c d a' b' : Int} (h : IR x a b) (k : IR y c d) (h1 : -2147483648 ≤ a - d) (h2 : b - c < 2147483648) (h3 : a' ≤ a - d) (h4 : b - c ≤ b') : IR (x - y) a' b' := by
  obtain ⟨p, q⟩ := h
  obtain ⟨r, s⟩ := k
  unfold IR
  rw [i_sub (by omega) (by omega)]
  exact ⟨by omega, by omega⟩
theorem IR.le {x : Int32} {a b : Int} {c : Int32} (h : IR x a b) (h1 : b ≤ c.toInt) : x ≤ c := by
  rw [Int32.le_iff_toInt_le]
  exact Int.le_trans h.2 h1
theorem IR.ge {x : Int32} {a b : Int} {c : Int32} (h : IR x a b) (h1 : c.toInt ≤ a) : c ≤ x := by
  rw [Int32.le_iff_toInt_le]
  exact Int.le_trans h1 h.1
theorem IR.nlt {x : Int32} {a b : Int} {c : Int32} (h : IR x a b) (h1 : c.toInt ≤ a) : ¬ x < c := by
  rw [Int32.lt_iff_toInt_lt]
  exact Int.not_lt.mpr (Int.le_trans h1 h.1)
theorem IR.ngt {x : Int32} {a b : Int} {c : Int32} (h : IR x a b) (h1 : b ≤ c.toInt) : ¬ c < x := by
  rw [Int32.lt_iff_toInt_lt]
  exact Int.not_lt.mpr (Int.le_trans h.2 h1)
theorem pAbs_toInt {x : Int32} {K : Nat} (h : Bd x K) (hK : K < 2147483648) : (pAbs x).toInt = x.toInt.natAbs := by
  unfold Bd at h
  unfold pAbs
  by_cases c : 0 ≤ x
  · rw [if_pos c]
    rw [Int32.le_iff_toInt_le, tI_0] at c
    omega
  · rw [if_neg c]
    rw [Int32.le_iff_toInt_le, tI_0] at c
    rw [i_sub (by rw [tI_0]; omega) (by rw [tI_0]; omega), tI_0]
    omega
theorem pAbs_IR {x : Int32} {K : Nat} (h : Bd x K) (hK : K < 2147483648) : IR (pAbs x) 0 K := by
  have e := pAbs_toInt h hK
  unfold Bd at h
  unfold IR
  omega
theorem pMax_IR {x y : Int32} {a b : Int} (h : IR x a b) (k : IR y a b) : IR (pMax x y) a b := by
  unfold pMax
  split
  · exact k
  · exact h
theorem pRange_IR {x y u v : Int32} {A B K : Nat} (h1 : Bd x A) (h2 : Bd y A) (h3 : Bd u B) (h4 : Bd v B) (hk : A + B ≤ K) (hK : K < 2147483648) : IR (pRange x y u v) 0 K := by
  unfold pRange
  exact pMax_IR ((pAbs_IR (Bd.sub h1 h3 (by omega)) (by omega)).mono (Int.le_refl _) (by omega)) ((pAbs_IR (Bd.sub h2 h4 (by omega)) (by omega)).mono (Int.le_refl _) (by omega))
theorem tmod_lt {x : Int} {c : Int} (hc : 0 < c) : (x.tmod c).natAbs < c.natAbs := by
  rw [Int.natAbs_tmod]
  exact Nat.mod_lt _ (by omega)
theorem pRem_IR {x c : Int32} (hc : 0 < c.toInt) (hx : 0 ≤ x) : IR (pRem x c) 0 (c.toInt - 1) := by
  have h1 := pRem_nn hc hx
  have h2 := tmod_lt (x := x.toInt) hc
  rw [Int32.le_iff_toInt_le, tI_0] at h1
  unfold IR
  rw [pRem_toInt hc] at h1 ⊢
  omega
theorem pFMod_IR {x c : Int32} (hc : 0 < c.toInt) : IR (pFMod x c) 0 (c.toInt - 1) := by
  have hc0 : 0 ≤ c := by rw [Int32.le_iff_toInt_le, tI_0]; omega
  unfold pFMod
  by_cases h : 0 ≤ x
  · rw [if_pos ((sgn_xor hc0).mpr h)]
    exact pRem_IR hc h
  · rw [if_neg (fun q => h ((sgn_xor hc0).mp q))]
    have h1 := pRem_np hc h
    have h2 := tmod_lt (x := x.toInt) hc
    have h3 := pRem_toInt (x := x) hc
    by_cases c2 : pRem x c = 0
    · rw [if_pos c2, c2]
      unfold IR
      rw [tI_0]
      omega
    · rw [if_neg c2]
      have h4 : (pRem x c).toInt ≠ 0 := fun q => c2 (Int32.toInt_inj.mp (q.trans tI_0.symm))
      have h5 := c.toInt_lt
      unfold IR
      rw [i_add (by omega) (by omega)]
      omega
theorem tI_48 : (48 : Int32).toInt = 48 := by decide
theorem ph_T : ∀ k, k < 48 → (pT (nI k)).toInt.natAbs + (pT (pFMod (nI k + 12) 48)).toInt.natAbs = 12 := by decide +kernel
theorem ph_R (ph : Int32) : ∃ k : Nat, k ≤ 47 ∧ pFMod ph 48 = nI k := (pFMod_IR (x := ph) (c := 48) (by decide)).nat
theorem ph_B : ∀ k, k < 48 → (pT (nI k)).toInt.natAbs ≤ 12 := by decide +kernel
theorem pSwing_Bd (ph : Int32) : Bd (pSwing ph) 12 := by
  obtain ⟨k, hk, e⟩ := ph_R ph
  rw [pSwing_eq, e]
  exact ph_B k (by omega)
/-- a phase that stands, and the other way -/
theorem pSwing_two {k : Nat} (hk : k < 48) : (pSwing (nI k)).toInt.natAbs + (pSwing (nI k + 12)).toInt.natAbs = 12 := by
  have e : pFMod (nI k) 48 = nI k := (show ∀ j, j < 48 → pFMod (nI j) 48 = nI j by decide +kernel) k hk
  rw [pSwing_eq, pSwing_eq, e]
  exact ph_T k hk
theorem rad_div {r t : Int32} (hr : IR r 0 200) (ht : Bd t 12) : (r * t / 12).toInt.natAbs = r.toInt.natAbs * t.toInt.natAbs / 12 := by
  have hb : Bd r 200 := hr.bd (by omega) (by omega)
  have hm : Bd (r * t) (200 * 12) := Bd.mul hb ht (by decide)
  have e12 : (12 : Int32).toInt = 12 := by decide
  have e : (r * t).toInt = r.toInt * t.toInt := by
    have h : (r.toInt * t.toInt).natAbs ≤ 200 * 12 := by
      rw [Int.natAbs_mul]
      exact Nat.mul_le_mul hb ht
    exact i_mul (by omega) (by omega)
  rw [i_div (by decide), e, e12, Int.natAbs_tdiv, Int.natAbs_mul]
  rfl
theorem rad_Bd {r t : Int32} (hr : IR r 0 200) (ht : Bd t 12) : Bd (r * t / 12) 200 := by
  unfold Bd
  have hb : r.toInt.natAbs ≤ 200 := hr.bd (by omega) (by omega)
  have h : r.toInt.natAbs * t.toInt.natAbs ≤ 200 * 12 := Nat.mul_le_mul hb ht
  rw [rad_div hr ht]
  omega
