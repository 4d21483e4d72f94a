-- a quotient of two small ints, as a double: a number, not below 0, not above 24
theorem ddiv_n64 (a b : Int32) (hb : b ≠ 0) : vf_n64 (FP.ddiv (FP.i2d a) (FP.i2d b)) := by
  have h1 : FP.Core.dIsNaN (FP.Core.ddiv (FP.Core.i2d a) (FP.Core.i2d b)) = false :=
    FP.Core.ddiv_out (by
      cases h : FP.Core.dIsNaN (FP.Core.i2d a) with
      | false => rfl
      | true =>
        have h2 := (FP.Core.isNaN_bits _).mp h
        have h3 := FP.Core.i2d_mag a
        omega) (FP.Core.i2d_fin b) (fun h => FP.Core.i2d_ne_zero hb ((FP.Core.zero_bits2 _).mp h))
  have h4 : ¬ 9218868437227405312 < (FP.Core.ddiv (FP.Core.i2d a) (FP.Core.i2d b)).toNat % 2 ^ 63 := fun h => by
    rw [(FP.Core.isNaN_bits _).mpr h] at h1
    cases h1
  show FP.Core.ddiv (FP.Core.i2d a) (FP.Core.i2d b) &&& 0x7fffffffffffffff ≤ 0x7ff0000000000000
  rw [UInt64.le_iff_toNat_le, UInt64.toNat_and]
  have e1 : (0x7fffffffffffffff : UInt64).toNat = 2 ^ 63 - 1 := by decide
  have e2 : (0x7ff0000000000000 : UInt64).toNat = 9218868437227405312 := by decide
  rw [e1, e2, Nat.and_two_pow_sub_one_eq_mod]
  omega
def mOk (q a : Nat) : Bool := !(FP.Core.dcmp (FP.Core.ddiv (FP.Core.i2d (Int32.ofNat q)) (FP.Core.i2d (Int32.ofNat a))) 0 == some .lt) && !(FP.Core.dcmp (FP.Core.ddiv (FP.Core.i2d (Int32.ofNat q)) (FP.Core.i2d (Int32.ofNat a))) 4627448617123184640 == some .gt)
set_option maxRecDepth 100000 in
theorem mOk_a : ∀ a, a < 31 → ∀ q, q < 24 * a + 1 → (a == 0 || mOk q a) = true := by decide +kernel
set_option maxRecDepth 100000 in
theorem mOk_b : ∀ a, a < 15 → ∀ q, q < 24 * (a + 31) + 1 → mOk q (a + 31) = true := by decide +kernel
set_option maxRecDepth 100000 in
theorem mOk_c : ∀ a, a < 15 → ∀ q, q < 24 * (a + 46) + 1 → mOk q (a + 46) = true := by decide +kernel
theorem mOk_all {a q : Nat} (h0 : 0 < a) (h : a ≤ 60) (hq : q ≤ 24 * a) : mOk q a = true := by
  rcases Nat.lt_or_ge a 31 with h1 | h1
  · have := mOk_a a h1 q (by omega)
    rw [show (a == 0) = false from by simp; omega, Bool.false_or] at this
    exact this
  · rcases Nat.lt_or_ge a 46 with h2 | h2
    · have := mOk_b (a - 31) (by omega) q (by omega)
      rw [show a - 31 + 31 = a by omega] at this
      exact this
    · have := mOk_c (a - 46) (by omega) q (by omega)
      rw [show a - 46 + 46 = a by omega] at this
      exact this
