-- a quotient of two small ints, as a double: a number, not below 0, not above 24
theorem ddiv_n64 (a b : Int32) (hb : b ≠ 0) : vf_n64 (FP.ddiv (FP.i2d a) (FP.i2d b)) := by
  have h1 : FP.Core.dIsNaN (FP.Core.ddiv (FP.Core.i2d a) (FP.Core.i2d b)) = false :=
    FP.Core.ddiv_out (by
      cases h : FP.Core.dIsNaN (FP.Core.i2d a) with
      | false => rfl
      | true =>
        have h2 := (FP.Core.isNaN_bits _).mp h
        have h3 := FP.Core.i2d_mag a
        omega) (FP.Core.i2d_fin b) (fun h => FP.Core.i2d_ne_zero hb ((FP.Core.zero_bits2 _).mp h))
  have h4 : ¬ 9218868437227405312 < (FP.Core.ddiv (FP.Core.i2d a) (FP.Core.i2d b)).toNat % 2 ^ 63 := fun h => by
    rw [(FP.Core.isNaN_bits _).mpr h] at h1
    cases h1
  show FP.Core.ddiv (FP.Core.i2d a) (FP.Core.i2d b) &&& 0x7fffffffffffffff ≤ 0x7ff0000000000000
  rw [UInt64.le_iff_toNat_le, UInt64.toNat_and]
  have e1 : (0x7fffffffffffffff : UInt64).toNat = 2 ^ 63 - 1 := by decide
  have e2 : (0x7ff0000000000000 : UInt64).toNat = 9218868437227405312 := by decide
  rw [e1, e2, Nat.and_two_pow_sub_one_eq_mod]
  omega
theorem fp_24 : FP.Core.zval FP.Core.b64 (FP.Core.val64 4627448617123184640) = ((24 : Nat) : Int) * (FP.Core.one64 : Int) ∧ FP.Core.zmag FP.Core.b64 (FP.Core.val64 4627448617123184640) = 24 * FP.Core.one64 ∧ FP.Core.val64 4627448617123184640 ≠ .nan ∧ FP.Core.zval FP.Core.b64 (FP.Core.val64 0) = 0 := by decide +kernel
/-- an int that isn't below 0, as a double -/
theorem fp_int {x : Int32} (hx : 0 ≤ x.toInt) : ∃ (c : Nat) (q : Int), FP.Core.val64 (FP.Core.i2d x) = .fin false c q ∧ FP.Core.b64.qmin ≤ q ∧ FP.Core.inUnits c q FP.Core.b64.qmin = x.toInt.toNat * FP.Core.one64 := by
  obtain ⟨s, c, q, x1⟩ := FP.Core.i2d_fin x
  have hs : s = false := by
    have e := congrArg FP.Core.sgn (FP.Core.val64_i2d x)
    rw [x1] at e
    have e2 : FP.Core.sgn (FP.Core.round FP.Core.b64 (FP.Core.ofInt x.toInt)) = decide (x.toInt < 0) := FP.Core.sgn_roundRatio _ _ _ _ _
    rw [e2] at e
    have e3 : s = decide (x.toInt < 0) := e
    rw [e3]
    exact decide_eq_false (Int.not_lt.mpr hx)
  subst hs
  have hf := FP.Core.val64_fits (FP.Core.i2d x)
  rw [x1] at hf
  have zx := FP.Core.DInt_zval (FP.Core.i2d_int x)
  rw [x1] at zx
  have zx' : ((FP.Core.inUnits c q FP.Core.b64.qmin : Nat) : Int) = x.toInt * (FP.Core.one64 : Int) := zx
  refine ⟨c, q, x1, hf.2.1, ?_⟩
  have hx2 : ((x.toInt.toNat : Nat) : Int) = x.toInt := Int.toNat_of_nonneg hx
  rw [← hx2, ← Int.natCast_mul] at zx'
  exact Int.ofNat_inj.mp zx'
theorem fp_e1 (f : FP.Core.Fmt) (c : Nat) {q : Int} (r : Int) (h : f.qmin ≤ q) (hq : f.qmin < 0) : FP.Core.inUnits c (q - r) (2 * f.qmin - r) = FP.Core.inUnits c q f.qmin * 2 ^ (-f.qmin).toNat := by
  show c * _ = c * _ * _
  rw [Nat.mul_assoc, ← Nat.pow_add]
  congr 2
  omega
theorem fp_e2 (f : FP.Core.Fmt) (d : Nat) {r : Int} (h : f.qmin ≤ r) : 2 ^ (f.qmin - (2 * f.qmin - r)).toNat * d = FP.Core.inUnits d r f.qmin := by
  show _ = d * _
  rw [Nat.mul_comm]
  congr 2
  omega
theorem ddiv_le24 {x y : Int32} (hx : 0 ≤ x.toInt) (hy : 0 < y.toInt) (h : x.toInt ≤ 24 * y.toInt) : ¬ FP.Core.dcmp (FP.Core.ddiv (FP.Core.i2d x) (FP.Core.i2d y)) 0 = some .lt ∧ ¬ FP.Core.dcmp (FP.Core.ddiv (FP.Core.i2d x) (FP.Core.i2d y)) 4627448617123184640 = some .gt := by
  obtain ⟨c, q, x1, x2, x3⟩ := fp_int hx
  obtain ⟨d, r, y1, y2, y3⟩ := fp_int (Int.le_of_lt hy)
  have h1 := FP.Core.one64_pos
  have hd0 : d ≠ 0 := by
    rintro rfl
    have z : FP.Core.inUnits 0 r FP.Core.b64.qmin = 0 := Nat.zero_mul _
    rw [z] at y3
    have := Nat.mul_pos (show 0 < y.toInt.toNat by omega) h1
    omega
  have vX : FP.Core.val64 (FP.Core.ddiv (FP.Core.i2d x) (FP.Core.i2d y)) = FP.Core.roundRatio FP.Core.b64 (false != false) c d (q - r) := by
    rw [FP.Core.val64_ddiv, x1, y1]
    simp only [FP.Core.quotient, if_neg hd0]
  have hz : FP.Core.zval FP.Core.b64 (FP.Core.roundRatio FP.Core.b64 (false != false) c d (q - r)) = ((FP.Core.zmag FP.Core.b64 (FP.Core.roundRatio FP.Core.b64 (false != false) c d (q - r)) : Nat) : Int) := by
    unfold FP.Core.zval
    rw [FP.Core.sgn_roundRatio]
    rfl
  obtain ⟨f1, f2, f3, f4⟩ := fp_24
  constructor
  · intro hl
    obtain ⟨-, -, h3⟩ := FP.Core.dcmp_lt.mp hl
    rw [vX, hz, f4] at h3
    omega
  · intro hl
    obtain ⟨-, -, h3⟩ := FP.Core.dcmp_gt.mp hl
    rw [vX, hz, f1, ← Int.natCast_mul] at h3
    have hq := FP.Core.qmin_b64
    have e1 := fp_e1 FP.Core.b64 c r x2 (by omega)
    have e2 := fp_e2 FP.Core.b64 d y2
    have hle : FP.Core.zmag FP.Core.b64 (FP.Core.roundRatio FP.Core.b64 (false != false) c d (q - r)) ≤ FP.Core.zmag FP.Core.b64 (FP.Core.val64 4627448617123184640) := by
      refine FP.Core.zmag_roundRatio_le FP.Core.good_b64 (by omega) (FP.Core.val64_fits _) f3 (e0 := 2 * FP.Core.b64.qmin - r) (by omega) (by omega) ?_
      rw [e1, Nat.mul_assoc, e2, x3, y3, f2, FP.Core.pow_qmin64]
      have hk : x.toInt.toNat ≤ 24 * y.toInt.toNat := by omega
      generalize FP.Core.one64 = o
      have h5 : x.toInt.toNat * o * o ≤ 24 * y.toInt.toNat * o * o := Nat.mul_le_mul_right o (Nat.mul_le_mul_right o hk)
      have h6 : 24 * y.toInt.toNat * o * o = 24 * o * (y.toInt.toNat * o) := by ac_rfl
      omega
    rw [f2] at hle
    omega
