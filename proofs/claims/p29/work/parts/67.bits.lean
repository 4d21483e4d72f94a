-- who is seen, as a set and one by one; what is told of a star
def lBit (S : Int32) (k : Nat) : Int32 := (S >>> (nI k &&& 31)) &&& 1
def sN (f : Nat → Bool) : Nat → Nat
  | 0 => 0
  | k + 1 => sN f k + (if f k then 2 ^ k else 0)
def lSum (S : Int32) : Nat → Int32
  | 0 => 0
  | k + 1 => lSum S k + lBit S k
theorem lSum_0 (S : Int32) : lSum S 0 = 0 := by rw [lSum]
theorem lSum_s (S : Int32) (k : Nat) : lSum S (k + 1) = lSum S k + lBit S k := by rw [lSum]
theorem sN_lt (f : Nat → Bool) : ∀ k, sN f k < 2 ^ k
  | 0 => by rw [sN]; decide
  | k + 1 => by
    have h := sN_lt f k
    rw [sN, Nat.pow_succ]
    split <;> omega
theorem or_N : ∀ k, k < 8 → ∀ a, a < 2 ^ k → nI a ||| (1 <<< (nI k &&& 31)) = nI (a + 2 ^ k) := by decide +kernel
theorem bt_lo : ∀ k, k < 8 → ∀ a, a < 2 ^ k → lBit (nI a) k = 0 ∧ lBit (nI (a + 2 ^ k)) k = 1 := by decide +kernel
theorem bt_hi : ∀ k, k < 8 → ∀ a, a < 2 ^ k → ∀ j, j < k → lBit (nI (a + 2 ^ k)) j = lBit (nI a) j := by decide +kernel
theorem bt_sum : ∀ k, k < 9 → ∀ a, a < 2 ^ k → pBits (nI a) = lSum (nI a) k := by decide +kernel
theorem pSet_N (v : Nat → Int32) (M : Nat → Nat → Int32) (ep : Int32) : ∀ k, k ≤ 8 → pSet v M ep k = nI (sN (fun j => pSee v (M (10 + j)) ep) k)
  | 0, _ => by rw [pSet, sN, nI_0]
  | k + 1, h => by
    rw [pSet, sN, pSet_N v M ep k (by omega)]
    by_cases c : bI (pSee v (M (10 + k)) ep) = 0
    · rw [if_pos c, if_neg (by rw [bI_f c]; decide), Nat.add_zero]
    · rw [if_neg c, if_pos (bI_t c)]
      exact or_N k (by omega) _ (sN_lt _ k)
theorem bt_N (f : Nat → Bool) : ∀ k, k ≤ 8 → ∀ j, j < k → lBit (nI (sN f k)) j = bI (f j)
  | 0, _, j, hj => absurd hj (by omega)
  | k + 1, h, j, hj => by
    have hl := sN_lt f k
    rw [sN]
    by_cases c : j = k
    · subst c
      cases hf : f j with
      | true => rw [if_pos rfl]; exact (bt_lo j (by omega) _ hl).2
      | false => rw [if_neg (by decide), Nat.add_zero]; exact (bt_lo j (by omega) _ hl).1
    · rw [← bt_N f k (by omega) j (by omega)]
      split
      · exact bt_hi k (by omega) _ hl j (by omega)
      · rfl
theorem pSet_bit {v : Nat → Int32} {M : Nat → Nat → Int32} {ep : Int32} {ns j : Nat} (h8 : ns ≤ 8) (hj : j < ns) : lBit (pSet v M ep ns) j = bI (pSee v (M (10 + j)) ep) := by
  rw [pSet_N v M ep ns h8]
  exact bt_N (fun j => pSee v (M (10 + j)) ep) ns h8 j hj
theorem pSet_sum {v : Nat → Int32} {M : Nat → Nat → Int32} {ep : Int32} {ns : Nat} (h8 : ns ≤ 8) : pBits (pSet v M ep ns) = lSum (pSet v M ep ns) ns := by
  rw [pSet_N v M ep ns h8]
  exact bt_sum ns (by omega) _ (sN_lt _ ns)
section TL
variable {e n ns nt nr : Nat} {M : Nat → Nat → Int32} {r : Nat → Int32}
theorem i_z1 (x y : Int32) : x + 0 * y = x := by rw [Int32.zero_mul, Int32.add_zero]
theorem f_both (h : JS e n r) : IR (pAbs (pX r 0) + pAbs (pY r 0)) ((r 0).toInt - 1) (r 0).toInt := by
  obtain ⟨⟨h0, h2, -⟩, -⟩ := h
  obtain ⟨k, hk, ek⟩ := h2.nat (b := 47)
  have h2 := pSwing_two (k := k) (by omega)
  have hr : IR (r 0) 0 200 := h0.mono (by omega) (Int.le_refl _)
  have ex : pX r 0 = r 0 * pSwing (nI k) / 12 := by unfold pX; rw [i_z1, ek]
  have ey : pY r 0 = r 0 * pSwing (nI k + 12) / 12 := by unfold pY; rw [i_z1, ek]
  have d1 := rad_div hr (pSwing_Bd (nI k))
  have d2 := rad_div hr (pSwing_Bd (nI k + 12))
  have b1 := rad_Bd hr (pSwing_Bd (nI k))
  have b2 := rad_Bd hr (pSwing_Bd (nI k + 12))
  rw [← ex] at d1 b1
  rw [← ey] at d2 b2
  have a1 := pAbs_toInt b1 (by decide)
  have a2 := pAbs_toInt b2 (by decide)
  have hp : (r 0).toInt.natAbs * (pSwing (nI k)).toInt.natAbs + (r 0).toInt.natAbs * (pSwing (nI k + 12)).toInt.natAbs = (r 0).toInt.natAbs * 12 := by rw [← Nat.mul_add, h2]
  obtain ⟨p0, q0⟩ := h0
  unfold Bd at b1 b2
  unfold IR
  rw [i_add (by omega) (by omega), a1, a2]
  omega
theorem f_coord (h : JS e n r) (k : Int32) : Bd (pX r k) 200 ∧ Bd (pY r k) 200 := by
  have hr : IR (r 0) 0 200 := h.1.1.mono (by omega) (Int.le_refl _)
  exact ⟨rad_Bd hr (pSwing_Bd _), rad_Bd hr (pSwing_Bd _)⟩
theorem f_told (h : JS e n r) (ep : Int32) : Bd (pTX r ep) 200 ∧ Bd (pTY r ep) 200 := by
  have hr : IR (r 0) 0 200 := h.1.1.mono (by omega) (Int.le_refl _)
  exact ⟨rad_Bd hr (pSwing_Bd _), rad_Bd hr (pSwing_Bd _)⟩
/-- a message that holds is told, and no more than 12 epochs old -/
theorem f_holds (h : JS e n r) (he : e ≤ 2000) (hh : ¬ bI (pHolds r (nI e)) = 0) : ¬ r 6 = 0 ∧ ∃ q, q ≤ e ∧ r 7 = nI q ∧ e - q ≤ 12 := by
  have h1 := bI_t hh
  unfold pHolds at h1
  obtain ⟨-, ⟨k, hk, ek⟩, h3, -⟩ := h
  by_cases c : r 6 ≤ 0
  · rw [if_pos c] at h1; cases h1
  · rw [if_neg c] at h1
    have c0 : ¬ r 6 = 0 := fun q => c (by rw [q]; decide)
    rcases h3 with h3 | ⟨-, ⟨q, hq, eq⟩, -⟩
    · exact absurd h3.1 c0
    · refine ⟨c0, q, hq, eq, ?_⟩
      by_cases c2 : bI (pOut (nI e - r 7) 0 12) = 0
      · have h4 := IR.of_out (a := 0) (b := 12) c2 (by decide) (by decide)
        rw [eq] at h4
        obtain ⟨-, h5⟩ := h4
        rw [i_sub (by rw [nI_toInt (by omega), nI_toInt (by omega)]; omega) (by rw [nI_toInt (by omega), nI_toInt (by omega)]; omega), nI_toInt (by omega), nI_toInt (by omega)] at h5
        omega
      · rw [if_neg c2] at h1; cases h1
/-- the clock that a message that holds tells -/
theorem f_clock (h : JS e n r) (he : e ≤ 2000) (hh : ¬ bI (pHolds r (nI e)) = 0) : Bd (pTC r (nI e)) 1116 := by
  obtain ⟨-, q, hq, eq, h12⟩ := f_holds h he hh
  obtain ⟨-, -, -, h9, h10⟩ := h
  have hd : Bd (nI e - r 7) 12 := by
    unfold Bd
    rw [eq, i_sub (by rw [nI_toInt (by omega), nI_toInt (by omega)]; omega) (by rw [nI_toInt (by omega), nI_toInt (by omega)]; omega), nI_toInt (by omega), nI_toInt (by omega)]
    omega
  unfold pTC
  exact Bd.add h9 (Bd.mul hd h10 (by decide)) (by decide)
theorem f_code {v : Nat → Int32} {i j : Nat} {ep : Int32} (h : JS e n r) (hv : JR nr i v) : Bd (pCode ep v r j) 1360 := by
  obtain ⟨-, v9, -, v1, v4, v5, v8, -, v11⟩ := hv
  have hc := f_coord h 0
  have h3 := h.1.2.2.1
  have hr : Bd (pRange (v 4) (v 5) (pX r 0) (pY r 0)) (12 + 200) := Bd.range v4 (v5.bd (by omega) (by omega)) hc.1 hc.2 (by decide)
  have ht : Bd (pTrue v r) (12 + 200 + 999 + 99 + 30) := by
    unfold pTrue
    refine Bd.add (Bd.add (Bd.add hr h3 (by decide)) v1 (by decide)) ?_ (by decide)
    split
    · exact v11.neg (by decide)
    · exact v11
  have hb8 : Bd (v 8) 9 := v8.bd (by omega) (by omega)
  have ha : Bd (pAir v r) 18 := by
    unfold pAir
    split
    · split
      · exact hb8.mono (by decide)
      · exact Bd.mul (K := 2) (by unfold Bd; decide) hb8 (by decide)
    · exact Bd0 _
  have hn : Bd (pNoise ep j (v 0)) 2 := by
    unfold pNoise
    have h5 := pFMod_IR (x := 7 * ep + 3 * nI j + 2 * v 0) (c := 5) (by decide)
    exact (h5.sub (show IR 2 2 2 from IR.lit (by decide)) (by decide) (by decide) (a' := -2) (b' := 2) (by decide) (by decide)).bd (by decide) (by decide)
  unfold pCode
  exact Bd.add (Bd.add ht ha (by decide)) hn (by decide)
end TL
