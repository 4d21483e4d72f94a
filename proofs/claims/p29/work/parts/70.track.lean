-- what is offered, what the track keeps
section TR1
variable {e n ns nt nr i : Nat} {M : Nat → Nat → Int32}
theorem o2_at {j : Nat} (hj : j < ns) : oM2 M ns nr i (60 + 8 * i + j) = if bI (cGM (oM1 M ns i) i j) = 0 then oM1 M ns i (60 + 8 * i + j) else upd (upd (oM1 M ns i (60 + 8 * i + j)) 2 1) 9 (pCorr (oM1 M ns i) nr i j) := by
  unfold oM2 pGM
  rw [pSgs_in hj]
  rfl
theorem o2_sg (h : JW e n ns nt nr M) (hn : n < 60) (hi : i < nr) {j : Nat} (hj : j < ns) : JG (n + 1) (oM2 M ns nr i (60 + 8 * i + j)) ∧ oM2 M ns nr i (60 + 8 * i + j) 2 = bI (cGM (oM1 M ns i) i j) ∧ oM2 M ns nr i (60 + 8 * i + j) 0 = bI (pSee (M (30 + i)) (M (10 + j)) 0) ∧ pMeas (oM2 M ns nr i (60 + 8 * i + j)) = pMeas (oM1 M ns i (60 + 8 * i + j)) := by
  obtain ⟨s1, s2, s3, s4⟩ := o1_sg h hn hi hj
  rw [o2_at hj]
  by_cases c : bI (cGM (oM1 M ns i) i j) = 0
  · rw [if_pos c, c]
    exact ⟨s1, s2, s3, rfl⟩
  · rw [if_neg c]
    have g0 : oM1 M ns i (60 + 8 * i + j) 0 = 1 := by
      have c2 := bI_t c
      unfold cGM at c2
      rcases s1.1.1 with q | q
      · rw [if_pos q] at c2; cases c2
      · exact q
    obtain ⟨⟨a0, a1, a2⟩, b0, b1, b2, b3⟩ := s1
    exact ⟨⟨⟨a0, a1, Or.inr rfl⟩, fun q => absurd (q.symm.trans g0) (show ¬ (0 : Int32) = 1 by decide), b1, fun q => absurd q (show ¬ (1 : Int32) = 0 by decide), b3⟩, (show (1 : Int32) = _ by rw [bI_t c]; rfl), s3, rfl⟩
theorem o2_far (h : JW e n ns nt nr M) (hn : n < 60) (hi : i < nr) {j : Nat} (hj : j < ns) (hu : ¬ oM2 M ns nr i (60 + 8 * i + j) 2 = 0) : Bd (pTooFar (M (30 + i)) (M (10 + j)) (nI e) (pMeas (oM2 M ns nr i (60 + 8 * i + j)))) 2697 := by
  obtain ⟨s1, s2, s3, s4⟩ := o1_sg h hn hi hj
  obtain ⟨-, t2, -, t4⟩ := o2_sg h hn hi hj
  rw [t2] at hu
  have c2 := bI_t hu
  rw [o1_meas h hn hi hj] at c2
  rw [t4]
  by_cases d1 : bI (pSee (M (30 + i)) (M (10 + j)) 0) = 0
  · rw [if_pos d1] at c2; cases c2
  · rw [if_neg d1] at c2
    by_cases d2 : bI (pHolds (M (10 + j)) (M 0 0)) = 0
    · rw [if_pos d2] at c2; cases c2
    · rw [h.2.1] at d2
      have hr := h.2.2.1 j hj
      have hm := s4 (s3.trans (by rw [bI_t d1]; rfl))
      have hc := f_clock hr h.1.2.1 d2
      have ht := f_told hr (nI e)
      obtain ⟨-, -, -, -, v4, v5, -⟩ := (h.2.2.2.2 i hi).1
      unfold pTooFar
      exact Bd.sub (Bd.sub hm hc (by decide)) (Bd.range v4 (v5.bd (by omega) (by omega)) ht.1 ht.2 (by decide)) (by decide)
theorem of_sum (h : JW e n ns nt nr M) (hn : n < 60) (hi : i < nr) : ∀ j, j ≤ ns → (pOfS (oM2 M ns nr i) i j).1.toInt.natAbs ≤ (pOfS (oM2 M ns nr i) i j).2 * 2697
  | 0, _ => by
    rw [pOfS_0]
    decide
  | j + 1, hj => by
    have ih := of_sum h hn hi j (by omega)
    have hL := h.1.1.1
    have hl := pOfS_le (oM2 M ns nr i) i j
    rw [pOfS_s]
    by_cases c : oM2 M ns nr i (60 + 8 * i + j) 2 = 0
    · rw [if_pos c]
      exact ih
    · rw [if_neg c]
      have hb := o2_far h hn hi (j := j) (by omega) c
      rw [oM2_out (k := 30 + i) (by omega), oM2_out (k := 10 + j) (by omega), oM2_out (k := 0) (by omega), h.2.1]
      unfold Bd at hb
      show ((pOfS (oM2 M ns nr i) i j).1 + pTooFar (M (30 + i)) (M (10 + j)) (nI e) (pMeas (oM2 M ns nr i (60 + 8 * i + j)))).toInt.natAbs ≤ ((pOfS (oM2 M ns nr i) i j).2 + 1) * 2697
      rw [i_add (by omega) (by omega)]
      omega
theorem mean_Bd (h : JW e n ns nt nr M) (hn : n < 60) (hi : i < nr) (hc : ¬ nI (pOfS (oM2 M ns nr i) i ns).2 = 0) : Bd (pFDiv (pOfS (oM2 M ns nr i) i ns).1 (nI (pOfS (oM2 M ns nr i) i ns).2)) 2697 := by
  have hs := of_sum h hn hi ns (Nat.le_refl _)
  have hl := pOfS_le (oM2 M ns nr i) i ns
  have hL := h.1.1.1
  obtain ⟨c, ec⟩ : ∃ c, c = (pOfS (oM2 M ns nr i) i ns).2 := ⟨_, rfl⟩
  rw [← ec] at hs hl hc ⊢
  have ei : (nI c).toInt = (c : Int) := nI_toInt (by omega)
  have c0 : 0 < c := by
    rcases Nat.eq_zero_or_pos c with q | q
    · exact absurd (by rw [q]; exact nI_0) hc
    · exact q
  obtain ⟨a, b⟩ := pFDiv_sp (x := (pOfS (oM2 M ns nr i) i ns).1) (c := nI c) (by rw [ei]; omega)
  rw [ei] at a b
  obtain ⟨q, eq⟩ : ∃ q, q = (pFDiv (pOfS (oM2 M ns nr i) i ns).1 (nI c)).toInt := ⟨_, rfl⟩
  unfold Bd
  rw [← eq] at a b ⊢
  have h1 : q * (c : Int) ≤ 2697 * (c : Int) := by omega
  have h2 : q ≤ 2697 := Int.le_of_mul_le_mul_right h1 (by omega)
  have h3 : (-2698) * (c : Int) < q * (c : Int) := by omega
  have h4 : -2698 < q := Int.lt_of_mul_lt_mul_right h3 (by omega)
  omega
theorem JG.off {g : Nat → Int32} {x : Int32} (h : JG n g) (hx : Bd x 5394) : JG n (upd g 10 x) := ⟨h.1, h.2.1, h.2.2.1, h.2.2.2.1, hx⟩
theorem ob_sg (h : JW e n ns nt nr M) (hn : n < 60) (hi : i < nr) {j : Nat} (hj : j < ns) : JG (n + 1) (obM M ns nr i (60 + 8 * i + j)) ∧ obM M ns nr i (60 + 8 * i + j) 2 = bI (cGM (oM1 M ns i) i j) ∧ obM M ns nr i (60 + 8 * i + j) 0 = bI (pSee (M (30 + i)) (M (10 + j)) 0) := by
  have hL := h.1.1.1
  obtain ⟨t1, t2, t3, -⟩ := o2_sg h hn hi hj
  have hf : (oM2 M ns nr i (60 + 8 * i + j) 2 = 0 ∧ fOf (oM2 M ns nr i) i j (oM2 M ns nr i (60 + 8 * i + j)) = oM2 M ns nr i (60 + 8 * i + j)) ∨ (¬ oM2 M ns nr i (60 + 8 * i + j) 2 = 0 ∧ ∃ x, Bd x 2697 ∧ fOf (oM2 M ns nr i) i j (oM2 M ns nr i (60 + 8 * i + j)) = upd (oM2 M ns nr i (60 + 8 * i + j)) 10 x) := by
    unfold fOf
    by_cases c : oM2 M ns nr i (60 + 8 * i + j) 2 = 0
    · rw [if_pos c]
      exact Or.inl ⟨c, rfl⟩
    · rw [if_neg c, oM2_out (k := 30 + i) (by omega), oM2_out (k := 10 + j) (by omega), oM2_out (k := 0) (by omega), h.2.1]
      exact Or.inr ⟨c, _, o2_far h hn hi hj c, rfl⟩
  have e0 : obM M ns nr i = pOf (oM2 M ns nr i) i ns := rfl
  rw [e0]
  unfold pOf
  by_cases c : nI (pOfS (oM2 M ns nr i) i ns).2 = 0
  · rw [if_pos c, pSgs_in hj]
    rcases hf with ⟨-, hf⟩ | ⟨-, x, hx, hf⟩
    · rw [hf]
      exact ⟨t1, t2, t3⟩
    · rw [hf]
      exact ⟨t1.off (hx.mono (by decide)), t2, t3⟩
  · rw [if_neg c, pSgs_in hj, pSgs_in hj]
    have hm := mean_Bd h hn hi c
    rcases hf with ⟨hu, hf⟩ | ⟨hu, x, hx, hf⟩
    · rw [hf]
      unfold fOf2
      rw [if_pos hu]
      exact ⟨t1, t2, t3⟩
    · rw [hf]
      have e2 : (upd (oM2 M ns nr i (60 + 8 * i + j)) 10 x) 2 = oM2 M ns nr i (60 + 8 * i + j) 2 := rfl
      unfold fOf2
      rw [e2, if_neg hu]
      refine ⟨(t1.off (hx.mono (by decide))).off ?_, t2, t3⟩
      show Bd (upd (oM2 M ns nr i (60 + 8 * i + j)) 10 x 10 - _) 5394
      rw [upd_at]
      exact Bd.sub hx hm (by decide)
/-- the others that are used, as they are counted -/
def uS (M : Nat → Nat → Int32) (i : Nat) : Nat → Int32
  | 0 => 0
  | j + 1 => uS M i j + (if M (60 + 8 * i + j) 2 = 0 then 0 else 1)
theorem uS_0 (M : Nat → Nat → Int32) (i : Nat) : uS M i 0 = 0 := by rw [uS]
theorem uS_s (M : Nat → Nat → Int32) (i j : Nat) : uS M i (j + 1) = uS M i j + (if M (60 + 8 * i + j) 2 = 0 then 0 else 1) := by rw [uS]
theorem used_n (h : JW e n ns nt nr M) (hn : n < 60) (hi : i < nr) (F : Nat → Nat → Int32) {M' : Nat → Nat → Int32} (hM' : ∀ j, j < ns → M' (60 + 8 * i + j) = obM M ns nr i (60 + 8 * i + j)) : ∀ j, j ≤ ns → uS M' i j = nI (pGMl (oM1 M ns i) nr i F j).1
  | 0, _ => by rw [uS_0, pGMl_0, nI_0]
  | j + 1, hj => by
    obtain ⟨-, t2, -⟩ := ob_sg h hn hi (j := j) (by omega)
    rw [uS_s, used_n h hn hi F hM' j (by omega), hM' j (by omega), t2, pGMl_s]
    by_cases c : bI (cGM (oM1 M ns i) i j) = 0
    · rw [if_pos c, if_pos c, Int32.add_zero]
    · rw [if_neg c, if_neg c, nI_1]
theorem zS_5 (F : Nat → Nat → Int32) (z : Nat → Int32) (c : Nat) (B : Bst) : zSolve F z c B 5 = nI c := by
  unfold zSolve
  split
  · rfl
  · split
    · rfl
    · rfl
theorem zS_has (F : Nat → Nat → Int32) (z : Nat → Int32) {c : Nat} (hc : c < 2 ^ 31) (B : Bst) : bI (pHas (zSolve F z c B)) = 0 ↔ c < 3 := by
  have h := nI_ltI (a := c) (b := 3) hc (by decide)
  unfold pHas
  rw [zS_5]
  by_cases q : nI c < 3
  · rw [if_pos q]
    exact ⟨fun _ => h.mp q, fun _ => rfl⟩
  · rw [if_neg q]
    exact ⟨fun w => absurd w (show ¬ (1 : Int32) = 0 by decide), fun w => absurd (h.mpr w) q⟩
end TR1
