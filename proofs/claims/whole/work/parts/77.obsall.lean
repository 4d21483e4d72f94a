-- what is observed: all of it
section OB5
variable {e n ns nt nr i j : Nat} {M N : Nat → Nat → Int32}
theorem pSumR_one {M' : Nat → Nat → Int32} (h1 : M' (50 + i) 0 = M (50 + i) 0 + 1) (ho : ∀ j, j < 10 → j ≠ i → M' (50 + j) 0 = M (50 + j) 0) : ∀ m, m ≤ 10 → i < m → pSumR M' 7 m = pSumR M 7 m + 1
  | 0, _, h => absurd h (by omega)
  | m + 1, hm, h => by
    rw [pSumR_s, pSumR_s, if_pos (rfl : (7 : Int32) = 7), if_pos (rfl : (7 : Int32) = 7)]
    by_cases c : i = m
    · subst c
      rw [pSumR_of (M := M) (M' := M') i (fun j hj => ho j (by omega) (by omega)), h1, Int32.add_assoc]
    · rw [pSumR_one h1 ho m (by omega) (by omega), ho m (by omega) (by omega), Int32.add_assoc, Int32.add_assoc, Int32.add_comm 1]
/-- the own row, first written -/
def yOb (N : Nat → Nat → Int32) (ns i e : Nat) : Nat → Int32 := upd (upd (upd (upd (N (40 + i)) 10 (nI e)) 11 (nI (wC (mObsL N ns i).1 ns))) 16 99) 17 1
theorem eObsW (h : Rel e n ns nt nr M N) (hi : i < nr) : mObsW N ns i (40 + i) = yOb N ns i e ∧ mObsW N ns i 0 = upd (N 0) 2 (N 0 2 + 1) ∧ (∀ k, k ≠ 0 → k ≠ 40 + i → mObsW N ns i k = mObsU N ns i k) ∧ (∀ k, 6 ≤ k → k < 10 → mObsW N ns i k = (mObsL N ns i).1 k) ∧ mObsM N ns i = nI (wC (mObsL N ns i).1 ns) := by
  have u0 : mObsU N ns i 0 = N 0 := mObsU_out N ns i (Or.inl (by decide)) (Or.inl (by omega))
  have h3 := h.1.1.2.2
  have u4 : mObsU N ns i (40 + i) = N (40 + i) := mObsU_out N ns i (Or.inr (by omega)) (Or.inl (by omega))
  have ec : (mObsL N ns i).2 = wC (mObsL N ns i).1 ns := (mLay_ok (mObsP N ns i) ns i 1 (-1) ns).2
  have ek : ∀ k, k ≠ 0 → k ≠ 40 + i → mObsW N ns i k = mObsU N ns i k := fun k h1 h2 => by
    unfold mObsW mObs1
    rw [mset_n h2, mset_n h1, mset_n h2]
  refine ⟨?_, ?_, ek, fun k h1 h2 => ?_, by unfold mObsM; rw [ec]⟩
  · unfold mObsW mObs1
    rw [mset_s, u0, u4, ec, h.2.1.2.1]
    rfl
  · unfold mObsW mObs1
    rw [mset_n (by omega), mset_s, u0]
  · rw [ek k (by omega) (by omega)]
    unfold mObsU
    exact mUseN_o _ _ _ ns (by omega)
/-- what is said of the memory afterwards -/
def OE (N Z : Nat → Nat → Int32) (ns i : Nat) : Prop := (∀ cc, cc ≠ 2 → cc < 15 → Z 0 cc = N 0 cc) ∧ Z 0 2 = N 0 2 + 1 ∧ ∀ k, 10 ≤ k → k ≠ 40 + i → Z k = mObsU N ns i k
theorem OE.ee {Z : Nat → Nat → Int32} (h : OE N Z ns i) : OE N (mObsE Z i) ns i := by
  unfold mObsE
  split
  · exact h
  · refine ⟨fun cc h1 h2 => by rw [mset_n (by omega)]; exact h.1 cc h1 h2, by rw [mset_n (by omega)]; exact h.2.1, fun k h1 h2 => by rw [mset_n h2]; exact h.2.2 k h1 h2⟩
theorem mB_o {B : Bst} {cc : Nat} (h : cc < 15) : mB N B 0 cc = N 0 cc := by
  unfold mB
  rw [mset_s]
  obtain ⟨b1, b2, b3, b4⟩ := B
  rw [upd_o (by omega), upd_o (by omega), upd_o (by omega)]
theorem mB_k {B : Bst} {k : Nat} (h : k ≠ 0) : mB N B k = N k := by
  unfold mB
  rw [mset_n h]
/-- the own row at the end, and what the class's track holds -/
theorem eObsOwn (h : Rel e n ns nt nr M N) (hn : n < 512) (hi : i < nr) (V : SX) (co : Int64) :
    OE N (mObsE (mObsZ N ns i co).1 i) ns i ∧ RRc (M (30 + i)) (obT M ns nr i V) (mObsE (mObsZ N ns i co).1 i (40 + i)) ∧ mObsE (mObsZ N ns i co).1 i (40 + i) 11 = nI (wC (mObsL N ns i).1 ns) ∧
    obT M ns nr i V 0 = M (50 + i) 0 + 1 ∧ obT M ns nr i V 1 = nI e ∧ ∃ k, k ≤ n + 1 ∧ obT M ns nr i V 3 = nI k := by
  have hL8 := h.1.1.1
  have h3 := h.1.1.2.2
  have he := h.1.2.1
  have hr := h.2.2.2.2.2.1 i hi
  obtain ⟨w4, w0, wk, w6, wm⟩ := eObsW h hi
  obtain ⟨l1, l2, l3, -⟩ := eObsLay h hn hi V.2.2.2
  have hw : WOK (mObsL N ns i).1 ns := (mLay_ok (mObsP N ns i) ns i 1 (-1) ns).1
  obtain ⟨s5, s3, s4⟩ := eSolve l2 l3 hw hL8 l1 V.1 V.2.1 (vB V) (mB0 (mObsW N ns i) co)
  have hc8 : wC (mObsL N ns i).1 ns ≤ 8 := Nat.le_trans (wC_le _ _) hL8
  have o0 : obM M ns nr i 0 0 = nI e := by rw [obM_out M ns nr i (Or.inl (by omega))]; exact h.2.1.1
  have o3 : obM M ns nr i (30 + i) = M (30 + i) := obM_out M ns nr i (Or.inl (by omega))
  have o5 : obM M ns nr i (50 + i) = M (50 + i) := obM_out M ns nr i (Or.inl (by omega))
  have eB : mPlB (mObsW N ns i) ns co = mFind (mObsL N ns i).1 ns (mB0 (mObsW N ns i) co) := mFind_of w6 ns _
  have eLv : ∀ mn, mPlL (mObsW N ns i) ns mn co = mLevel (mObsL N ns i).1 ns (mFind (mObsL N ns i).1 ns (mB0 (mObsW N ns i) co)) mn := fun mn => by
    unfold mPlL
    rw [eB, mLevel_of w6]
  have hT : obT M ns nr i V = tKA (M (50 + i)) (nI e) (obZ M ns nr i V) (obC M ns nr i V) (pAlarm (obZ M ns nr i V) (obC M ns nr i V) (M (30 + i)) (M (50 + i)) 1 (nI e)) (M (30 + i) 4) (M (30 + i) 5) := by
    unfold obT
    rw [o0, o3, o5]
  have hz : obZ M ns nr i V = zSolve (pGMl (pMs M i ns) nr i V.2.2.2 ns).2 V.1 (pGMl (pMs M i ns) nr i V.2.2.2 ns).1 (vB V) := rfl
  have hzc : obC M ns nr i V = lSolve (pGMl (pMs M i ns) nr i V.2.2.2 ns).2 V.1 V.2.1 (pGMl (pMs M i ns) nr i V.2.2.2 ns).1 (vB V) := rfl
  rw [← hz] at s5 s3 s4
  rw [← hzc] at s4
  rw [hT]
  clear hT hz hzc
  generalize obZ M ns nr i V = z at s5 s3 s4 ⊢
  generalize obC M ns nr i V = lc at s4 ⊢
  rw [l1] at s5 s3 s4
  have hv := hr.2.2.1
  obtain ⟨-, -, kt, hkt, ekt⟩ := hr.2.2.1
  unfold mObsZ
  rw [wm]
  have h3i : nI (wC (mObsL N ns i).1 ns) < 3 ↔ wC (mObsL N ns i).1 ns < 3 := nI_ltI (b := 3) (by omega) (by decide)
  by_cases c3 : wC (mObsL N ns i).1 ns < 3
  · rw [if_pos (h3i.mpr c3)]
    show OE N (mObsE (mObsW N ns i) i) ns i ∧ _
    have oe : OE N (mObsW N ns i) ns i := by
      refine ⟨fun cc h1 h2 => ?_, ?_, fun k h1 h2 => wk k (by omega) h2⟩
      · rw [w0, upd_o h1]
      · rw [w0, upd_at]
    obtain ⟨p1, p2⟩ := s3 c3
    obtain ⟨q1, q2, q3, q4, q5⟩ := eOwn0 (ep := nI e) (lc := lc) hr.1 s5 c3 p1 p2 (M (30 + i) 4) (M (30 + i) 5)
    have eE : mObsE (mObsW N ns i) i (40 + i) = upd (yOb N ns i e) 19 (nI e) := by
      unfold mObsE
      rw [w4, if_neg (show ¬ yOb N ns i e 17 ≤ 0 from (show ¬ (1 : Int32) ≤ 0 by decide)), mset_s, oe.1 1 (by decide) (by decide), h.2.1.2.1]
    refine ⟨oe.ee, ?_, ?_, q3, q4, kt, by omega, by rw [q5, ekt]⟩
    · show RRc _ _ (mObsE (mObsW N ns i) i (40 + i))
      rw [eE]
      exact q1
    · show mObsE (mObsW N ns i) i (40 + i) 11 = _
      rw [eE]
      rfl
  · rw [if_neg (fun q => c3 (h3i.mp q))]
    show OE N (mObsE (mPlN (mObsW N ns i) ns i (nI (wC (mObsL N ns i).1 ns)) (mObsN4 N ns i) (N (40 + i) 12) (N (40 + i) 13) co) i) ns i ∧ _
    obtain ⟨p1, p6, p7, p8, pl, p10⟩ := s4 (by omega)
    have oe : OE N (mPlN (mObsW N ns i) ns i (nI (wC (mObsL N ns i).1 ns)) (mObsN4 N ns i) (N (40 + i) 12) (N (40 + i) 13) co) ns i := by
      unfold mPlN
      refine ⟨fun cc h1 h2 => ?_, ?_, fun k h1 h2 => ?_⟩
      · rw [mset_n (by omega), mB_o h2, w0, upd_o h1]
      · rw [mset_n (by omega), mB_o (by decide), w0, upd_at]
      · rw [mset_n h2, mB_k (by omega), wk k (by omega) h2]
    have e4 : mPlN (mObsW N ns i) ns i (nI (wC (mObsL N ns i).1 ns)) (mObsN4 N ns i) (N (40 + i) 12) (N (40 + i) 13) co (40 + i) = mPl9 (yOb N ns i e) (mFind (mObsL N ns i).1 ns (mB0 (mObsW N ns i) co)) (mLevel (mObsL N ns i).1 ns (mFind (mObsL N ns i).1 ns (mB0 (mObsW N ns i) co)) (nI (wC (mObsL N ns i).1 ns))) (pAlarm z lc (M (30 + i)) (M (50 + i)) 1 (nI e)) := by
      unfold mPlN
      rw [mset_s, eLv, eB, w4]
      unfold mPlA
      rw [eLv, eB, w4]
      unfold mObsN4
      rw [wm, h.2.1.2.1, ← eAlarm1 (lv := mLevel (mObsL N ns i).1 ns (mFind (mObsL N ns i).1 ns (mB0 (mObsW N ns i) co)) (nI (wC (mObsL N ns i).1 ns))) (w2 := yOb N ns i e) hr.1 hr.2.2.1 (show e < 2 ^ 31 by omega) (show n < 2 ^ 31 by omega) hc8 s5 (fun _ => p10) p6 p7 pl rfl]
    obtain ⟨q1, q2, q3, q4, q5, q6, q7⟩ := eOwn1 (c := wC (mObsL N ns i).1 ns) (ep := nI e) (al := pAlarm z lc (M (30 + i)) (M (50 + i)) 1 (nI e)) hr.1 pAlarm_0 ekt (by omega) s5 p1 p10 p6 p7 p8 pl
    have eE : mObsE (mPlN (mObsW N ns i) ns i (nI (wC (mObsL N ns i).1 ns)) (mObsN4 N ns i) (N (40 + i) 12) (N (40 + i) 13) co) i (40 + i) = if mPl9 (yOb N ns i e) (mFind (mObsL N ns i).1 ns (mB0 (mObsW N ns i) co)) (mLevel (mObsL N ns i).1 ns (mFind (mObsL N ns i).1 ns (mB0 (mObsW N ns i) co)) (nI (wC (mObsL N ns i).1 ns))) (pAlarm z lc (M (30 + i)) (M (50 + i)) 1 (nI e)) 17 ≤ 0 then mPl9 (yOb N ns i e) (mFind (mObsL N ns i).1 ns (mB0 (mObsW N ns i) co)) (mLevel (mObsL N ns i).1 ns (mFind (mObsL N ns i).1 ns (mB0 (mObsW N ns i) co)) (nI (wC (mObsL N ns i).1 ns))) (pAlarm z lc (M (30 + i)) (M (50 + i)) 1 (nI e)) else upd (mPl9 (yOb N ns i e) (mFind (mObsL N ns i).1 ns (mB0 (mObsW N ns i) co)) (mLevel (mObsL N ns i).1 ns (mFind (mObsL N ns i).1 ns (mB0 (mObsW N ns i) co)) (nI (wC (mObsL N ns i).1 ns))) (pAlarm z lc (M (30 + i)) (M (50 + i)) 1 (nI e))) 19 (nI e) := by
      unfold mObsE
      rw [e4, oe.1 1 (by decide) (by decide), h.2.1.2.1]
      split
      · exact e4
      · rw [mset_s]
    refine ⟨oe.ee, ?_, ?_, q3, q4, kt + 1, by omega, by rw [q5, ekt, nI_1]⟩
    · show RRc _ _ (mObsE (mPlN (mObsW N ns i) ns i (nI (wC (mObsL N ns i).1 ns)) (mObsN4 N ns i) (N (40 + i) 12) (N (40 + i) 13) co) i (40 + i))
      rw [eE]
      exact q1
    · show mObsE (mPlN (mObsW N ns i) ns i (nI (wC (mObsL N ns i).1 ns)) (mObsN4 N ns i) (N (40 + i) 12) (N (40 + i) 13) co) i (40 + i) 11 = _
      rw [eE]
      split
      · exact q6
      · rw [upd_o (show 11 ≠ 19 by decide)]
        exact q6
theorem S_observe (h : Rel e n ns nt nr M N) (hn : n < 512) (hi : i < nr) (V : SX) (co : Int64) : mObsE (mObsZ N ns i co).1 i (40 + i) 17 = obT M ns nr i V 10 ∧ Rel e (n + 1) ns nt nr (mset (obM M ns nr i) (50 + i) (obT M ns nr i V)) (mObsE (mObsZ N ns i co).1 i) := by
  have hL8 := h.1.1.1
  have h3 := h.1.1.2.2
  have hrow : ∀ j, j < ns → _ := fun j hj => eObsRow (j := j) h hn hi hj
  have hrest : ∀ j, ns ≤ j → j < 8 → _ := fun j h1 h2 => eObsRest (j := j) h hi h1 h2
  obtain ⟨⟨z1, z2, z3⟩, y1, y2, y3, y4, kt, hkt, ekt⟩ := eObsOwn h hn hi V co
  refine ⟨y1.2.2.2.2.2.2.2.2.1, ?_⟩
  generalize mObsE (mObsZ N ns i co).1 i = Z at z1 z2 z3 y1 y2 ⊢
  generalize obT M ns nr i V = tt at y1 y3 y4 ekt ⊢
  have m5 : mset (obM M ns nr i) (50 + i) tt (50 + i) = tt := mset_s
  have mk : ∀ k, k ≠ 50 + i → (k < 60 + 8 * i ∨ 60 + 8 * i + ns ≤ k) → mset (obM M ns nr i) (50 + i) tt k = M k := fun k h1 h2 => by
    rw [mset_n h1, obM_out M ns nr i h2]
  have zk : ∀ k, 10 ≤ k → k ≠ 40 + i → (k < 60 + 8 * i ∨ 60 + 8 * i + ns ≤ k) → Z k = N k := fun k h1 h2 h5 => by
    rw [z3 k h1 h2, mObsU_out N ns i (Or.inr h1) h5]
  obtain ⟨⟨hL, he, h512⟩, ⟨hM0, hN0, hMN, hOb⟩, hS, hS0, hTt, hR, hR0⟩ := h
  have hri := hR i hi
  obtain ⟨⟨k, hk, ek⟩, ht, k3, hk3, ek3⟩ := hri.2.2.1
  refine ⟨⟨hL, by omega, by omega⟩, ⟨by rw [mk 0 (by omega) (by omega)]; exact hM0, by rw [z1 1 (by decide) (by decide)]; exact hN0, ⟨by rw [z1 8 (by decide) (by decide)]; exact hMN.1, by rw [z1 9 (by decide) (by decide)]; exact hMN.2.1, by rw [z1 10 (by decide) (by decide)]; exact hMN.2.2⟩, ?_⟩, fun j hj => ?_, fun j h1 h2 cc => ?_, fun q hq => ?_, fun q hq => ?_, fun q h1 h2 => ?_⟩
  · rw [z2, hOb, pSumR_one (M := M) (M' := mset (obM M ns nr i) (50 + i) tt) (i := i) (by rw [m5]; exact y3) (fun j h1 h2 => by rw [mk (50 + j) (by omega) (by omega)]) nr (by omega) hi]
  · rw [mk (10 + j) (by omega) (by omega), zk (10 + j) (by omega) (by omega) (by omega), zk (20 + j) (by omega) (by omega) (by omega)]
    exact ⟨(hS j hj).1, (hS j hj).2.mono (Nat.le_refl _) (Nat.le_succ _)⟩
  · rw [zk (20 + j) (by omega) (by omega) (by omega)]
    exact hS0 j h1 h2 cc
  · rw [zk (30 + q) (by omega) (by have := hL.2.1; omega) (by have := hL.2.1; omega), mk (20 + q) (by have := hL.2.1; omega) (by have := hL.2.1; omega)]
    exact hTt q hq
  · by_cases e9 : q = i
    · subst e9
      have rowj : ∀ j, j < 8 → mset (obM M ns nr q) (50 + q) tt (60 + 8 * q + j) = obM M ns nr q (60 + 8 * q + j) ∧ Z (60 + 8 * q + j) = mObsU N ns q (60 + 8 * q + j) := fun j hj => ⟨mset_n (by omega), z3 _ (by omega) (by omega)⟩
      have u6 : ∀ j, ns ≤ j → j < 8 → mObsU N ns q (60 + 8 * q + j) 6 = 0 := fun j h1 h2 => by
        rw [(hrest j h1 h2).2, (hri.2.2.2.1 j h2).1.2.2.1]
        exact ((hri.2.2.2.1 j h2).2.2.2.2.1 (hri.2.2.2.2.1 j h1 h2)).2
      refine ⟨?_, ?_, ?_, fun j hj => ?_, fun j h1 h2 => ?_, fun j hj hu => ?_⟩
      · rw [mk (30 + q) (by omega) (by omega), m5]
        exact y1
      · rw [mk (30 + q) (by omega) (by omega)]
        exact hri.2.1
      · rw [m5]
        refine ⟨⟨k + 1, by omega, by rw [y3, ek, nI_1]⟩, Or.inr ⟨?_, e, Nat.le_refl _, y4⟩, kt, hkt, ekt⟩
        rw [y3, ek, nI_1]
        exact nI_ne0 (by omega) (by omega)
      · rw [(rowj j hj).1, (rowj j hj).2]
        by_cases c : j < ns
        · exact (hrow j c).1
        · rw [(hrest j (by omega) hj).1, (hrest j (by omega) hj).2]
          exact (hri.2.2.2.1 j hj).mono (Nat.le_succ _)
      · rw [(rowj j h2).1, (hrest j h1 h2).1]
        exact hri.2.2.2.2.1 j h1 h2
      · rw [(rowj j hj).1] at hu ⊢
        rw [(rowj j hj).2, mSumR_of8 (N := mObsU N ns q) (N' := Z) (fun j hj => (rowj j hj).2) 8 (Nat.le_refl _), ← mSumR_tail u6 hL8, y2]
        by_cases c : j < ns
        · exact (hrow j c).2 hu
        · rw [(hrest j (by omega) hj).1] at hu
          exact absurd ((hri.2.2.2.1 j hj).2.2.2.2.1 (hri.2.2.2.2.1 j (by omega) hj)).2 hu
    · exact (hR q hq).of (Nat.le_refl _) (Nat.le_succ _) (Nat.le_refl _) (Nat.le_refl _) (mk _ (by omega) (by omega)) (mk _ (by omega) (by omega)) (fun j hj => mk _ (by omega) (by omega)) (zk _ (by omega) (by omega) (by omega)) (fun j hj => zk _ (by omega) (by omega) (by omega))
  · refine ⟨fun cc => by rw [zk (40 + q) (by omega) (by omega) (by omega)]; exact (hR0 q h1 h2).1 cc, fun j hj cc => ?_⟩
    rw [zk (60 + 8 * q + j) (by omega) (by omega) (by omega)]
    exact (hR0 q h1 h2).2 j hj cc
end OB5
