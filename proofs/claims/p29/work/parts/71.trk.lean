-- the track behind an observation
section TK1
variable {e n ns nt nr i : Nat} {M : Nat → Nat → Int32}
/-- how many are used -/
def oN (M : Nat → Nat → Int32) (ns nr i : Nat) (V : SX) : Nat := (pGMl (oM1 M ns i) nr i V.2.2.2 ns).1
theorem oN_le {V : SX} : oN M ns nr i V ≤ ns := pGMl_le _ _ _ _ _
theorem oZ_5 {V : SX} : obZ M ns nr i V 5 = nI (oN M ns nr i V) := zS_5 _ _ _ _
theorem oZ_has {V : SX} (h8 : ns ≤ 8) : bI (pHas (obZ M ns nr i V)) = 0 ↔ oN M ns nr i V < 3 := zS_has _ _ (Nat.lt_of_le_of_lt oN_le (by omega)) _
theorem oZ_lo {V : SX} (h8 : ns ≤ 8) (hc : oN M ns nr i V < 4) : obZ M ns nr i V 10 = 99 := by
  have hl : oN M ns nr i V ≤ ns := oN_le
  have e4 : ¬ 4 ≤ nI (pGMl (oM1 M ns i) nr i V.2.2.2 ns).1 := fun q => by
    have := (nI_leI (a := 4) (b := oN M ns nr i V) (by decide) (by omega)).mp q
    omega
  have e4' : ¬ 4 ≤ nI (pGMl (pMs M i ns) nr i V.2.2.2 ns).1 := e4
  unfold obZ zSolve
  by_cases c9 : bI (pHas (upd V.1 5 (nI (pGMl (pMs M i ns) nr i V.2.2.2 ns).1))) = 0
  · rw [if_pos c9]
    rfl
  · rw [if_neg c9, if_neg e4']
    rfl
/-- the place that was found, and the level -/
theorem oZ_hi {V : SX} (h : JW e n ns nt nr M) (hn : n < 60) (hi : i < nr) (hc : 3 ≤ oN M ns nr i V) : (Bd (obZ M ns nr i V 6) 12 ∧ IR (obZ M ns nr i V 7) 0 12) ∧ (0 ≤ (obC M ns nr i V).toInt ∧ (obC M ns nr i V).toInt ≤ 2094857024) ∧ (4 ≤ oN M ns nr i V → IR (obZ M ns nr i V 10) 3 27) := by
  have h8 := h.1.1.1
  have hF : FB (pGMl (pMs M i ns) nr i V.2.2.2 ns).2 (pGMl (pMs M i ns) nr i V.2.2.2 ns).1 := lay_FB h hn hi V.2.2.2 ns (Nat.le_refl _)
  have hl : oN M ns nr i V ≤ ns := oN_le
  have hN : oN M ns nr i V = (pGMl (pMs M i ns) nr i V.2.2.2 ns).1 := rfl
  have hk : ¬ bI (pHas (upd V.1 5 (nI (pGMl (pMs M i ns) nr i V.2.2.2 ns).1))) = 0 := by
    unfold pHas
    rw [show upd V.1 5 (nI (pGMl (pMs M i ns) nr i V.2.2.2 ns).1) 5 = nI (pGMl (pMs M i ns) nr i V.2.2.2 ns).1 from upd_at, if_neg (fun q => by
      have := (nI_ltI (a := oN M ns nr i V) (b := 3) (by omega) (by decide)).mp q
      omega)]
    decide
  have hK := pFind_KB (lo := -1) hF (by omega) (vB V)
  obtain ⟨⟨k1, k2⟩, k3, k4⟩ := hK
  have hfar := pFar_IR hF (by omega) k1 k2 (pFind (pGMl (pMs M i ns) nr i V.2.2.2 ns).2 (pGMl (pMs M i ns) nr i V.2.2.2 ns).1 (-1) (vB V)) (pGMl (pMs M i ns) nr i V.2.2.2 ns).1
  refine ⟨?_, ?_, fun h4 => ?_⟩
  · unfold obZ zSolve
    rw [if_neg hk]
    split
    · exact ⟨k1, k2⟩
    · exact ⟨k1, k2⟩
  · unfold obC lSolve
    rw [if_neg hk]
    exact ⟨k3, k4⟩
  · have e4 : 4 ≤ nI (pGMl (pMs M i ns) nr i V.2.2.2 ns).1 := (nI_leI (a := 4) (b := oN M ns nr i V) (by decide) (by omega)).mpr h4
    unfold obZ zSolve
    rw [if_neg hk, if_pos e4]
    exact (show IR 3 3 3 from IR.lit (by decide)).add hfar (by decide) (by decide) (by decide) (by decide)
/-- the alarm -/
noncomputable def oA (M : Nat → Nat → Int32) (ns nr i : Nat) (V : SX) : Int32 := pAlarm (obZ M ns nr i V) (obC M ns nr i V) (obM M ns nr i (30 + i)) (obM M ns nr i (50 + i)) 1 (obM M ns nr i 0 0)
theorem oA_1 {V : SX} (h8 : ns ≤ 8) : oA M ns nr i V = 1 ↔ oN M ns nr i V < 4 := by
  have hl : oN M ns nr i V ≤ ns := oN_le
  have h4 := nI_leI (a := 4) (b := oN M ns nr i V) (by decide) (by omega)
  unfold oA pAlarm
  rw [oZ_5]
  by_cases c : 4 ≤ nI (oN M ns nr i V)
  · rw [if_pos c]
    have := h4.mp c
    refine ⟨fun q => ?_, fun q => absurd q (by omega)⟩
    exfalso
    revert q
    split
    · split
      · split
        · decide
        · split <;> decide
      · decide
    · decide
  · rw [if_neg c]
    exact ⟨fun _ => by
      have : ¬ 4 ≤ oN M ns nr i V := fun q => c (h4.mpr q)
      omega, fun _ => rfl⟩
theorem oA_2 {V : SX} (h8 : ns ≤ 8) : oA M ns nr i V = 2 ↔ 4 ≤ oN M ns nr i V ∧ 40 * (oN M ns nr i V : Int) < (obC M ns nr i V).toInt := by
  have hl : oN M ns nr i V ≤ ns := oN_le
  have h4 := nI_leI (a := 4) (b := oN M ns nr i V) (by decide) (by omega)
  have e40 : (40 : Int32).toInt = 40 := by decide
  have em : (40 * nI (oN M ns nr i V)).toInt = 40 * (oN M ns nr i V : Int) := by
    rw [i_mul (by rw [e40, nI_toInt (by omega)]; omega) (by rw [e40, nI_toInt (by omega)]; omega), e40, nI_toInt (by omega)]
  unfold oA pAlarm
  rw [oZ_5]
  by_cases c : 4 ≤ nI (oN M ns nr i V)
  · rw [if_pos c]
    have hN := h4.mp c
    by_cases c2 : lg_cmp (obC M ns nr i V) ((40 * nI (oN M ns nr i V)).toInt64) ≤ 0
    · rw [if_pos c2]
      rw [lg_cmp_le, Int64.le_iff_toInt_le, Int32.toInt_toInt64, em] at c2
      refine ⟨fun q => ?_, fun q => absurd q.2 (by omega)⟩
      exfalso
      revert q
      split
      · split
        · decide
        · split <;> decide
      · decide
    · rw [if_neg c2]
      rw [lg_cmp_le, Int64.le_iff_toInt_le, Int32.toInt_toInt64, em] at c2
      exact ⟨fun _ => ⟨hN, by omega⟩, fun _ => rfl⟩
  · rw [if_neg c]
    exact ⟨fun q => absurd q (by decide), fun q => absurd (h4.mpr q.1) c⟩
theorem oA_IR {V : SX} : IR (oA M ns nr i V) 0 4 := by
  unfold oA pAlarm
  split
  · split
    · split
      · split
        · exact IR.lit (by decide)
        · split
          · exact IR.lit (by decide)
          · exact IR.lit (by decide)
      · exact IR.lit (by decide)
    · exact IR.lit (by decide)
  · exact IR.lit (by decide)
-- the track's rows
theorem tA_0 (t : Nat → Int32) (ep : Int32) (z : Nat → Int32) (al : Int32) : tKA1 t ep z al 0 = t 0 + 1 ∧ tKA1 t ep z al 1 = ep ∧ tKA1 t ep z al 2 = z 5 ∧ tKA1 t ep z al 9 = z 10 ∧ tKA1 t ep z al 10 = al ∧ tKA1 t ep z al 12 = (if al ≤ 0 then t 12 else ep) ∧ ∀ c, (c = 3 ∨ c = 4 ∨ c = 5 ∨ c = 6 ∨ c = 7 ∨ c = 8 ∨ c = 11) → tKA1 t ep z al c = t c := by
  unfold tKA1
  by_cases h : al ≤ 0
  · rw [if_pos h, if_pos h]
    refine ⟨rfl, rfl, rfl, rfl, rfl, rfl, fun c hc => ?_⟩
    rcases hc with rfl | rfl | rfl | rfl | rfl | rfl | rfl <;> rfl
  · rw [if_neg h, if_neg h]
    refine ⟨rfl, rfl, rfl, rfl, rfl, rfl, fun c hc => ?_⟩
    rcases hc with rfl | rfl | rfl | rfl | rfl | rfl | rfl <;> rfl
/-- all that an observation leaves in the track -/
def OT (e : Nat) (t t' : Nat → Int32) (N : Nat) (al lv tx ty : Int32) (cost : Int) : Prop :=
  (t' 0 = t 0 + 1 ∧ t' 1 = nI e ∧ t' 2 = nI N ∧ t' 9 = lv ∧ t' 10 = al ∧ t' 12 = (if al ≤ 0 then t 12 else nI e)) ∧ (4 ≤ N → (t' 8).toInt = cost) ∧ (al = 0 → ¬ lv < pErrAt t' tx ty → t' 11 = t 11) ∧ (al = 0 → lv < pErrAt t' tx ty → t' 11 = t 11 + 1) ∧ (¬ al = 0 → t' 11 = t 11)
theorem obT_at {V : SX} (h : JW e n ns nt nr M) (hi : i < nr) : obT M ns nr i V = tKA (M (50 + i)) (nI e) (obZ M ns nr i V) (obC M ns nr i V) (oA M ns nr i V) (M (30 + i) 4) (M (30 + i) 5) := by
  have hL := h.1.1
  unfold obT oA
  have e5 : obM M ns nr i (50 + i) = M (50 + i) := obM_out (by obtain ⟨a, b, c⟩ := hL; omega)
  have e3 : obM M ns nr i (30 + i) = M (30 + i) := obM_out (by obtain ⟨a, b, c⟩ := hL; omega)
  have e0 : obM M ns nr i 0 = M 0 := obM_out (by omega)
  rw [e5, e3, e0, h.2.1]
theorem i_lo {c : Int64} (h1 : 0 ≤ c.toInt) (h2 : c.toInt ≤ 2094857024) : c.toInt32.toInt = c.toInt := by
  rw [Int64.toInt_toInt32]
  exact Int.bmod_eq_of_le_mul_two (by omega) (by omega)
/-- what a solution changes in the track -/
theorem tS_f (t z : Nat → Int32) (lc : Int64) (tx ty : Int32) : (∀ c, (c = 0 ∨ c = 1 ∨ c = 2 ∨ c = 9 ∨ c = 10 ∨ c = 12) → tKS t z lc tx ty c = t c) ∧ tKS t z lc tx ty 8 = lc.toInt32 ∧ tKS t z lc tx ty 3 = t 3 + 1 ∧ tKS t z lc tx ty 4 = t 4 + pErrAt (tKS1 t z lc) tx ty ∧ tKS t z lc tx ty 5 = z 6 ∧ tKS t z lc tx ty 6 = z 7 ∧ tKS t z lc tx ty 11 = (if t 10 = 0 then (if pErrAt (tKS1 t z lc) tx ty ≤ t 9 then t 11 else t 11 + 1) else t 11) ∧ pErrAt (tKS t z lc tx ty) tx ty = pErrAt (tKS1 t z lc) tx ty := by
  unfold tKS
  by_cases d : t 10 = 0
  · rw [if_pos d, if_pos d]
    by_cases d2 : pErrAt (tKS1 t z lc) tx ty ≤ t 9
    · rw [if_pos d2, if_pos d2]
      refine ⟨fun c hc => ?_, rfl, rfl, rfl, rfl, rfl, rfl, rfl⟩
      rcases hc with rfl | rfl | rfl | rfl | rfl | rfl <;> rfl
    · rw [if_neg d2, if_neg d2]
      refine ⟨fun c hc => ?_, rfl, rfl, rfl, rfl, rfl, rfl, rfl⟩
      rcases hc with rfl | rfl | rfl | rfl | rfl | rfl <;> rfl
  · rw [if_neg d, if_neg d]
    refine ⟨fun c hc => ?_, rfl, rfl, rfl, rfl, rfl, rfl, rfl⟩
    rcases hc with rfl | rfl | rfl | rfl | rfl | rfl <;> rfl
theorem tKA_OT {t z : Nat → Int32} {lc : Int64} {al tx ty : Int32} {N : Nat} (h5 : z 5 = nI N) (h3 : bI (pHas z) = 0 ↔ N < 3) (h1 : al = 1 ↔ N < 4) (hlc : 3 ≤ N → 0 ≤ lc.toInt ∧ lc.toInt ≤ 2094857024) : OT e t (tKA t (nI e) z lc al tx ty) N al (z 10) tx ty lc.toInt := by
  obtain ⟨a0, a1, a2, a9, a10, a12, ar⟩ := tA_0 t (nI e) z al
  rw [h5] at a2
  unfold tKA
  by_cases c : bI (pHas z) = 0
  · rw [if_pos c]
    have c3 := h3.mp c
    have hA : al = 1 := h1.mpr (by omega)
    refine ⟨⟨a0, a1, a2, a9, a10, a12⟩, fun q => absurd q (by omega), fun q => ?_, fun q => ?_, fun _ => ar 11 (by omega)⟩
    · exact absurd (hA.symm.trans q) (by decide)
    · exact absurd (hA.symm.trans q) (by decide)
  · rw [if_neg c]
    have c3 : 3 ≤ N := by
      rcases Nat.lt_or_ge N 3 with q | q
      · exact absurd (h3.mpr q) c
      · exact q
    obtain ⟨z1, z2⟩ := hlc c3
    obtain ⟨s0, s8, s3, s4, s5, s6, s11, sE⟩ := tS_f (tKA1 t (nI e) z al) z lc tx ty
    rw [a10, a9, ar 11 (by omega)] at s11
    refine ⟨⟨(s0 0 (by omega)).trans a0, (s0 1 (by omega)).trans a1, (s0 2 (by omega)).trans a2, (s0 9 (by omega)).trans a9, (s0 10 (by omega)).trans a10, (s0 12 (by omega)).trans a12⟩, fun _ => by rw [s8]; exact i_lo z1 z2, fun q w => ?_, fun q w => ?_, fun q => ?_⟩
    · rw [sE] at w
      rw [s11, if_pos q, if_pos (Int32.not_lt.mp w)]
    · rw [sE] at w
      rw [s11, if_pos q, if_neg (Int32.not_le.mpr w)]
    · rw [s11, if_neg q]
theorem obT_OT {V : SX} (h : JW e n ns nt nr M) (hn : n < 60) (hi : i < nr) : OT e (M (50 + i)) (obT M ns nr i V) (oN M ns nr i V) (oA M ns nr i V) (obZ M ns nr i V 10) (M (30 + i) 4) (M (30 + i) 5) (obC M ns nr i V).toInt := by
  have h8 := h.1.1.1
  rw [obT_at h hi]
  exact tKA_OT oZ_5 (oZ_has h8) (oA_1 h8) (fun c3 => (oZ_hi h hn hi c3).2.1)
/-- the track still is as it must be -/
theorem tKA_JT {t z : Nat → Int32} {lc : Int64} {al tx ty : Int32} {N : Nat} (ht : JT e n t) (he : e ≤ 2000) (hn : n < 60) (h5 : z 5 = nI N) (h3 : bI (pHas z) = 0 ↔ N < 3) (h1 : al = 1 ↔ N < 4) (hlc : 3 ≤ N → 0 ≤ lc.toInt ∧ lc.toInt ≤ 2094857024) (h6 : 3 ≤ N → Bd (z 6) 12 ∧ IR (z 7) 0 12) (htx : Bd tx 12) (hty : IR ty 0 12) : JT e (n + 1) (tKA t (nI e) z lc al tx ty) := by
  obtain ⟨⟨k0, hk0, ek0⟩, ht1, ⟨a, q, ha, hq, e3, e4⟩, ⟨b5, b6⟩, b8, b12⟩ := ht
  obtain ⟨⟨o0, o1, o2, o9, o10, o12⟩, -⟩ := tKA_OT (e := e) (t := t) (tx := tx) (ty := ty) h5 h3 h1 hlc
  have hT0 : ∃ k, k ≤ n + 1 ∧ tKA t (nI e) z lc al tx ty 0 = nI k := ⟨k0 + 1, by omega, by rw [o0, ek0, nI_1]⟩
  have hT1 : ¬ tKA t (nI e) z lc al tx ty 0 = 0 ∧ ∃ q, q ≤ e ∧ tKA t (nI e) z lc al tx ty 1 = nI q := ⟨by
    rw [o0, ek0, nI_1]
    exact nI_ne0 (by omega) (by omega), e, Nat.le_refl _, o1⟩
  have h12 : IR (t 12) (-1) e := by
    refine ⟨b12.1, Int.le_trans b12.2 ?_⟩
    rcases ht1 with ⟨-, t1⟩ | ⟨-, q1, hq1, t1⟩
    · rw [t1, tI_m1]
      omega
    · rw [t1, nI_toInt (by omega)]
      omega
  have hT12 : IR (tKA t (nI e) z lc al tx ty 12) (-1) (tKA t (nI e) z lc al tx ty 1).toInt := by
    rw [o12, o1, nI_toInt (by omega)]
    split
    · exact h12
    · exact IR.of_nI (by omega) (by omega) (by omega)
  obtain ⟨a0, a1, a2, a9, a10, a12, ar⟩ := tA_0 t (nI e) z al
  by_cases c : bI (pHas z) = 0
  · have eT : tKA t (nI e) z lc al tx ty = tKA1 t (nI e) z al := if_pos c
    refine ⟨hT0, Or.inr hT1, ?_, ?_, ?_, hT12⟩
    · rw [eT, ar 3 (by omega), ar 4 (by omega)]
      exact ⟨a, q, by omega, hq, e3, e4⟩
    · rw [eT, ar 5 (by omega), ar 6 (by omega)]
      exact ⟨b5, b6⟩
    · rw [eT, ar 8 (by omega)]
      exact b8
  · have eT : tKA t (nI e) z lc al tx ty = tKS (tKA1 t (nI e) z al) z lc tx ty := if_neg c
    have c3 : 3 ≤ N := by
      rcases Nat.lt_or_ge N 3 with q | q
      · exact absurd (h3.mpr q) c
      · exact q
    obtain ⟨z1, z2⟩ := hlc c3
    obtain ⟨z6, z7⟩ := h6 c3
    obtain ⟨s0, s8, s3, s4, s5, s6, s11, sE⟩ := tS_f (tKA1 t (nI e) z al) z lc tx ty
    have g3 : tKS1 (tKA1 t (nI e) z al) z lc 3 = tKA1 t (nI e) z al 3 + 1 := rfl
    have g5 : tKS1 (tKA1 t (nI e) z al) z lc 5 = z 6 := rfl
    have g6 : tKS1 (tKA1 t (nI e) z al) z lc 6 = z 7 := rfl
    have hE : IR (pErrAt (tKS1 (tKA1 t (nI e) z al) z lc) tx ty) 0 24 := by
      unfold pErrAt
      rw [g3, g5, g6, ar 3 (by omega), e3, nI_1, if_neg (nI_ne0 (by omega) (by omega))]
      exact pRange_IR z6 (z7.bd (by omega) (by omega)) htx (hty.bd (by omega) (by omega)) (by decide) (by decide)
    obtain ⟨w, hw, ew⟩ := hE.nat (b := 24)
    refine ⟨hT0, Or.inr hT1, ⟨a + 1, q + w, by omega, by omega, ?_, ?_⟩, ?_, ?_, hT12⟩
    · rw [eT, s3, ar 3 (by omega), e3, nI_1]
    · rw [eT, s4, ew, ar 4 (by omega), e4, nI_add]
    · rw [eT, s5, s6]
      exact ⟨z6, z7⟩
    · rw [eT, s8, i_lo z1 z2]
      exact z1
theorem obT_JT {V : SX} (h : JW e n ns nt nr M) (hn : n < 60) (hi : i < nr) : JT e (n + 1) (obT M ns nr i V) := by
  have h8 := h.1.1.1
  obtain ⟨hR, hT, -⟩ := h.2.2.2.2 i hi
  obtain ⟨-, -, -, -, v4, v5, -⟩ := hR
  rw [obT_at h hi]
  exact tKA_JT hT h.1.2.1 hn oZ_5 (oZ_has h8) (oA_1 h8) (fun c3 => (oZ_hi h hn hi c3).2.1) (fun c3 => (oZ_hi h hn hi c3).1) v4 v5
/-- the world behind an observation -/
theorem JW.observe {V : SX} (h : JW e n ns nt nr M) (hn : n < 60) (hi : i < nr) : JW e (n + 1) ns nt nr (mset (obM M ns nr i) (50 + i) (obT M ns nr i V)) := by
  obtain ⟨l1, l2, l3⟩ := h.1.1
  have ek : ∀ k, k ≠ 50 + i → (k < 60 + 8 * i ∨ 60 + 8 * i + ns ≤ k) → mset (obM M ns nr i) (50 + i) (obT M ns nr i V) k = M k := fun k h1 h2 => by
    rw [mset_n h1, obM_out h2]
  refine ⟨⟨h.1.1, h.1.2.1, by omega⟩, by rw [ek 0 (by omega) (by omega)]; exact h.2.1, fun j hj => by rw [ek (10 + j) (by omega) (by omega)]; exact (h.2.2.1 j hj).mono (Nat.le_refl _) (Nat.le_succ _), fun q hq => by rw [ek (20 + q) (by omega) (by omega)]; exact h.2.2.2.1 q hq, fun q hq => ?_⟩
  by_cases e9 : q = i
  · subst e9
    obtain ⟨x1, x2, x3⟩ := h.2.2.2.2 q hq
    refine ⟨by rw [ek (30 + q) (by omega) (by omega)]; exact x1, by rw [mset_s]; exact obT_JT h hn hq, fun j hj => ?_⟩
    rw [mset_n (by omega)]
    by_cases hjn : j < ns
    · exact (ob_sg h hn hq hjn).1
    · rw [obM_out (by omega)]
      exact (x3 j hj).mono (Nat.le_succ _)
  · exact (h.2.2.2.2 q hq).of (Nat.le_refl _) (Nat.le_succ _) (Nat.le_refl _) (ek _ (by omega) (by omega)) (ek _ (by omega) (by omega)) (fun j hj => ek _ (by omega) (by omega))
end TK1
