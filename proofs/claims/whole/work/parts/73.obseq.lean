-- what is observed: the same in both worlds
section OB1
variable {e n ns nt nr i j : Nat} {M N : Nat → Nat → Int32} {g h v w t : Nat → Int32}
theorem mIs_io (x lo hi : Int32) : bI (mIs x lo hi) = 0 ↔ ¬ bI (pOut x lo hi) = 0 := by
  unfold mIs pOut
  by_cases c1 : x < lo
  · rw [if_pos c1, if_pos c1]; decide
  · rw [if_neg c1, if_neg c1]
    by_cases c2 : hi < x
    · rw [if_pos c2, if_neg (Int32.not_le.mpr c2)]; decide
    · rw [if_neg c2, if_pos (Int32.not_lt.mp c2)]; decide
theorem nI_m1 {q : Nat} (hq : q < 2 ^ 31) : ¬ nI q = -1 := fun e9 => by
  have := nI_pos hq
  rw [e9] at this
  exact this (by decide)
theorem VTr.pos (hv : VTr e n t) (hn : n < 2 ^ 31) (h : ¬ t 0 = 0) : ¬ t 0 ≤ 0 := by
  obtain ⟨⟨k, hk, ek⟩, -⟩ := hv
  rw [ek] at h ⊢
  have : 0 < k := by
    rcases Nat.eq_zero_or_pos k with z | z
    · exact absurd (by rw [z]; rfl) h
    · exact z
  exact nI_nle this (by omega)
theorem eNx (hv : VTr e n t) (hw : w 10 = t 1) (he : e < 2 ^ 31) (hn : n < 2 ^ 31) : mNx w (nI e) = bI (pObsIn t (nI e - 1)) := by
  unfold mNx pObsIn
  rw [hw]
  rcases hv.2.1 with ⟨t0, t1⟩ | ⟨t0, p, hp, t1⟩
  · rw [t1, if_pos rfl, t0, if_pos (show (0 : Int32) ≤ 0 by decide)]
    rfl
  · rw [if_neg (hv.pos hn t0), t1, if_neg (nI_m1 (by omega))]
    split <;> rfl
theorem eObsIn (hv : VTr e n t) (hw : w 10 = t 1) (he : e < 2 ^ 31) (hn : n < 2 ^ 31) : (w 10 = nI e) ↔ ¬ bI (pObsIn t (nI e)) = 0 := by
  unfold pObsIn
  rw [hw]
  rcases hv.2.1 with ⟨t0, t1⟩ | ⟨t0, p, hp, t1⟩
  · rw [t1, t0, if_pos (show (0 : Int32) ≤ 0 by decide)]
    exact ⟨fun q => absurd q.symm (nI_m1 he), fun q => absurd rfl q⟩
  · rw [if_neg (hv.pos hn t0)]
    by_cases c : t 1 = nI e
    · rw [if_pos c]; exact ⟨fun _ => by decide, fun _ => c⟩
    · rw [if_neg c]; exact ⟨fun q => absurd q c, fun q => absurd rfl q⟩
theorem eKobs {x : Int32} (h : Rel e n ns nt nr M N) : kObsM N nr x = kObs M nr x := by
  have hL := h.1.1.2.2
  have he := h.1.2.1
  have hn := h.1.2.2
  unfold kObsM kObs
  by_cases c : bI (pOut x 0 (nI nr - 1)) = 0
  · rw [if_pos c, if_pos c]
    obtain ⟨q, hq, rfl⟩ := pOut_f (by omega) c
    rw [nI_clamp (by omega), h.2.1.1, h.2.1.2.1]
    have hr := h.2.2.2.2.2.1 q hq
    have := eObsIn hr.2.2.1 hr.1.2.1 (show e < 2 ^ 31 by omega) (by omega)
    by_cases c2 : bI (pObsIn (M (50 + q)) (nI e)) = 0
    · rw [if_pos c2, if_neg (fun w => this.mp w c2)]
    · rw [if_neg c2, if_pos (this.mpr c2)]
  · rw [if_neg c, if_neg c]
theorem RSg_mk0 {m a b : Nat} {cd wv ct lf kp st fx fx' kp' : Int32} (h1 : 1 ≤ a) (h2 : a ≤ m) (h3 : b ≤ m) (ek : kp = kp') (ef : fx = fx') (f01 : fx' = 0 ∨ fx' = 1) (e1 : kp' = nI a) (e3 : st = nI b)
    (k1 : 1 ≤ b ↔ In2 lf) (k2 : 2 ≤ b ↔ 2 ≤ a ∧ In2 lf ∧ In2 (h 3)) :
    RSg m (upd (upd (upd (upd (upd (upd (upd (upd (gForget g) 0 1) 3 cd) 4 wv) 5 ct) 6 lf) 7 kp') 8 st) 1 fx') (upd (upd (upd (upd (upd (upd (upd (upd (upd (upd (upd (upd h 11 1) 5 0) 6 0) 7 0) 9 (h 8)) 8 (h 3)) 4 kp) 0 cd) 1 wv) 2 ct) 3 lf) 5 fx) := by
  subst ek ef
  exact ⟨⟨rfl, rfl, rfl, rfl⟩, Or.inr rfl, f01, Or.inl rfl, fun q => absurd q (show ¬ (1 : Int32) = 0 by decide), fun _ => ⟨⟨rfl, rfl, rfl, rfl, rfl⟩, a, b, h1, h2, h3, e1, e3, k1, k2⟩, show Bd 0 3000000 from Bd0 _⟩
/-- a sight taken anew -/
theorem RSg_mk {m a b : Nat} {code wave n1 : Int32} (h1 : 1 ≤ a) (h2 : a ≤ m) (h3 : b ≤ m) (hm : m < 2 ^ 31) (e1 : gKept (gGo n1 g) g = nI a) (e2 : mKp h n1 = nI a) (e3 : gStdy (gGo n1 g) g (gLeft code wave) = nI b)
    (k1 : 1 ≤ b ↔ In2 (gLeft code wave)) (k2 : 2 ≤ b ↔ 2 ≤ a ∧ In2 (gLeft code wave) ∧ In2 (h 3)) (k3 : 3 ≤ a → (3 ≤ b ↔ In2 (gLeft code wave) ∧ In2 (h 3) ∧ In2 (h 8))) : RSg m (gTake g code wave n1) (mSeeT h n1 code wave) := by
  have ef : mFx (mKp h n1) (mLf code wave) (h 3) (h 8) = gFix (gKept (gGo n1 g) g) (gStdy (gGo n1 g) g (gLeft code wave)) := by
    rw [e1, e2, e3]
    unfold mFx gFix
    have ha3 : nI a < 3 ↔ a < 3 := nI_ltI (b := 3) (by omega) (by decide)
    have hb3 : nI b < 3 ↔ b < 3 := nI_ltI (b := 3) (by omega) (by decide)
    have el : mLf code wave = gLeft code wave := rfl
    rw [el]
    by_cases c : a < 3
    · rw [if_pos (ha3.mpr c), if_pos (ha3.mpr c)]
    · rw [if_neg (fun q => c (ha3.mp q)), if_neg (fun q => c (ha3.mp q))]
      have k := k3 (by omega)
      by_cases c1 : bI (mIs (gLeft code wave) (-2) 2) = 0
      · have n1 : ¬ In2 (gLeft code wave) := (mIs_io _ _ _).mp c1
        rw [if_pos c1, if_pos (hb3.mpr (Nat.lt_of_not_le (fun q => n1 (k.mp q).1)))]
      · have p1 : In2 (gLeft code wave) := Classical.byContradiction fun q => c1 ((mIs_io _ _ _).mpr q)
        rw [if_neg c1]
        by_cases c2 : bI (mIs (h 3) (-2) 2) = 0
        · have n1 : ¬ In2 (h 3) := (mIs_io _ _ _).mp c2
          rw [if_pos c2, if_pos (hb3.mpr (Nat.lt_of_not_le (fun q => n1 (k.mp q).2.1)))]
        · have p2 : In2 (h 3) := Classical.byContradiction fun q => c2 ((mIs_io _ _ _).mpr q)
          rw [if_neg c2]
          by_cases c3 : bI (mIs (h 8) (-2) 2) = 0
          · have n1 : ¬ In2 (h 8) := (mIs_io _ _ _).mp c3
            rw [if_pos c3, if_pos (hb3.mpr (Nat.lt_of_not_le (fun q => n1 (k.mp q).2.2)))]
          · have p3 : In2 (h 8) := Classical.byContradiction fun q => c3 ((mIs_io _ _ _).mpr q)
            have := k.mpr ⟨p1, p2, p3⟩
            rw [if_neg c3, if_neg (fun q => by have := hb3.mp q; omega)]
  have hf01 : gFix (gKept (gGo n1 g) g) (gStdy (gGo n1 g) g (gLeft code wave)) = 0 ∨ gFix (gKept (gGo n1 g) g) (gStdy (gGo n1 g) g (gLeft code wave)) = 1 := by
    unfold gFix
    split
    · exact Or.inl rfl
    · split
      · exact Or.inl rfl
      · exact Or.inr rfl
  unfold gTake mSeeT
  exact RSg_mk0 h1 h2 h3 (e2.trans e1.symm) ef hf01 e1 e3 k1 k2
theorem RSg_take (hr : RSg n g h) (hn : n + 1 < 2 ^ 31) (code wave : Int32) (b1 : Bool) : RSg (n + 1) (gTake g code wave (bI b1)) (mSeeT h (bI b1) code wave) := by
  obtain ⟨⟨r1, r2, r3, r4⟩, f0, f1, f2, hz, ho, hb⟩ := hr
  by_cases c : b1 = true ∧ g 0 = 1
  · obtain ⟨rfl, g0⟩ := c
    obtain ⟨⟨s1, s2, s3, s4, s5⟩, a, b, h1, h2, h3, ea, eb, k1, k2⟩ := ho g0
    have eg : gGo (bI true) g = true := by
      unfold gGo
      rw [if_neg (by decide), g0, if_neg (by decide)]
    have e1 : gKept (gGo (bI true) g) g = nI (a + 1) := by
      unfold gKept
      rw [eg, if_neg (by decide), ea, nI_1]
    have e2 : mKp h (bI true) = nI (a + 1) := by
      unfold mKp
      rw [if_neg (by decide), r1, g0, if_pos rfl, s5, ea, nI_1]
    by_cases c1 : In2 (gLeft code wave)
    · have e3 : gStdy (gGo (bI true) g) g (gLeft code wave) = nI (b + 1) := by
        unfold gStdy
        rw [if_pos (show bI (pOut (gLeft code wave) (-2) 2) = 0 from c1), eg, if_neg (by decide), eb, nI_1]
      rw [← s4] at k1 k2
      refine RSg_mk (a := a + 1) (b := b + 1) (by omega) (by omega) (by omega) hn e1 e2 e3 ⟨fun _ => c1, fun _ => by omega⟩ ⟨fun q => ⟨by omega, c1, k1.mp (by omega)⟩, fun q => by have := k1.mpr q.2.2; omega⟩ (fun h3a => ⟨fun q => ?_, fun q => ?_⟩)
      · have := k2.mp (by omega)
        exact ⟨c1, this.2⟩
      · have := k2.mpr ⟨by omega, q.2⟩
        omega
    · have e3 : gStdy (gGo (bI true) g) g (gLeft code wave) = nI 0 := by
        unfold gStdy
        rw [if_neg (show ¬ bI (pOut (gLeft code wave) (-2) 2) = 0 from c1)]
        rfl
      exact RSg_mk (a := a + 1) (b := 0) (by omega) (by omega) (by omega) hn e1 e2 e3 ⟨fun q => absurd q (by omega), fun q => absurd q c1⟩ ⟨fun q => absurd q (by omega), fun q => absurd q.2.1 c1⟩ (fun _ => ⟨fun q => absurd q (by omega), fun q => absurd q.1 c1⟩)
  · have eg : gGo (bI b1) g = false := by
      unfold gGo
      cases b1
      · rw [if_pos (show bI false = 0 from rfl)]
      · rw [if_neg (by decide)]
        rcases f0 with z | z
        · rw [if_pos z]
        · exact absurd ⟨rfl, z⟩ c
    have e1 : gKept (gGo (bI b1) g) g = nI 1 := by
      unfold gKept
      rw [eg, if_pos (by decide)]
      rfl
    have e2 : mKp h (bI b1) = nI 1 := by
      unfold mKp
      cases b1
      · rw [if_pos (show bI false = 0 from rfl)]; rfl
      · rw [if_neg (by decide), r1]
        rcases f0 with z | z
        · rw [z, if_neg (by decide)]; rfl
        · exact absurd ⟨rfl, z⟩ c
    by_cases c1 : In2 (gLeft code wave)
    · have e3 : gStdy (gGo (bI b1) g) g (gLeft code wave) = nI 1 := by
        unfold gStdy
        rw [if_pos (show bI (pOut (gLeft code wave) (-2) 2) = 0 from c1), eg, if_pos (by decide)]
        rfl
      exact RSg_mk (a := 1) (b := 1) (by omega) (by omega) (by omega) hn e1 e2 e3 ⟨fun _ => c1, fun _ => by omega⟩ ⟨fun q => absurd q (by omega), fun q => absurd q.1 (by omega)⟩ (fun h3 => absurd h3 (by omega))
    · have e3 : gStdy (gGo (bI b1) g) g (gLeft code wave) = nI 0 := by
        unfold gStdy
        rw [if_neg (show ¬ bI (pOut (gLeft code wave) (-2) 2) = 0 from c1)]
        rfl
      exact RSg_mk (a := 1) (b := 0) (by omega) (by omega) (by omega) hn e1 e2 e3 ⟨fun q => absurd q (by omega), fun q => absurd q c1⟩ ⟨fun q => absurd q (by omega), fun q => absurd q.2.1 c1⟩ (fun _ => ⟨fun q => absurd q (by omega), fun q => absurd q.1 c1⟩)
theorem RSg_lose : RSg n (gLose g) (upd (upd (upd (upd h 11 0) 5 0) 6 0) 7 0) :=
  ⟨⟨rfl, rfl, rfl, rfl⟩, Or.inl rfl, Or.inl rfl, Or.inl rfl, fun _ => ⟨rfl, rfl⟩, fun q => absurd q (show ¬ (0 : Int32) = 1 by decide), show Bd 0 3000000 from Bd0 _⟩
theorem RSg_use {x y z c : Int32} (hr : RSg n g h) (h0 : g 0 = 1) (hx : Bd x 3000000) : RSg n (upd (upd (upd (upd g 2 1) 9 c) 10 y) 10 x) (upd (upd (upd h 6 1) 7 c) 10 z) := by
  obtain ⟨⟨r1, r2, r3, r4⟩, f0, f1, f2, hz, ho, hb⟩ := hr
  obtain ⟨s, a, b, h1⟩ := ho h0
  exact ⟨⟨r1, r2, rfl, rfl⟩, f0, f1, Or.inr rfl, fun q => absurd (q.symm.trans h0) (show ¬ (0 : Int32) = 1 by decide), fun _ => ⟨s, a, b, h1⟩, hx⟩
theorem upd_o {f : Nat → Int32} {a b : Nat} {x : Int32} (h : b ≠ a) : upd f a x b = f b := by unfold upd; rw [if_neg h]
theorem gT_0 {cd wv n1 : Int32} : gTake g cd wv n1 0 = 1 := by
  unfold gTake
  rw [upd_o (show 0 ≠ 1 by decide), upd_o (show 0 ≠ 8 by decide), upd_o (show 0 ≠ 7 by decide), upd_o (show 0 ≠ 6 by decide), upd_o (show 0 ≠ 5 by decide), upd_o (show 0 ≠ 4 by decide), upd_o (show 0 ≠ 3 by decide), upd_at]
theorem gT_2 {cd wv n1 : Int32} : gTake g cd wv n1 2 = 0 := by
  unfold gTake gForget
  rw [upd_o (show 2 ≠ 1 by decide), upd_o (show 2 ≠ 8 by decide), upd_o (show 2 ≠ 7 by decide), upd_o (show 2 ≠ 6 by decide), upd_o (show 2 ≠ 5 by decide), upd_o (show 2 ≠ 4 by decide), upd_o (show 2 ≠ 3 by decide), upd_o (show 2 ≠ 0 by decide), upd_o (show 2 ≠ 10 by decide), upd_o (show 2 ≠ 9 by decide), upd_at]
theorem gT_3 {cd wv n1 : Int32} : gTake g cd wv n1 3 = cd := by
  unfold gTake
  rw [upd_o (show 3 ≠ 1 by decide), upd_o (show 3 ≠ 8 by decide), upd_o (show 3 ≠ 7 by decide), upd_o (show 3 ≠ 6 by decide), upd_o (show 3 ≠ 5 by decide), upd_o (show 3 ≠ 4 by decide), upd_at]
theorem gT_4 {cd wv n1 : Int32} : gTake g cd wv n1 4 = wv := by
  unfold gTake
  rw [upd_o (show 4 ≠ 1 by decide), upd_o (show 4 ≠ 8 by decide), upd_o (show 4 ≠ 7 by decide), upd_o (show 4 ≠ 6 by decide), upd_o (show 4 ≠ 5 by decide), upd_at]
theorem gT_5 {cd wv n1 : Int32} : gTake g cd wv n1 5 = gCnt cd wv := by
  unfold gTake
  rw [upd_o (show 5 ≠ 1 by decide), upd_o (show 5 ≠ 8 by decide), upd_o (show 5 ≠ 7 by decide), upd_o (show 5 ≠ 6 by decide), upd_at]
theorem mST_1 {cd wv n1 : Int32} : mSeeT h n1 cd wv 1 = wv := by
  unfold mSeeT
  rw [upd_o (show 1 ≠ 5 by decide), upd_o (show 1 ≠ 3 by decide), upd_o (show 1 ≠ 2 by decide), upd_at]
theorem mST_2 {cd wv n1 : Int32} : mSeeT h n1 cd wv 2 = gCnt cd wv := by
  unfold mSeeT
  rw [upd_o (show 2 ≠ 5 by decide), upd_o (show 2 ≠ 3 by decide), upd_at]
  rfl
/-- what a receiver sees of a star -/
theorem eSigh (h : Rel e n ns nt nr M N) (hn : n < 512) (hi : i < nr) (hj : j < ns) :
    RSg (n + 1) (fMs M i j (M (60 + 8 * i + j))) (mSee N i j (mNx (N (40 + i)) (N 0 1))) ∧ fMs M i j (M (60 + 8 * i + j)) 2 = 0 ∧
    (bI (mSees (N (40 + i)) (N (10 + j)) 0) = 0 ↔ fMs M i j (M (60 + 8 * i + j)) 0 = 0) ∧
    (¬ fMs M i j (M (60 + 8 * i + j)) 0 = 0 → pMeas (fMs M i j (M (60 + 8 * i + j))) = (if mSee N i j (mNx (N (40 + i)) (N 0 1)) 5 = 1 then mSee N i j (mNx (N (40 + i)) (N 0 1)) 1 + 10 * mSee N i j (mNx (N (40 + i)) (N 0 1)) 2 else mCode (N 0 1) (N (40 + i)) (N (10 + j)) i j) ∧ Bd (pMeas (fMs M i j (M (60 + 8 * i + j)))) 299980) := by
  have h8 := h.1.1.1
  have he := h.1.2.1
  have hs := h.2.2.1 j hj
  have hr := h.2.2.2.2.2.1 i hi
  have hg := hr.2.2.2.1 j (by omega)
  rw [h.2.1.2.1, eNx hr.2.2.1 hr.1.2.1 (by omega) (by omega)]
  unfold mSee fMs
  rw [eSees hs.1 hs.2.1 hr.1, h.2.1.2.1, h.2.1.1, eCode hs.1 hr.1 hr.2.1.2.1 hr.2.1.1, eTrue hs.1 hr.1]
  by_cases c : bI (pSee (M (30 + i)) (M (10 + j)) 0) = 0
  · rw [if_pos c, if_pos c]
    exact ⟨RSg_lose, rfl, ⟨fun _ => rfl, fun _ => c⟩, fun q => absurd rfl q⟩
  · rw [if_neg c, if_neg c]
    have hT := RSg_take hg (show n + 1 < 2 ^ 31 by omega) (pCode (nI e) (M (30 + i)) (M (10 + j)) j) (pFMod (pTrue (M (30 + i)) (M (10 + j))) 10) (pObsIn (M (50 + i)) (nI e - 1))
    have b1 : Bd (pCode (nI e) (M (30 + i)) (M (10 + j)) j) 29970 := bCode hs.2 hr.2.1 _ _
    have b2 : Bd (pFMod (pTrue (M (30 + i)) (M (10 + j))) 10) 20 := Bd.fmod (K := 10) (by decide) (by decide) (by decide)
    generalize pCode (nI e) (M (30 + i)) (M (10 + j)) j = code at hT b1 ⊢
    generalize pFMod (pTrue (M (30 + i)) (M (10 + j))) 10 = wave at hT b2 ⊢
    refine ⟨hT, gT_2, ⟨fun q => absurd q c, fun q => absurd (gT_0.symm.trans q) (show ¬ (1 : Int32) = 0 by decide)⟩, fun _ => ⟨?_, ?_⟩⟩
    · have e5 := hT.1.2.1
      have f1 := hT.2.2.1
      rw [e5]
      unfold pMeas
      rw [gT_3, gT_4, gT_5, mST_1, mST_2]
      rcases f1 with z | z
      · rw [z, if_pos rfl, if_neg (by decide)]
      · rw [z, if_neg (by decide), if_pos rfl]
    · unfold pMeas
      rw [gT_3, gT_4, gT_5]
      split
      · exact b1.mono (by decide)
      · have b4 : Bd (gCnt code wave) 29996 := (Bd.fdiv ((Bd.add (Bd.sub b1 b2 (by decide)) (show Bd 5 5 by unfold Bd; decide) (by decide)).mono (K' := 29995) (by decide)) (by decide) (by decide)).mono (by decide)
        exact (Bd.add b2 (Bd.mul (show Bd 10 10 by unfold Bd; decide) b4 (by decide)) (by decide)).mono (by decide)
end OB1
