-- what is observed: what is laid, and what the rows then say
section OB2
variable {e n ns nt nr i j : Nat} {M N : Nat → Nat → Int32} {g h v w t : Nat → Int32} {ar lo : Int32}
theorem mLay_at (N : Nat → Nat → Int32) (ns i : Nat) (ar lo : Int32) {j : Nat} : ∀ m, j < m →
    (bI (cLay N i lo j) = 0 → (mLay N ns i ar lo m).1 9 j = 0) ∧ (¬ bI (cLay N i lo j) = 0 → (mLay N ns i ar lo m).1 8 j = mLayP N ns i ar j ∧ (mLay N ns i ar lo m).1 6 j = mLayX N j ∧ (mLay N ns i ar lo m).1 7 j = mLayY N j ∧ ¬ (mLay N ns i ar lo m).1 9 j = 0)
  | 0, h => absurd h (by omega)
  | m + 1, h => by
    have hp0 : (mLay N ns i ar lo m).1 0 = N 0 := mLay_lo _ _ _ _ _ (Or.inl (by decide)) m
    have hpk : ∀ k, 10 ≤ k → (mLay N ns i ar lo m).1 k = N k := fun k hk => mLay_lo _ _ _ _ _ (Or.inr hk) m
    have ih := fun hjm => mLay_at N ns i ar lo (j := j) m hjm
    rw [mLay_s, cLay_of hp0 hpk m]
    generalize mLay N ns i ar lo m = q at hp0 hpk ih
    by_cases e9 : j = m
    · subst e9
      by_cases c : bI (cLay N i lo j) = 0
      · rw [if_pos c]
        refine ⟨fun _ => ?_, fun q => absurd c q⟩
        show mset q.1 9 (upd (q.1 9) j 0) 9 j = 0
        rw [mset_s, upd_at]
      · rw [if_neg c]
        refine ⟨fun q => absurd q c, fun _ => ⟨?_, ?_, ?_, ?_⟩⟩
        · show mLayS q.1 ns i ar j 8 j = _
          unfold mLayS
          rw [mset_n (by decide), mset_s, upd_at, mLayP_of hp0 hpk]
        · show mLayS q.1 ns i ar j 6 j = _
          unfold mLayS
          rw [mset_n (by decide), mset_n (by decide), mset_n (by decide), mset_s, upd_at, mLayX_of hp0 hpk]
        · show mLayS q.1 ns i ar j 7 j = _
          unfold mLayS
          rw [mset_n (by decide), mset_n (by decide), mset_s, upd_at, mLayY_of hp0 hpk]
        · show ¬ mLayS q.1 ns i ar j 9 j = 0
          unfold mLayS
          rw [mset_s, upd_at]
          unfold mLayW
          split
          · decide
          · split <;> decide
    · have ih1 := ih (by omega)
      by_cases c : bI (cLay N i lo m) = 0
      · rw [if_pos c]
        show (bI (cLay N i lo j) = 0 → mset q.1 9 (upd (q.1 9) m 0) 9 j = 0) ∧ (¬ bI (cLay N i lo j) = 0 → mset q.1 9 (upd (q.1 9) m 0) 8 j = mLayP N ns i ar j ∧ mset q.1 9 (upd (q.1 9) m 0) 6 j = mLayX N j ∧ mset q.1 9 (upd (q.1 9) m 0) 7 j = mLayY N j ∧ ¬ mset q.1 9 (upd (q.1 9) m 0) 9 j = 0)
        rw [mset_s, upd_o e9, mset_n (show 8 ≠ 9 by decide), mset_n (show 6 ≠ 9 by decide), mset_n (show 7 ≠ 9 by decide)]
        exact ih1
      · rw [if_neg c]
        have e6 : mLayS q.1 ns i ar m 6 j = q.1 6 j := by
          unfold mLayS
          rw [mset_n (by decide), mset_n (by decide), mset_n (by decide), mset_s, upd_o e9]
        have e7 : mLayS q.1 ns i ar m 7 j = q.1 7 j := by
          unfold mLayS
          rw [mset_n (by decide), mset_n (by decide), mset_s, upd_o e9]
        have e8 : mLayS q.1 ns i ar m 8 j = q.1 8 j := by
          unfold mLayS
          rw [mset_n (by decide), mset_s, upd_o e9]
        have e9' : mLayS q.1 ns i ar m 9 j = q.1 9 j := by
          unfold mLayS
          rw [mset_s, upd_o e9, upd_o e9]
        show (bI (cLay N i lo j) = 0 → mLayS q.1 ns i ar m 9 j = 0) ∧ (¬ bI (cLay N i lo j) = 0 → mLayS q.1 ns i ar m 8 j = mLayP N ns i ar j ∧ mLayS q.1 ns i ar m 6 j = mLayX N j ∧ mLayS q.1 ns i ar m 7 j = mLayY N j ∧ ¬ mLayS q.1 ns i ar m 9 j = 0)
        rw [e6, e7, e8, e9']
        exact ih1
theorem mUseN_at (L : Nat → Nat → Int32) (ns i : Nat) {j : Nat} : ∀ m, j < m → mUseN L ns i m (60 + 8 * i + j) = if L 9 j = 0 then L (60 + 8 * i + j) else mUseRow L ns i j
  | 0, h => absurd h (by omega)
  | m + 1, h => by
    rw [mUseN_s]
    by_cases e9 : j = m
    · subst e9
      by_cases c : L 9 j = 0
      · rw [if_pos c, if_pos c, mUseN_o L ns i j (by omega)]
      · rw [if_neg c, if_neg c, mset_s]
    · have ih := mUseN_at L ns i (j := j) m (by omega)
      by_cases c : L 9 m = 0
      · rw [if_pos c, ih]
      · rw [if_neg c, mset_n (by omega), ih]
theorem pSgs_in (M : Nat → Nat → Int32) (i n : Nat) (f : Nat → (Nat → Int32) → (Nat → Int32)) (h : j < n) : pSgs M i n f (60 + 8 * i + j) = f j (M (60 + 8 * i + j)) := by
  unfold pSgs
  rw [if_pos (by omega), show 60 + 8 * i + j - (60 + 8 * i) = j by omega]
theorem pSgs_out (M : Nat → Nat → Int32) (i n : Nat) (f : Nat → (Nat → Int32) → (Nat → Int32)) {k : Nat} (h : k < 60 + 8 * i ∨ 60 + 8 * i + n ≤ k) : pSgs M i n f k = M k := by
  unfold pSgs
  rw [if_neg (by omega)]
theorem pOf_out (M : Nat → Nat → Int32) (i n : Nat) {k : Nat} (h : k < 60 + 8 * i ∨ 60 + 8 * i + n ≤ k) : pOf M i n k = M k := by
  unfold pOf
  split
  · exact pSgs_out _ _ _ _ h
  · rw [pSgs_out _ _ _ _ h, pSgs_out _ _ _ _ h]
theorem obM_out (M : Nat → Nat → Int32) (ns nr i : Nat) {k : Nat} (h : k < 60 + 8 * i ∨ 60 + 8 * i + ns ≤ k) : obM M ns nr i k = M k := by
  unfold obM pGM pMs
  rw [pOf_out _ _ _ h, pSgs_out _ _ _ _ h, pSgs_out _ _ _ _ h]
theorem mObsP_out (N : Nat → Nat → Int32) (ns i : Nat) {k : Nat} (h : k < 60 + 8 * i ∨ 60 + 8 * i + ns ≤ k) : mObsP N ns i k = N k := mSeeN_o N i _ ns h
theorem Rel.ref (h : Rel e n ns nt nr M N) : mRef N := by
  have hL := h.1.1.2.2
  refine ⟨fun u hu => ?_, fun q u hq hu c => ?_⟩
  · by_cases hun : u < nr
    · obtain ⟨⟨⟨-, -, -, -, -, -, -, -, -, w9⟩, -⟩, ⟨-, -, v2, -⟩, -⟩ := h.2.2.2.2.2.1 u hun
      rw [w9]
      rcases v2 with v2 | ⟨q, hq, -, v2⟩
      · exact Or.inl v2
      · exact Or.inr ⟨q, by omega, v2⟩
    · exact Or.inr ⟨0, by decide, by rw [(h.2.2.2.2.2.2 u (by omega) hu).1 9, nI_0]⟩
  · by_cases hqn : q < nr
    · obtain ⟨-, -, -, hg, -, hof⟩ := h.2.2.2.2.2.1 q hqn
      rw [(hg u hu).1.2.2.1] at c
      exact (hof u hu c).2
    · exact absurd ((h.2.2.2.2.2.2 q (by omega) hq).2 u hu 6) c
theorem Rel.own (h : Rel e n ns nt nr M N) (hi : i < nr) : ¬ M (30 + i) 12 = nI i ∧ ¬ N (40 + i) 9 = nI i := by
  have hL := h.1.1.2.2
  obtain ⟨⟨⟨-, -, -, -, -, -, -, -, -, w9⟩, -⟩, ⟨-, -, v2, -⟩, -⟩ := h.2.2.2.2.2.1 i hi
  have : ¬ M (30 + i) 12 = nI i := fun q9 => by
    rcases v2 with v2 | ⟨q, hq, hqi, v2⟩
    · rw [v2] at q9
      exact nI_m1 (q := i) (by omega) q9.symm
    · rw [v2] at q9
      exact hqi ((nI_eq (by omega) (by omega)).mp q9)
  exact ⟨this, by rw [w9]; exact this⟩
theorem eCorrP (h : Rel e n ns nt nr M N) (hi : i < nr) (hj : j < 8) : mCorr (mObsP N ns i) ns i j = pCorr M nr i j ∧ pCorr (pMs M i ns) nr i j = pCorr M nr i j := by
  have h8 := h.1.1.1
  have h3 := h.1.1.2.2
  refine ⟨?_, ?_⟩
  · rw [mCorr_ow (N := N) h8 (by omega) hj (by rw [mObsP_out N ns i (Or.inl (by omega))]) (fun k _ hk => mObsP_out N ns i (by omega)) (mRfI_of (by omega) h.ref (h.own hi).2)]
    exact (eCorr h hi hj).1
  · exact pCorr_sgs (M := M) (by omega) (by omega) (fun k hk => pSgs_lo _ _ _ _ hk) (fun r hr => pSgs_ne _ _ _ _ hr h8 hj) (h.own hi).1
/-- whose measured range is laid -/
theorem eCond (h : Rel e n ns nt nr M N) (hn : n < 512) (hi : i < nr) (hj : j < ns) : (bI (cLay (mObsP N ns i) i (-1) j) = 0 ↔ bI (cGM (pMs M i ns) i j) = 0) := by
  have h8 := h.1.1.1
  have h3 := h.1.1.2.2
  have he := h.1.2.1
  have hs := h.2.2.1 j hj
  obtain ⟨-, -, hs3, -⟩ := eSigh h hn hi hj
  unfold cLay cGM
  rw [if_neg (nI_m1 (by omega)), mObsP_out N ns i (k := 0) (by omega), mObsP_out N ns i (k := 20 + j) (by omega), mObsP_out N ns i (k := 10 + j) (by omega), mObsP_out N ns i (k := 40 + i) (by omega)]
  unfold pMs
  rw [pSgs_in _ _ _ _ hj, pSgs_lo _ _ _ _ (show 10 + j < 60 by omega), pSgs_lo _ _ _ _ (show 0 < 60 by omega), h.2.1.2.1, h.2.1.1, eHolds hs.1 hs.2 (by omega)]
  by_cases c1 : bI (pHolds (M (10 + j)) (nI e)) = 0
  · rw [if_pos c1]
    refine ⟨fun _ => ?_, fun _ => rfl⟩
    split
    · rfl
    · rfl
  · rw [if_neg c1, if_neg c1]
    by_cases c2 : bI (mSees (N (40 + i)) (N (10 + j)) 0) = 0
    · rw [if_pos c2, if_pos (hs3.mp c2)]
    · rw [if_neg c2, if_neg (fun q => c2 (hs3.mpr q))]
theorem cGM_in (h : ¬ bI (cGM M i j) = 0) : ¬ M (60 + 8 * i + j) 0 = 0 ∧ ¬ bI (pHolds (M (10 + j)) (M 0 0)) = 0 := by
  unfold cGM at h
  by_cases c1 : M (60 + 8 * i + j) 0 = 0
  · rw [if_pos c1] at h; exact absurd rfl h
  · rw [if_neg c1] at h
    refine ⟨c1, fun c2 => ?_⟩
    rw [if_pos c2] at h
    exact absurd rfl h
theorem eObsLay (h : Rel e n ns nt nr M N) (hn : n < 512) (hi : i < nr) (F : Nat → Nat → Int32) : (pGMl (pMs M i ns) nr i F ns).1 = wC (mObsL N ns i).1 ns ∧ Cmp (pGMl (pMs M i ns) nr i F ns).2 (mObsL N ns i).1 ns ∧ BQ (mObsL N ns i).1 ns ∧
    (∀ j, j < ns → ¬ bI (cGM (pMs M i ns) i j) = 0 → mLayX (mObsP N ns i) j = pTX (M (10 + j)) (M 0 0) ∧ mLayY (mObsP N ns i) j = pTY (M (10 + j)) (M 0 0) ∧ mLayP (mObsP N ns i) ns i 1 j = pMeas (fMs M i j (M (60 + 8 * i + j))) - pCorr M nr i j - pTC (M (10 + j)) (M 0 0)) := by
  have h8 := h.1.1.1
  have h3 := h.1.1.2.2
  have he := h.1.2.1
  have key : ∀ j, j < ns → ¬ bI (cGM (pMs M i ns) i j) = 0 → mLayX (mObsP N ns i) j = pTX (M (10 + j)) (M 0 0) ∧ mLayY (mObsP N ns i) j = pTY (M (10 + j)) (M 0 0) ∧ mLayP (mObsP N ns i) ns i 1 j = pMeas (fMs M i j (M (60 + 8 * i + j))) - pCorr M nr i j - pTC (M (10 + j)) (M 0 0) ∧ mLayW (mObsP N ns i) i 1 j = pUseW (M (10 + j)) (M 0 0) (fMs M i j (M (60 + 8 * i + j)) 1) ∧ Bd (pMeas (fMs M i j (M (60 + 8 * i + j)))) 299980 ∧ Bd (pTC (M (10 + j)) (M 0 0)) 1116 := by
    intro j hj hu
    have hs := h.2.2.1 j hj
    obtain ⟨u1, u2⟩ := cGM_in hu
    unfold pMs at u1 u2
    rw [pSgs_in _ _ _ _ hj] at u1
    rw [pSgs_lo _ _ _ _ (show 10 + j < 60 by omega), pSgs_lo _ _ _ _ (show 0 < 60 by omega), h.2.1.1] at u2
    obtain ⟨s1, -, -, s4⟩ := eSigh h hn hi hj
    obtain ⟨s5, s6⟩ := s4 u1
    have o0 : mObsP N ns i 0 = N 0 := mObsP_out N ns i (k := 0) (by omega)
    have o1 : mObsP N ns i (10 + j) = N (10 + j) := mObsP_out N ns i (k := 10 + j) (by omega)
    have o2 : mObsP N ns i (20 + j) = N (20 + j) := mObsP_out N ns i (k := 20 + j) (by omega)
    have o4 : mObsP N ns i (40 + i) = N (40 + i) := mObsP_out N ns i (k := 40 + i) (by omega)
    have o6 : mObsP N ns i (60 + 8 * i + j) = mSee N i j (mNx (N (40 + i)) (N 0 1)) := mSeeN_at N i _ ns hj (by omega) (by omega)
    have ex : mLayX (mObsP N ns i) j = pTX (M (10 + j)) (M 0 0) := by
      unfold mLayX
      rw [o0, o1, o2, eTX hs.1, h.2.1.2.1, h.2.1.1]
    have ey : mLayY (mObsP N ns i) j = pTY (M (10 + j)) (M 0 0) := by
      unfold mLayY
      rw [o0, o1, o2, eTY hs.1, h.2.1.2.1, h.2.1.1]
    refine ⟨ex, ey, ?_, ?_, s6, by rw [h.2.1.1]; exact bTC hs.2 (by omega) u2⟩
    · unfold mLayP mFixd
      rw [o0, o1, o2, o4, o6, if_neg (show ¬ (1 : Int32) = 0 by decide), (eCorrP h hi (by omega)).1, eTO hs.1, i_sw, h.2.1.1, s5, h.2.1.2.1]
      by_cases c : mSee N i j (mNx (N (40 + i)) (nI e)) 5 = 1
      · rw [if_pos c, if_pos c, if_pos rfl]
      · rw [if_neg c, if_neg c]
        rfl
    · unfold mLayW mFixd pUseW
      rw [o6, if_neg (show ¬ (1 : Int32) = 0 by decide), s1.1.2.1, ex, ey]
      rcases s1.2.2.1 with z | z
      · rw [z, if_neg (show ¬ (0 : Int32) = 1 by decide), if_neg (show ¬ (false = true) by decide), if_pos (rfl : (0 : Int32) = 0)]
      · rw [z, if_pos (rfl : (1 : Int32) = 1), if_pos (rfl : true = true), if_neg (show ¬ (1 : Int32) = 0 by decide)]
  have hL : Lays (pGMl (pMs M i ns) nr i F) (cGM (pMs M i ns) i) (fun j => pMs M i ns (10 + j)) (pMs M i ns 0 0) (fun j => pMeas (pMs M i ns (60 + 8 * i + j)) - pCorr (pMs M i ns) nr i j) (fun j => pMs M i ns (60 + 8 * i + j) 1) ns := ⟨congrArg Prod.fst (pGMl_0 _ _ _ _), fun j _ => pGMl_s _ _ _ _ j⟩
  obtain ⟨a1, a2, a3⟩ := eLay (N := mObsP N ns i) (lo := -1) (ar := 1) hL (fun j hj => eCond h hn hi hj) (fun j hj hu => by
    obtain ⟨k1, k2, k3, k4, k5, k6⟩ := key j hj hu
    have hs := h.2.2.1 j hj
    have q1 : pMs M i ns (10 + j) = M (10 + j) := pSgs_lo _ _ _ _ (by omega)
    have q0 : pMs M i ns 0 = M 0 := pSgs_lo _ _ _ _ (by omega)
    have q6 : pMs M i ns (60 + 8 * i + j) = fMs M i j (M (60 + 8 * i + j)) := pSgs_in _ _ _ _ hj
    show mLayX (mObsP N ns i) j = pTX (pMs M i ns (10 + j)) (pMs M i ns 0 0) ∧ mLayY (mObsP N ns i) j = pTY (pMs M i ns (10 + j)) (pMs M i ns 0 0) ∧ mLayP (mObsP N ns i) ns i 1 j = pMeas (pMs M i ns (60 + 8 * i + j)) - pCorr (pMs M i ns) nr i j - pTC (pMs M i ns (10 + j)) (pMs M i ns 0 0) ∧ mLayW (mObsP N ns i) i 1 j = pUseW (pMs M i ns (10 + j)) (pMs M i ns 0 0) (pMs M i ns (60 + 8 * i + j) 1) ∧ Bd (pTX (pMs M i ns (10 + j)) (pMs M i ns 0 0)) 100000 ∧ Bd (pTY (pMs M i ns (10 + j)) (pMs M i ns 0 0)) 100000 ∧ Bd (pMeas (pMs M i ns (60 + 8 * i + j)) - pCorr (pMs M i ns) nr i j - pTC (pMs M i ns (10 + j)) (pMs M i ns 0 0)) 3400000
    rw [q1, q0, q6, (eCorrP h hi (by omega)).2]
    exact ⟨k1, k2, k3, k4, (bTX hs.2.2.2.2.1 _).mono (by decide), (bTY hs.2.2.2.2.1 _).mono (by decide), (Bd.sub (Bd.sub k5 (eCorr h hi (by omega)).2 (by decide)) k6 (by decide)).mono (by decide)⟩) ns (Nat.le_refl _)
  exact ⟨a1, a2, a3, fun j hj hu => ⟨(key j hj hu).1, (key j hj hu).2.1, (key j hj hu).2.2.1⟩⟩
end OB2
