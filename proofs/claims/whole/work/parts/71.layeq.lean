-- what is laid on both sides is the same
section LE1
variable {F L L' : Nat → Nat → Int32} {j : Nat}
theorem pPut_0 {n q : Nat} {x y p w : Int32} : pPut F n x y p w 0 q = if q = n then x else F 0 q := rfl
theorem pPut_1 {n q : Nat} {x y p w : Int32} : pPut F n x y p w 1 q = if q = n then y else F 1 q := rfl
theorem pPut_2 {n q : Nat} {x y p w : Int32} : pPut F n x y p w 2 q = if q = n then p else F 2 q := rfl
theorem pPut_3 {n q : Nat} {x y p w : Int32} : pPut F n x y p w 3 q = if q = n then w else F 3 q := rfl
theorem Cmp_skip (h : Cmp F L j) (h6 : L' 6 = L 6) (h7 : L' 7 = L 7) (h8 : L' 8 = L 8) (h9 : L' 9 = upd (L 9) j 0) : Cmp F L' (j + 1) ∧ wC L' (j + 1) = wC L j := by
  have e9 : ∀ q, q < j → L' 9 q = L 9 q := fun q hq => by rw [h9]; exact if_neg (by omega)
  have ew : ∀ q, q ≤ j → wC L' q = wC L q := fun q hq => wC_eq (fun u hu => e9 u (by omega))
  refine ⟨fun q hq hu => ?_, ?_⟩
  · by_cases e : q = j
    · subst e
      rw [h9, upd_at] at hu
      exact absurd rfl hu
    · have hq2 : q < j := by omega
      rw [e9 q hq2] at hu ⊢
      rw [ew q (by omega), h6, h7, h8]
      exact h q hq2 hu
  · rw [wC_s, h9, upd_at, if_pos rfl, Nat.add_zero, ew j (Nat.le_refl _)]
theorem Cmp_put {x y p w : Int32} (h : Cmp F L j) (h6 : L' 6 = upd (L 6) j x) (h7 : L' 7 = upd (L 7) j y) (h8 : L' 8 = upd (L 8) j p) (h9 : L' 9 = upd (upd (L 9) j 0) j w) (hw : ¬ w = 0) : Cmp (pPut F (wC L j) x y p w) L' (j + 1) ∧ wC L' (j + 1) = wC L j + 1 := by
  rw [upd_upd] at h9
  have e9 : ∀ q, q < j → L' 9 q = L 9 q := fun q hq => by rw [h9]; exact if_neg (by omega)
  have ew : ∀ q, q ≤ j → wC L' q = wC L q := fun q hq => wC_eq (fun u hu => e9 u (by omega))
  refine ⟨fun q hq hu => ?_, ?_⟩
  · by_cases e : q = j
    · subst e
      rw [ew q (Nat.le_refl _), pPut_0, pPut_1, pPut_2, pPut_3, if_pos rfl, if_pos rfl, if_pos rfl, if_pos rfl, h6, h7, h8, h9, upd_at, upd_at, upd_at, upd_at]
      exact ⟨rfl, rfl, rfl, rfl⟩
    · have hq2 : q < j := by omega
      rw [e9 q hq2] at hu
      have hlt := wC_used hq2 hu
      rw [ew q (by omega), pPut_0, pPut_1, pPut_2, pPut_3, if_neg (by omega), if_neg (by omega), if_neg (by omega), if_neg (by omega), h6, h7, h8, e9 q hq2, show upd (L 6) j x q = L 6 q from if_neg e, show upd (L 7) j y q = L 7 q from if_neg e, show upd (L 8) j p q = L 8 q from if_neg e]
      exact h q hq2 hu
  · rw [wC_s, h9, upd_at, if_neg hw, ew j (Nat.le_refl _)]
theorem BQ_skip (h : BQ L j) (h6 : L' 6 = L 6) (h7 : L' 7 = L 7) (h8 : L' 8 = L 8) (h9 : L' 9 = upd (L 9) j 0) : BQ L' (j + 1) := by
  intro q hq hu
  rw [h9] at hu
  by_cases e : q = j
  · subst e
    rw [upd_at] at hu
    exact absurd rfl hu
  · rw [show upd (L 9) j 0 q = L 9 q from if_neg e] at hu
    rw [h6, h7, h8]
    exact h q (by omega) hu
theorem BQ_put {x y p w : Int32} (h : BQ L j) (h6 : L' 6 = upd (L 6) j x) (h7 : L' 7 = upd (L 7) j y) (h8 : L' 8 = upd (L 8) j p) (h9 : L' 9 = upd (upd (L 9) j 0) j w) (hx : Bd x 100000) (hy : Bd y 100000) (hp : Bd p 3400000) : BQ L' (j + 1) := by
  intro q hq hu
  rw [upd_upd] at h9
  rw [h9] at hu
  by_cases e : q = j
  · subst e
    rw [h6, h7, h8, upd_at, upd_at, upd_at]
    exact ⟨hx, hy, hp⟩
  · rw [show upd (L 9) j w q = L 9 q from if_neg e] at hu
    rw [h6, h7, h8, show upd (L 6) j x q = L 6 q from if_neg e, show upd (L 7) j y q = L 7 q from if_neg e, show upd (L 8) j p q = L 8 q from if_neg e]
    exact h q (by omega) hu
end LE1
section LE2
variable {N P : Nat → Nat → Int32} {ns i : Nat} {ar lo : Int32}
theorem cLay_of (h0 : P 0 = N 0) (h : ∀ k, 10 ≤ k → P k = N k) (j : Nat) : cLay P i lo j = cLay N i lo j := by
  unfold cLay
  rw [h0, h (20 + j) (by omega), h (40 + i) (by omega), h (10 + j) (by omega)]
theorem mLayX_of (h0 : P 0 = N 0) (h : ∀ k, 10 ≤ k → P k = N k) (j : Nat) : mLayX P j = mLayX N j := by
  unfold mLayX
  rw [h0, h (20 + j) (by omega), h (10 + j) (by omega)]
theorem mLayY_of (h0 : P 0 = N 0) (h : ∀ k, 10 ≤ k → P k = N k) (j : Nat) : mLayY P j = mLayY N j := by
  unfold mLayY
  rw [h0, h (20 + j) (by omega), h (10 + j) (by omega)]
theorem mLayP_of (h0 : P 0 = N 0) (h : ∀ k, 10 ≤ k → P k = N k) (j : Nat) : mLayP P ns i ar j = mLayP N ns i ar j := by
  unfold mLayP mFixd
  rw [mCorr_of h0 h, h0, h (20 + j) (by omega), h (40 + i) (by omega), h (10 + j) (by omega), h (60 + 8 * i + j) (by omega)]
theorem mLayW_of (h0 : P 0 = N 0) (h : ∀ k, 10 ≤ k → P k = N k) (j : Nat) : mLayW P i ar j = mLayW N i ar j := by
  unfold mLayW mFixd
  rw [mLayX_of h0 h, mLayY_of h0 h, h (60 + 8 * i + j) (by omega)]
/-- a class's way to lay, step by step -/
def Lays (G : Nat → Nat × (Nat → Nat → Int32)) (u : Nat → Bool) (R : Nat → Nat → Int32) (ep : Int32) (co fx : Nat → Int32) (ns : Nat) : Prop :=
  (G 0).1 = 0 ∧ ∀ j, j < ns → G (j + 1) = if bI (u j) = 0 then G j else ((G j).1 + 1, pPutS (G j).2 (G j).1 (R j) ep (co j) (fx j))
theorem eLay {G : Nat → Nat × (Nat → Nat → Int32)} {u : Nat → Bool} {R : Nat → Nat → Int32} {ep : Int32} {co fx : Nat → Int32} (hG : Lays G u R ep co fx ns)
    (hu : ∀ j, j < ns → (bI (cLay N i lo j) = 0 ↔ bI (u j) = 0))
    (hv : ∀ j, j < ns → ¬ bI (u j) = 0 → mLayX N j = pTX (R j) ep ∧ mLayY N j = pTY (R j) ep ∧ mLayP N ns i ar j = co j - pTC (R j) ep ∧ mLayW N i ar j = pUseW (R j) ep (fx j) ∧ Bd (pTX (R j) ep) 100000 ∧ Bd (pTY (R j) ep) 100000 ∧ Bd (co j - pTC (R j) ep) 3400000) :
    ∀ j, j ≤ ns → (G j).1 = wC (mLay N ns i ar lo j).1 j ∧ Cmp (G j).2 (mLay N ns i ar lo j).1 j ∧ BQ (mLay N ns i ar lo j).1 j
  | 0, _ => ⟨by rw [hG.1, wC], fun q hq => absurd hq (by omega), fun q hq => absurd hq (by omega)⟩
  | j + 1, hj => by
    obtain ⟨ih1, ih2, ih3⟩ := eLay hG hu hv j (by omega)
    have hp0 : (mLay N ns i ar lo j).1 0 = N 0 := mLay_lo _ _ _ _ _ (Or.inl (by decide)) j
    have hpk : ∀ k, 10 ≤ k → (mLay N ns i ar lo j).1 k = N k := fun k hk => mLay_lo _ _ _ _ _ (Or.inr hk) j
    rw [mLay_s, hG.2 j (by omega), cLay_of hp0 hpk j]
    generalize mLay N ns i ar lo j = q at ih1 ih2 ih3 hp0 hpk
    by_cases c : bI (u j) = 0
    · rw [if_pos c, if_pos ((hu j (by omega)).mpr c)]
      obtain ⟨a1, a2⟩ := Cmp_skip (L' := mset q.1 9 (upd (q.1 9) j 0)) ih2 (mset_n (by decide)) (mset_n (by decide)) (mset_n (by decide)) mset_s
      exact ⟨by rw [ih1]; exact a2.symm, a1, BQ_skip (L' := mset q.1 9 (upd (q.1 9) j 0)) ih3 (mset_n (by decide)) (mset_n (by decide)) (mset_n (by decide)) mset_s⟩
    · rw [if_neg c, if_neg (fun w => c ((hu j (by omega)).mp w))]
      obtain ⟨v1, v2, v3, v4, v5, v6, v7⟩ := hv j (by omega) c
      have e6 : mLayS q.1 ns i ar j 6 = upd (q.1 6) j (pTX (R j) ep) := by
        unfold mLayS
        rw [mset_n (by decide), mset_n (by decide), mset_n (by decide), mset_s, mLayX_of hp0 hpk, v1]
      have e7 : mLayS q.1 ns i ar j 7 = upd (q.1 7) j (pTY (R j) ep) := by
        unfold mLayS
        rw [mset_n (by decide), mset_n (by decide), mset_s, mLayY_of hp0 hpk, v2]
      have e8 : mLayS q.1 ns i ar j 8 = upd (q.1 8) j (co j - pTC (R j) ep) := by
        unfold mLayS
        rw [mset_n (by decide), mset_s, mLayP_of hp0 hpk, v3]
      have e9 : mLayS q.1 ns i ar j 9 = upd (upd (q.1 9) j 0) j (pUseW (R j) ep (fx j)) := by
        unfold mLayS
        rw [mset_s, mLayW_of hp0 hpk, v4]
      have hw : ¬ pUseW (R j) ep (fx j) = 0 := by
        unfold pUseW
        split
        · split <;> decide
        · decide
      obtain ⟨a1, a2⟩ := Cmp_put ih2 e6 e7 e8 e9 hw
      rw [← ih1] at a1 a2
      exact ⟨a2.symm, a1, BQ_put ih3 e6 e7 e8 e9 v5 v6 v7⟩
end LE2
section LE3
variable {e n ns nt nr i j : Nat} {M N : Nat → Nat → Int32} {r a t v w tr : Nat → Int32}
theorem bSwing (ph : Int32) : Bd (pSwing ph) 144 := by
  rw [pSwing_eq]
  exact Bd.tt (Bd.fmod (K := 48) (by decide) (by decide) (by decide)) (by decide)
theorem bX (h : Bd (r 0) 200) (k : Int32) : Bd (pX r k) 28800 := by
  unfold pX
  exact Bd.div (Bd.mul h (bSwing _) (by decide)) (by decide)
theorem bY (h : Bd (r 0) 200) (k : Int32) : Bd (pY r k) 28800 := by
  unfold pY
  exact Bd.div (Bd.mul h (bSwing _) (by decide)) (by decide)
theorem bTX (h : Bd (r 0) 200) (k : Int32) : Bd (pTX r k) 28800 := by
  unfold pTX
  exact Bd.div (Bd.mul h (bSwing _) (by decide)) (by decide)
theorem bTY (h : Bd (r 0) 200) (k : Int32) : Bd (pTY r k) 28800 := by
  unfold pTY
  exact Bd.div (Bd.mul h (bSwing _) (by decide)) (by decide)
theorem bTrue (h : VSt e n r) (hv : VRc nr i v) : Bd (pTrue v r) 29940 := by
  obtain ⟨-, -, -, h0, h3, -⟩ := h
  obtain ⟨-, -, -, v1, v4, v5, v8, v11⟩ := hv
  unfold pTrue
  refine Bd.add (K := 29910) (K' := 30) (Bd.add (K := 29811) (K' := 99) (Bd.add (K := 28812) (K' := 999) (Bd.range v4 v5 (bX h0 0) (bY h0 0) (by decide)) h3 (by decide)) v1 (by decide)) ?_ (by decide)
  split
  · exact Bd.neg v11 (by decide)
  · exact v11
theorem bAir (hv : VRc nr i v) : Bd (pAir v r) 18 := by
  obtain ⟨-, -, -, v1, v4, v5, v8, v11⟩ := hv
  unfold pAir
  split
  · split
    · exact v8.mono (by decide)
    · exact Bd.mul (K := 2) (K' := 9) (by unfold Bd; decide) v8 (by decide)
  · exact Bd0 _
theorem bCode (h : VSt e n r) (hv : VRc nr i v) (ep : Int32) (j : Nat) : Bd (pCode ep v r j) 29970 := by
  unfold pCode pNoise
  exact Bd.add (K := 29958) (K' := 12) (Bd.add (bTrue h hv) (bAir hv) (by decide)) (Bd.sub (K := 10) (K' := 2) (Bd.fmod (K := 5) (by decide) (by decide) (by decide)) (by unfold Bd; decide) (by decide)) (by decide)
theorem holds_in (hv : VSt e n r) (he : e < 2 ^ 31) (h : ¬ bI (pHolds r (nI e)) = 0) : ∃ q, q ≤ e ∧ e ≤ q + 12 ∧ r 7 = nI q := by
  obtain ⟨-, -, hv, -⟩ := hv
  have h1 := bI_t h
  unfold pHolds at h1
  by_cases c : r 6 ≤ 0
  · rw [if_pos c] at h1; cases h1
  · rw [if_neg c] at h1
    rcases hv with ⟨h6, -⟩ | ⟨h6, q, hq, h7⟩
    · exact absurd (by rw [h6]; decide) c
    · by_cases c2 : bI (pOut (nI e - r 7) 0 12) = 0
      · have q2 := (pOut_bd c2).2
        rw [h7, nI_sub hq, nI_toInt (by omega)] at q2
        have e12 : (12 : Int32).toInt = 12 := by decide
        rw [e12] at q2
        exact ⟨q, hq, by omega, h7⟩
      · rw [if_neg c2] at h1; cases h1
theorem bTC (hv : VSt e n r) (he : e < 2 ^ 31) (h : ¬ bI (pHolds r (nI e)) = 0) : Bd (pTC r (nI e)) 1116 := by
  obtain ⟨q, hq, h12, h7⟩ := holds_in hv he h
  obtain ⟨-, -, -, h0, h3, h9, h10⟩ := hv
  unfold pTC
  rw [h7, nI_sub hq]
  have hk : Bd (nI (e - q)) 12 := by
    unfold Bd
    rw [nI_toInt (by omega)]
    omega
  exact Bd.add (K := 1008) (K' := 108) h9 (Bd.mul (K := 12) (K' := 9) hk h10 (by decide)) (by decide)
theorem pOut_in {q m : Nat} (h : q < m) (hm : m < 2 ^ 31) : bI (pOut (nI q) 0 (nI m - 1)) = 0 := by
  have e1 : nI m - 1 = nI (m - 1) := by
    rw [show m = (m - 1) + 1 by omega, nI_pred]
    congr 1
  unfold pOut
  rw [if_neg (nI_pos (by omega)), e1, if_pos (nI_le (by omega) (by omega))]
  rfl
theorem mSumR_tail {q : Nat} (h : ∀ j, ns ≤ j → j < 8 → N (60 + 8 * q + j) 6 = 0) (h8 : ns ≤ 8) : mSumR N q ns = mSumR N q 8 := by
  have key : ∀ m, ns + m ≤ 8 → mSumR N q (ns + m) = mSumR N q ns := by
    intro m
    induction m with
    | zero => intro _; rfl
    | succ m ih =>
      intro hm
      rw [show ns + (m + 1) = ns + m + 1 by omega, mSumR_s, ih (by omega), h (ns + m) (by omega) (by omega), if_neg (by decide), Int32.add_zero]
  have := key (8 - ns) (by omega)
  rw [show ns + (8 - ns) = 8 by omega] at this
  exact this.symm
theorem eCorr (h : Rel e n ns nt nr M N) (hi : i < nr) (hj : j < 8) : mCorr N ns i j = pCorr M nr i j ∧ Bd (pCorr M nr i j) 3000000 := by
  have h1 := h.1.1.1
  have h3 := h.1.1.2.2
  have he := h.1.2.1
  have hn := h.1.2.2
  obtain ⟨⟨⟨w0, w1, w2, w3, w4, w5, w6, w7, w8, w9⟩, hq⟩, ⟨v0, v1, v2, v3, v4, v5, v6, v7⟩, -⟩ := h.2.2.2.2.2.1 i hi
  unfold mCorr pCorr
  rw [w9]
  rcases v2 with v2 | ⟨q, hqn, -, v2⟩
  · have eo : pOut (-1) 0 (nI nr - 1) = true := by
      unfold pOut
      rw [if_pos (by decide)]
    rw [v2, if_pos rfl, eo, if_neg (show ¬ bI true = 0 by decide)]
    exact ⟨rfl, Bd0 _⟩
  · rw [v2, nI_clamp (by omega), if_pos (pOut_in hqn (by omega))]
    have hne : ¬ nI q = -1 := fun e9 => by
      have := nI_pos (n := q) (by omega)
      rw [e9] at this
      exact this (by decide)
    rw [if_neg hne]
    obtain ⟨⟨-, u10, u11, -⟩, -, ⟨⟨k, hk, ek⟩, ht, -⟩, hg, htail, hof⟩ := h.2.2.2.2.2.1 q hqn
    rw [u10, h.2.1.2.1, h.2.1.1]
    have hgj := hg j hj
    rcases ht with ⟨t0, t1⟩ | ⟨t0, p, hp, t1⟩
    · have e0 : pObsSince (M (50 + q)) (nI e - 5) = false := by
        unfold pObsSince
        rw [if_pos (by rw [t0]; decide)]
      rw [t1, if_pos rfl, e0, if_pos (by decide)]
      exact ⟨rfl, Bd0 _⟩
    · have hkp : ¬ M (50 + q) 0 ≤ 0 := by
        rw [ek]
        rw [ek] at t0
        have : 0 < k := by
          rcases Nat.eq_zero_or_pos k with z | z
          · exact absurd (by rw [z]; rfl) t0
          · exact z
        exact nI_nle this (by omega)
      have hp1 : ¬ nI p = -1 := fun e9 => by
        have := nI_pos (n := p) (by omega)
        rw [e9] at this
        exact this (by decide)
      have e5 : (nI e - 5).toInt = (e : Int) - 5 := by
        have e5' : (5 : Int32).toInt = 5 := by decide
        rw [i_sub (by rw [nI_toInt (by omega), e5']; omega) (by rw [nI_toInt (by omega), e5']; omega), nI_toInt (by omega), e5']
      rw [t1, if_neg hp1, nI_sub hp]
      have hc : ((5 : Int32) < nI (e - p)) ↔ (nI p < nI e - 5) := by
        have e5' : (5 : Int32).toInt = 5 := by decide
        rw [Int32.lt_iff_toInt_lt, Int32.lt_iff_toInt_lt, e5, e5', nI_toInt (by omega), nI_toInt (by omega)]
        omega
      by_cases c : (5 : Int32) < nI (e - p)
      · have e0 : pObsSince (M (50 + q)) (nI e - 5) = false := by
          unfold pObsSince
          rw [if_neg hkp, t1, if_pos (hc.mp c)]
        rw [if_pos c, e0, if_pos (by decide)]
        exact ⟨rfl, Bd0 _⟩
      · have e0 : pObsSince (M (50 + q)) (nI e - 5) = true := by
          unfold pObsSince
          rw [if_neg hkp, t1, if_neg (fun z => c (hc.mpr z))]
        rw [if_neg c, e0, if_neg (show ¬ bI true = 0 by decide), hgj.1.2.2.1]
        by_cases c2 : M (60 + 8 * q + j) 2 = 0
        · rw [if_pos c2, if_pos c2]
          exact ⟨rfl, Bd0 _⟩
        · rw [if_neg c2, if_neg c2, (hof j hj c2).1, mSumR_tail (fun u h1 h2 => by
            rw [(hg u h2).1.2.2.1]
            exact ((hg u h2).2.2.2.2.1 (htail u h1 h2)).2) h1]
          refine ⟨rfl, ?_⟩
          have hb := hgj.2.2.2.2.2.2
          rw [(hof j hj c2).1] at hb
          exact hb
end LE3
