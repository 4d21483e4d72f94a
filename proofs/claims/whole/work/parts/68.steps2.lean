-- new stars, stations, receivers; epochs
section ST2
theorem Bd0 (K : Nat) : Bd 0 K := by
  unfold Bd
  rw [show (0 : Int32).toInt.natAbs = 0 by decide]
  exact Nat.zero_le _
variable {e n ns nt nr : Nat} {M N : Nat → Nat → Int32}
theorem kStar_0 {ra ph sp of dr : Int32} (h : kStar ns ra ph sp of dr = 0) : Bd ra 200 ∧ Bd of 999 := by
  unfold kStar at h
  by_cases c1 : bI (pOut ra 60 200) = 0
  · rw [if_pos c1] at h
    by_cases c2 : bI (pOut ph 0 47) = 0
    · rw [if_pos c2] at h
      by_cases c3 : bI (pOut sp (-3) 3) = 0
      · rw [if_pos c3] at h
        by_cases c4 : bI (pOut of (-500) 500) = 0
        · exact ⟨nBd c1 (by decide) (by decide), nBd c4 (by decide) (by decide)⟩
        · rw [if_neg c4] at h; exact absurd h (by decide)
      · rw [if_neg c3] at h; exact absurd h (by decide)
    · rw [if_neg c2] at h; exact absurd h (by decide)
  · rw [if_neg c1] at h; exact absurd h (by decide)
theorem kStn_0 {x d : Int32} (h : kStn nt x d = 0) : Bd d 9 := by
  unfold kStn at h
  by_cases c1 : bI (pOut x (-50) 50) = 0
  · rw [if_pos c1] at h
    by_cases c2 : bI (pOut d 0 9) = 0
    · exact nBd c2 (by decide) (by decide)
    · rw [if_neg c2] at h; exact absurd h (by decide)
  · rw [if_neg c1] at h; exact absurd h (by decide)
theorem kRec_0 {x y b : Int32} (h : kRec nr x y b = 0) : (Bd x 12 ∧ Bd y 12) ∧ Bd b 99 := by
  unfold kRec at h
  by_cases c1 : bI (pNoPlace x y) = 0
  · rw [if_pos c1] at h
    by_cases c2 : bI (pOut b (-99) 99) = 0
    · exact ⟨nNP c1, nBd c2 (by decide) (by decide)⟩
    · rw [if_neg c2] at h; exact absurd h (by decide)
  · rw [if_neg c1] at h; exact absurd h (by decide)
theorem S_star {ra ph sp of dr : Int32} (h : Rel e n ns nt nr M N) (hn : n < 512) (hk : kStar ns ra ph sp of dr = 0) (h8 : ns < 8) : Rel e (n + 1) (ns + 1) nt nr (mset M (10 + ns) (rNew ra ph sp of dr)) (mStarN N ns ra ph sp of dr) := by
  obtain ⟨b1, b2⟩ := kStar_0 hk
  obtain ⟨⟨hL, he, h5⟩, ⟨hM0, hN0, hMN, hOb⟩, hS, hS0, hT, hR, hR0⟩ := h
  have hL1 := hL.1
  have hL2 := hL.2.1
  have hL3 := hL.2.2
  have e0 : ∀ c, c ≠ 8 → mStarN N ns ra ph sp of dr 0 c = N 0 c := fun c hc => by
    unfold mStarN
    rw [mset_s]
    exact if_neg hc
  have e8 : mStarN N ns ra ph sp of dr 0 8 = nI (ns + 1) := by
    unfold mStarN
    rw [mset_s]
    show N 0 8 + 1 = nI (ns + 1)
    rw [hMN.1, nI_1]
  have ek : ∀ k, 10 ≤ k → k ≠ 10 + ns → k ≠ 20 + ns → mStarN N ns ra ph sp of dr k = N k := fun k h1 h2 h3 => by
    unfold mStarN
    rw [mset_n (by omega), mset_n h3, mset_n h2]
  refine ⟨⟨⟨by omega, hL2, hL3⟩, by omega, by omega⟩, ⟨by rw [mset_n (by omega)]; exact hM0, by rw [e0 1 (by decide)]; exact hN0, ⟨e8, by rw [e0 9 (by decide)]; exact hMN.2.1, by rw [e0 10 (by decide)]; exact hMN.2.2⟩, by rw [e0 2 (by decide), pSumR_of (M := M) nr (fun q _ => by rw [mset_n (by omega)])]; exact hOb⟩, fun q hq => ?_, fun q h1 h2 c => ?_, fun i hi => ?_, fun i hi => ?_, fun i h1 h2 => ?_⟩
  · by_cases e9 : q = ns
    · subst e9
      have z := hS0 q (Nat.le_refl _) h8
      have a1 : mStarN N q ra ph sp of dr (10 + q) = upd (upd (upd (upd (upd (upd (N (10 + q)) 0 ra) 1 ph) 2 sp) 3 of) 4 dr) 5 1 := by
        unfold mStarN
        rw [mset_n (by omega), mset_n (by omega), mset_s]
      have a2 : mStarN N q ra ph sp of dr (20 + q) = upd (upd (N (20 + q)) 1 (-1)) 2 (-1) := by
        unfold mStarN
        rw [mset_n (by omega), mset_s]
      rw [mset_s, a1, a2]
      exact ⟨⟨⟨rfl, rfl, rfl, rfl, rfl, rfl⟩, z 0, rfl, rfl, z 3, z 4⟩, Or.inr rfl, ⟨0, Nat.zero_le _, nI_0.symm⟩, Or.inl ⟨rfl, rfl⟩, b1, b2, (show Bd 0 1008 from Bd0 _), (show Bd 0 9 from Bd0 _)⟩
    · rw [mset_n (by omega), ek (10 + q) (by omega) (by omega) (by omega), ek (20 + q) (by omega) (by omega) (by omega)]
      exact ⟨(hS q (by omega)).1, (hS q (by omega)).2.mono (Nat.le_refl _) (Nat.le_succ _)⟩
  · rw [ek (20 + q) (by omega) (by omega) (by omega)]
    exact hS0 q (by omega) h2 c
  · rw [ek (30 + i) (by omega) (by omega) (by omega), mset_n (by omega)]
    exact hT i hi
  · exact (hR i hi).of (Nat.le_refl _) (Nat.le_succ _) (Nat.le_succ _) (Nat.le_refl _) (mset_n (by omega)) (mset_n (by omega)) (fun _ _ => mset_n (by omega)) (ek _ (by omega) (by omega) (by omega)) (fun q _ => ek _ (by omega) (by omega) (by omega))
  · refine ⟨fun c => by rw [ek (40 + i) (by omega) (by omega) (by omega)]; exact (hR0 i h1 h2).1 c, fun q hq c => ?_⟩
    rw [ek (60 + 8 * i + q) (by omega) (by omega) (by omega)]
    exact (hR0 i h1 h2).2 q hq c
theorem S_station {x d : Int32} (h : Rel e n ns nt nr M N) (hn : n < 512) (hk : kStn nt x d = 0) (h8 : nt < 3) : Rel e (n + 1) ns (nt + 1) nr (mset M (20 + nt) (snNew x d)) (mset (mset N (30 + nt) (upd (upd (N (30 + nt)) 0 x) 1 d)) 0 (upd (N 0) 9 (N 0 9 + 1))) := by
  have b1 := kStn_0 hk
  obtain ⟨⟨hL, he, h5⟩, ⟨hM0, hN0, hMN, hOb⟩, hS, hS0, hT, hR, hR0⟩ := h
  have hL1 := hL.1
  have hL2 := hL.2.1
  have hL3 := hL.2.2
  obtain ⟨N2, eN⟩ : ∃ N2, N2 = mset (mset N (30 + nt) (upd (upd (N (30 + nt)) 0 x) 1 d)) 0 (upd (N 0) 9 (N 0 9 + 1)) := ⟨_, rfl⟩
  rw [← eN]
  have e0 : ∀ c, c ≠ 9 → N2 0 c = N 0 c := fun c hc => by
    rw [eN, mset_s]
    exact if_neg hc
  have e9 : N2 0 9 = nI (nt + 1) := by
    rw [eN, mset_s]
    show N 0 9 + 1 = nI (nt + 1)
    rw [hMN.2.1, nI_1]
  have ek : ∀ k, 10 ≤ k → k ≠ 30 + nt → N2 k = N k := fun k h1 h2 => by
    rw [eN, mset_n (by omega), mset_n h2]
  refine ⟨⟨⟨hL1, by omega, hL3⟩, by omega, by omega⟩, ⟨by rw [mset_n (by omega)]; exact hM0, by rw [e0 1 (by decide)]; exact hN0, ⟨by rw [e0 8 (by decide)]; exact hMN.1, e9, by rw [e0 10 (by decide)]; exact hMN.2.2⟩, by rw [e0 2 (by decide), pSumR_of (M := M) nr (fun q _ => by rw [mset_n (by omega)])]; exact hOb⟩, fun q hq => ?_, fun q h1 h2 c => ?_, fun i hi => ?_, fun i hi => ?_, fun i h1 h2 => ?_⟩
  · rw [mset_n (by omega), ek (10 + q) (by omega) (by omega), ek (20 + q) (by omega) (by omega)]
    exact ⟨(hS q (by omega)).1, (hS q (by omega)).2.mono (Nat.le_refl _) (Nat.le_succ _)⟩
  · rw [ek (20 + q) (by omega) (by omega)]
    exact hS0 q (by omega) h2 c
  · by_cases e8 : i = nt
    · subst e8
      rw [mset_s, eN, mset_n (by omega), mset_s]
      exact ⟨rfl, rfl, b1⟩
    · rw [ek (30 + i) (by omega) (by omega), mset_n (by omega)]
      exact hT i (by omega)
  · exact (hR i hi).of (Nat.le_refl _) (Nat.le_succ _) (Nat.le_refl _) (Nat.le_refl _) (mset_n (by omega)) (mset_n (by omega)) (fun _ _ => mset_n (by omega)) (ek _ (by omega) (by omega)) (fun q _ => ek _ (by omega) (by omega))
  · refine ⟨fun c => by rw [ek (40 + i) (by omega) (by omega)]; exact (hR0 i h1 h2).1 c, fun q hq c => ?_⟩
    rw [ek (60 + 8 * i + q) (by omega) (by omega)]
    exact (hR0 i h1 h2).2 q hq c
theorem pSumR_tail {M' : Nat → Nat → Int32} (h0 : M' (50 + nr) 0 = 0) (h : ∀ j, j < nr → M' (50 + j) 0 = M (50 + j) 0) : pSumR M' 7 (nr + 1) = pSumR M 7 nr := by
  rw [pSumR_s, if_pos rfl, h0, Int32.add_zero]
  exact pSumR_of nr h
theorem S_receiver {x y b : Int32} (h : Rel e n ns nt nr M N) (hn : n < 512) (hk : kRec nr x y b = 0) (h8 : nr < 3) : Rel e (n + 1) ns nt (nr + 1) (pNewR M nr (vNew (nI nr) x y b)) (mset (mset N (40 + nr) (mRecV (N (40 + nr)) x y b)) 0 (upd (N 0) 10 (N 0 10 + 1))) := by
  obtain ⟨⟨b1, b2⟩, b3⟩ := kRec_0 hk
  obtain ⟨⟨hL, he, h5⟩, ⟨hM0, hN0, hMN, hOb⟩, hS, hS0, hT, hR, hR0⟩ := h
  have hL1 := hL.1
  have hL2 := hL.2.1
  have hL3 := hL.2.2
  obtain ⟨N2, eN⟩ : ∃ N2, N2 = mset (mset N (40 + nr) (mRecV (N (40 + nr)) x y b)) 0 (upd (N 0) 10 (N 0 10 + 1)) := ⟨_, rfl⟩
  rw [← eN]
  have e0 : ∀ c, c ≠ 10 → N2 0 c = N 0 c := fun c hc => by
    rw [eN, mset_s]
    exact if_neg hc
  have e9 : N2 0 10 = nI (nr + 1) := by
    rw [eN, mset_s]
    show N 0 10 + 1 = nI (nr + 1)
    rw [hMN.2.2, nI_1]
  have ek : ∀ k, 10 ≤ k → k ≠ 40 + nr → N2 k = N k := fun k h1 h2 => by
    rw [eN, mset_n (by omega), mset_n h2]
  have em : ∀ k, ¬ NK nr k → pNewR M nr (vNew (nI nr) x y b) k = M k := fun k hk => pNewR_n hk
  have e3 : pNewR M nr (vNew (nI nr) x y b) (30 + nr) = vNew (nI nr) x y b := by unfold pNewR; rw [if_pos rfl]
  have e5 : pNewR M nr (vNew (nI nr) x y b) (50 + nr) = tNew := by unfold pNewR; rw [if_neg (by omega), if_pos rfl]
  have e6 : ∀ j, j < 8 → pNewR M nr (vNew (nI nr) x y b) (60 + 8 * nr + j) = fun _ => 0 := fun j hj => by unfold pNewR; rw [if_neg (by omega), if_neg (by omega), if_pos (by omega)]
  refine ⟨⟨⟨hL1, hL2, by omega⟩, by omega, by omega⟩, ⟨by rw [em 0 (by unfold NK; omega)]; exact hM0, by rw [e0 1 (by decide)]; exact hN0, ⟨by rw [e0 8 (by decide)]; exact hMN.1, by rw [e0 9 (by decide)]; exact hMN.2.1, e9⟩, by rw [e0 2 (by decide), pSumR_tail (M := M) (by rw [e5]; rfl) (fun q hq => by rw [em (50 + q) (by unfold NK; omega)])]; exact hOb⟩, fun q hq => ?_, fun q h1 h2 c => ?_, fun i hi => ?_, fun i hi => ?_, fun i h1 h2 => ?_⟩
  · rw [em (10 + q) (by unfold NK; omega), ek (10 + q) (by omega) (by omega), ek (20 + q) (by omega) (by omega)]
    exact ⟨(hS q (by omega)).1, (hS q (by omega)).2.mono (Nat.le_refl _) (Nat.le_succ _)⟩
  · rw [ek (20 + q) (by omega) (by omega)]
    exact hS0 q (by omega) h2 c
  · rw [ek (30 + i) (by omega) (by omega), em (20 + i) (by unfold NK; omega)]
    exact hT i hi
  · by_cases e8 : i = nr
    · subst e8
      obtain ⟨z1, z2⟩ := hR0 i (Nat.le_refl _) h8
      have e4 : N2 (40 + i) = mRecV (N (40 + i)) x y b := by rw [eN, mset_n (by omega), mset_s]
      refine ⟨?_, ?_, ?_, fun j hj => ?_, fun j h1 h2 => by rw [e6 j h2], fun j hj hu => ?_⟩
      · rw [e3, e5, e4]
        exact ⟨⟨rfl, rfl, rfl, rfl, rfl, z1 5, Or.inl rfl, rfl, z1 8, rfl⟩, rfl, z1 11, z1 12, z1 13, z1 14, z1 15, rfl, z1 17, z1 18, rfl, z1 20, z1 21⟩
      · rw [e3]
        exact ⟨rfl, Or.inr rfl, Or.inl rfl, b3, b1, b2, (show Bd 0 9 from Bd0 _), (show Bd 0 30 from Bd0 _)⟩
      · rw [e5]
        exact ⟨⟨0, Nat.zero_le _, nI_0.symm⟩, Or.inl ⟨rfl, rfl⟩, 0, Nat.zero_le _, nI_0.symm⟩
      · rw [e6 j hj, ek (60 + 8 * i + j) (by omega) (by omega)]
        have z := z2 j hj
        exact ⟨⟨z 11, z 5, z 6, z 7⟩, Or.inl rfl, Or.inl rfl, Or.inl rfl, fun _ => ⟨rfl, rfl⟩, fun q => absurd q (show ¬ (0 : Int32) = 1 by decide), by unfold Bd; decide⟩
      · rw [e6 j hj] at hu
        exact absurd rfl hu
    · exact (hR i (by omega)).of (Nat.le_refl _) (Nat.le_succ _) (Nat.le_refl _) (Nat.le_succ _) (em _ (by unfold NK; omega)) (em _ (by unfold NK; omega)) (fun _ _ => em _ (by unfold NK; omega)) (ek _ (by omega) (by omega)) (fun q _ => ek _ (by omega) (by omega))
  · refine ⟨fun c => by rw [ek (40 + i) (by omega) (by omega)]; exact (hR0 i (by omega) h2).1 c, fun q hq c => ?_⟩
    rw [ek (60 + 8 * i + q) (by omega) (by omega)]
    exact (hR0 i (by omega) h2).2 q hq c
theorem Rel.pass1 (h : Rel e n ns nt nr M N) (he1 : e + 1 ≤ 48 * n) : Rel (e + 1) n ns nt nr (pPass1 M ns) (mStars (mEp N) ns) := by
  obtain ⟨⟨hL, he, h5⟩, ⟨hM0, hN0, hMN, hOb⟩, hS, hS0, hT, hR, hR0⟩ := h
  have hL1 := hL.1
  have hL2 := hL.2.1
  have hL3 := hL.2.2
  have e0 : ∀ c, c ≠ 1 → mStars (mEp N) ns 0 c = N 0 c := fun c hc => by
    rw [mStars_lo _ _ (by decide)]
    unfold mEp
    rw [mset_s]
    exact if_neg hc
  have e1 : mStars (mEp N) ns 0 1 = nI (e + 1) := by
    rw [mStars_lo _ _ (by decide)]
    unfold mEp
    rw [mset_s]
    show N 0 1 + 1 = nI (e + 1)
    rw [hN0, nI_1]
  have ek : ∀ k, 10 + ns ≤ k → mStars (mEp N) ns k = N k := fun k hk => by
    unfold mStars mEp
    rw [if_neg (by omega), mset_n (by omega)]
  have es : ∀ j, j < ns → mStars (mEp N) ns (10 + j) = mRow (N (10 + j)) := fun j hj => by
    unfold mStars mEp
    rw [if_pos (by omega), mset_n (by omega)]
  have m0 : pPass1 M ns 0 0 = nI (e + 1) := by
    show M 0 0 + 1 = nI (e + 1)
    rw [hM0, nI_1]
  have mk : ∀ k, 10 + ns ≤ k → pPass1 M ns k = M k := fun k hk => by
    unfold pPass1
    rw [if_neg (by omega), if_neg (by omega)]
  have ms : ∀ j, j < ns → pPass1 M ns (10 + j) = rPass (M (10 + j)) := fun j hj => by
    unfold pPass1
    rw [if_neg (by omega), if_pos (by omega)]
  refine ⟨⟨hL, he1, h5⟩, ⟨m0, e1, ⟨by rw [e0 8 (by decide)]; exact hMN.1, by rw [e0 9 (by decide)]; exact hMN.2.1, by rw [e0 10 (by decide)]; exact hMN.2.2⟩, by rw [e0 2 (by decide), pSumR_of (M := M) nr (fun q _ => by rw [mk (50 + q) (by omega)])]; exact hOb⟩, fun q hq => ?_, fun q h1 h2 c => ?_, fun i hi => ?_, fun i hi => ?_, fun i h1 h2 => ?_⟩
  · obtain ⟨⟨⟨h0, h1, h2, h3, h4, h5⟩, hq9⟩, hv⟩ := hS q hq
    obtain ⟨v1, v2, v3, v4, v5, v6⟩ := hv.mono (Nat.le_succ e) (Nat.le_refl n)
    rw [ms q hq, es q hq, ek (20 + q) (by omega)]
    refine ⟨⟨⟨h0, ?_, h2, ?_, h4, h5⟩, hq9⟩, v1, v2, v3, v4, Bd.held _ (by decide) (by decide) (by decide), v6⟩
    · show pFMod (N (10 + q) 1 + N (10 + q) 2) 48 = pFMod (M (10 + q) 2 + M (10 + q) 1) 48
      rw [h1, h2]
    · show pHeld (N (10 + q) 3 + N (10 + q) 4) 999 = pHeld (M (10 + q) 3 + M (10 + q) 4) 999
      rw [h3, h4]
  · rw [ek (20 + q) (by omega)]
    exact hS0 q (by omega) h2 c
  · rw [ek (30 + i) (by omega), mk (20 + i) (by omega)]
    exact hT i hi
  · exact (hR i hi).of (Nat.le_succ _) (Nat.le_refl _) (Nat.le_refl _) (Nat.le_refl _) (mk _ (by omega)) (mk _ (by omega)) (fun _ _ => mk _ (by omega)) (ek _ (by omega)) (fun q _ => ek _ (by omega))
  · refine ⟨fun c => by rw [ek (40 + i) (by omega)]; exact (hR0 i h1 h2).1 c, fun q hq c => ?_⟩
    rw [ek (60 + 8 * i + q) (by omega)]
    exact (hR0 i h1 h2).2 q hq c
theorem S_passK (h : Rel e n ns nt nr M N) (hn : n < 512) : ∀ k, k ≤ 48 → Rel (e + k) (n + 1) ns nt nr (pPassN M ns k) (mPassN N ns k)
  | 0, _ => by rw [pPassN_0, mPassN_0]; exact h.next hn
  | k + 1, hk => by
    have he := h.1.2.1
    rw [pPassN_s, mPassN_s]
    exact (S_passK h hn k (by omega)).pass1 (by omega)
theorem S_pass {k : Nat} (h : Rel e n ns nt nr M N) (hn : n < 512) (hk : k ≤ 48) : mPassN N ns k 0 1 = pPassN M ns k 0 0 ∧ Rel (e + k) (n + 1) ns nt nr (pPassN M ns k) (mPassN N ns k) := by
  have hR := S_passK h hn k hk
  exact ⟨by rw [hR.2.1.1, hR.2.1.2.1], hR⟩
end ST2
