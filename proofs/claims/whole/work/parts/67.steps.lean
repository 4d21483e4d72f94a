-- a call on both worlds: the answer is the same, and they say the same afterwards
section ST1
variable {e n ns nt nr : Nat} {M N : Nat → Nat → Int32}
theorem thr_c {k : Int32} {c : Nat} (h : 1 ≤ c) : thr N k 0 c = N 0 c := by
  unfold thr
  rw [mset_s]
  exact if_neg (by omega)
theorem Rel.no (h : Rel e n ns nt nr M N) (k : Int32) : Rel e n ns nt nr M (thr N k) := h.fr (Nat.le_refl _) h.1.2.2 (fun c h1 _ => thr_c h1) (fun k hk => thr_n (by omega))
theorem Rel.next (h : Rel e n ns nt nr M N) (hn : n < 512) : Rel e (n + 1) ns nt nr M N := h.fr (Nat.le_succ _) hn (fun _ _ _ => rfl) (fun _ _ => rfl)
theorem Rel.same {N2 : Nat → Nat → Int32} (h : Rel e n ns nt nr M N) (hn : n < 512) (hs : mSame N N2) : Rel e (n + 1) ns nt nr M N2 := h.fr (Nat.le_succ _) hn (fun c _ h2 => hs.1 c h2) (fun k hk => hs.2 k (by omega) (Or.inr hk))
theorem Rel.st1 {j : Nat} {r a : Nat → Int32} (h : Rel e n ns nt nr M N) (hn : n < 512) (hj : j < ns) (hr : RSt r a (N (20 + j))) (hv : VSt e (n + 1) r) : Rel e (n + 1) ns nt nr (mset M (10 + j) r) (mset N (10 + j) a) := by
  have hL := h.1.1.1
  exact h.st (Nat.le_succ _) hn hj hr hv (fun c _ _ => by rw [mset_n (by omega)]) mset_s (mset_n (by omega)) (fun k _ h2 _ => mset_n h2)
theorem Rel.st2 {j : Nat} {r t : Nat → Int32} (h : Rel e n ns nt nr M N) (hn : n < 512) (hj : j < ns) (hr : RSt r (N (10 + j)) t) (hv : VSt e (n + 1) r) : Rel e (n + 1) ns nt nr (mset M (10 + j) r) (mset N (20 + j) t) := by
  have hL := h.1.1.1
  exact h.st (Nat.le_succ _) hn hj hr hv (fun c _ _ => by rw [mset_n (by omega)]) (mset_n (by omega)) mset_s (fun k _ _ h3 => mset_n h3)
theorem Rel.rc1 {i : Nat} {v w : Nat → Int32} (h : Rel e n ns nt nr M N) (hn : n < 512) (hi : i < nr) (hr : RRc v (M (50 + i)) w) (hv : VRc nr i v) (h11 : w 11 = N (40 + i) 11) : Rel e (n + 1) ns nt nr (mset M (30 + i) v) (mset N (40 + i) w) :=
  h.rc (Nat.le_succ _) hn hi hr hv h11 (fun c _ _ => by rw [mset_n (by omega)]) mset_s (fun k _ h2 => mset_n h2)
theorem S_push {i : Nat} {b : Int32} (h : Rel e n ns nt nr M N) (hn : n < 512) (hi : i < ns) : pFMod (N (10 + i) 1 + b) 48 = pFMod (M (10 + i) 2 + b) 48 ∧ Rel e (n + 1) ns nt nr (mset M (10 + i) (upd (M (10 + i)) 2 (pFMod (M (10 + i) 2 + b) 48))) (mset N (10 + i) (upd (N (10 + i)) 1 (pFMod (N (10 + i) 1 + b) 48))) := by
  obtain ⟨⟨⟨h0, h1, h2, h3, h4, h5⟩, hq⟩, hv⟩ := h.2.2.1 i hi
  rw [h1]
  exact ⟨rfl, h.st1 hn hi ⟨⟨h0, rfl, h2, h3, h4, h5⟩, hq⟩ (hv.mono (Nat.le_refl _) (Nat.le_succ _))⟩
theorem S_jump {i : Nat} {o d : Int32} (h : Rel e n ns nt nr M N) (hn : n < 512) (hi : i < ns) : pHeld (N (10 + i) 3 + o) 999 = rClock (M (10 + i)) o 3 ∧ Rel e (n + 1) ns nt nr (mset M (10 + i) (upd (rClock (M (10 + i)) o) 4 d)) (mset N (10 + i) (upd (upd (N (10 + i)) 3 (pHeld (N (10 + i) 3 + o) 999)) 4 d)) := by
  obtain ⟨⟨⟨h0, h1, h2, h3, h4, h5⟩, hq⟩, hv⟩ := h.2.2.1 i hi
  rw [h3]
  obtain ⟨v1, v2, v3, v4, v5, v6⟩ := hv.mono (Nat.le_refl _) (Nat.le_succ n)
  exact ⟨rfl, h.st1 hn hi ⟨⟨h0, h1, h2, rfl, rfl, h5⟩, hq⟩ ⟨v1, v2, v3, v4, Bd.held _ (by decide) (by decide) (by decide), v6⟩⟩
theorem bI_01 (b : Bool) : bI b = 0 ∨ bI b = 1 := by cases b <;> decide
theorem S_health {i : Nat} {b : Bool} (h : Rel e n ns nt nr M N) (hn : n < 512) (hi : i < ns) : (if N (10 + i) 5 = 1 then (1 : Int32) else 0) = M (10 + i) 5 ∧ Rel e (n + 1) ns nt nr (mset M (10 + i) (upd (M (10 + i)) 5 (bI b))) (mset N (10 + i) (upd (N (10 + i)) 5 (bI b))) := by
  obtain ⟨⟨⟨h0, h1, h2, h3, h4, h5⟩, hq⟩, hv⟩ := h.2.2.1 i hi
  obtain ⟨v1, v2, v3, v4, v5, v6⟩ := hv.mono (Nat.le_refl _) (Nat.le_succ n)
  refine ⟨?_, h.st1 hn hi ⟨⟨h0, h1, h2, h3, h4, rfl⟩, hq⟩ ⟨bI_01 b, v2, v3, v4, v5, v6⟩⟩
  rw [h5]
  rcases v1 with v1 | v1
  · rw [v1, if_neg (by decide)]
  · rw [v1, if_pos rfl]
theorem nNP {x y : Int32} (h : bI (pNoPlace x y) = 0) : Bd x 12 ∧ Bd y 12 := by
  have h1 := bI_f h
  unfold pNoPlace at h1
  by_cases c1 : bI (pOut x (-12) 12) = 0
  · rw [if_pos c1] at h1
    by_cases c2 : bI (pOut y 0 12) = 0
    · have q1 := pOut_bd c1
      have q2 := pOut_bd c2
      have e1 : (-12 : Int32).toInt = -12 := by decide
      have e2 : (12 : Int32).toInt = 12 := by decide
      have e3 : (0 : Int32).toInt = 0 := by decide
      rw [e1, e2] at q1
      rw [e3, e2] at q2
      exact ⟨by unfold Bd; omega, by unfold Bd; omega⟩
    · rw [if_neg c2] at h1; cases h1
  · rw [if_neg c1] at h1; cases h1
theorem nBd {x lo hi : Int32} {K : Nat} (h : bI (pOut x lo hi) = 0) (h1 : -(K : Int) ≤ lo.toInt) (h2 : hi.toInt ≤ K) : Bd x K := by
  have q := pOut_bd h
  unfold Bd
  omega
theorem kGo_0 {x u v : Int32} (h : kGo nr x u v = 0) : bI (pNoPlace u v) = 0 := by
  unfold kGo at h
  by_cases c : bI (pOut x 0 (nI nr - 1)) = 0
  · rw [if_pos c] at h
    by_cases c2 : bI (pNoPlace u v) = 0
    · exact c2
    · rw [if_neg c2] at h; exact absurd h (by decide)
  · rw [if_neg c] at h; exact absurd h (by decide)
theorem kRng_0 {x w lo hi : Int32} {m : Nat} (h : kRng m x w lo hi = 0) : bI (pOut w lo hi) = 0 := by
  unfold kRng at h
  by_cases c : bI (pOut x 0 (nI m - 1)) = 0
  · rw [if_pos c] at h
    by_cases c2 : bI (pOut w lo hi) = 0
    · exact c2
    · rw [if_neg c2] at h; exact absurd h (by decide)
  · rw [if_neg c] at h; exact absurd h (by decide)
theorem kIn_0 {w lo hi : Int32} (h : kIn w lo hi = 0) : bI (pOut w lo hi) = 0 := by
  unfold kIn at h
  by_cases c2 : bI (pOut w lo hi) = 0
  · exact c2
  · rw [if_neg c2] at h; exact absurd h (by decide)
theorem kTwoR_0 {n1 n2 : Nat} {x y w hi : Int32} (h : kTwoR n1 n2 x y w hi = 0) : bI (pOut w 0 hi) = 0 := by
  unfold kTwoR at h
  by_cases c : bI (pOut x 0 (nI n1 - 1)) = 0
  · rw [if_pos c] at h
    by_cases c1 : bI (pOut y 0 (nI n2 - 1)) = 0
    · rw [if_pos c1] at h
      by_cases c2 : bI (pOut w 0 hi) = 0
      · exact c2
      · rw [if_neg c2] at h; exact absurd h (by decide)
    · rw [if_neg c1] at h; exact absurd h (by decide)
  · rw [if_neg c] at h; exact absurd h (by decide)
theorem S_go {i : Nat} {x u v : Int32} (h : Rel e n ns nt nr M N) (hn : n < 512) (hk : kGo nr x u v = 0) (hi : i < nr) : pRange (N (40 + i) 0) (N (40 + i) 1) u v = pRange (M (30 + i) 4) (M (30 + i) 5) u v ∧ Rel e (n + 1) ns nt nr (mset M (30 + i) (upd (upd (M (30 + i)) 4 u) 5 v)) (mset N (40 + i) (upd (upd (N (40 + i)) 0 u) 1 v)) := by
  obtain ⟨⟨⟨w0, w1, w2, w3, w4, w5, w6, w7, w8, w9⟩, hq⟩, ⟨v0, v1, v2, v3, v4, v5, v6, v7⟩, -⟩ := h.2.2.2.2.2.1 i hi
  obtain ⟨b1, b2⟩ := nNP (kGo_0 hk)
  exact ⟨by rw [w0, w1], h.rc1 hn hi ⟨⟨rfl, rfl, w2, w3, w4, w5, w6, w7, w8, w9⟩, hq⟩ ⟨v0, v1, v2, v3, b1, b2, v6, v7⟩ rfl⟩
theorem S_hills {i : Nat} {lf rt : Int32} (h : Rel e n ns nt nr M N) (hn : n < 512) (hi : i < nr) : pBits (mSet (upd (upd (N (40 + i)) 3 lf) 4 rt) (mset N (40 + i) (upd (upd (N (40 + i)) 3 lf) 4 rt)) 0 ns) = pBits (pSet (upd (upd (M (30 + i)) 6 lf) 7 rt) M 0 ns) ∧ Rel e (n + 1) ns nt nr (mset M (30 + i) (upd (upd (M (30 + i)) 6 lf) 7 rt)) (mset N (40 + i) (upd (upd (N (40 + i)) 3 lf) 4 rt)) := by
  obtain ⟨⟨⟨w0, w1, w2, w3, w4, w5, w6, w7, w8, w9⟩, hq⟩, ⟨v0, v1, v2, v3, v4, v5, v6, v7⟩, -⟩ := h.2.2.2.2.2.1 i hi
  have hR : Rel e (n + 1) ns nt nr (mset M (30 + i) (upd (upd (M (30 + i)) 6 lf) 7 rt)) (mset N (40 + i) (upd (upd (N (40 + i)) 3 lf) 4 rt)) := h.rc1 hn hi ⟨⟨w0, w1, w2, rfl, rfl, w5, w6, w7, w8, w9⟩, hq⟩ ⟨v0, v1, v2, v3, v4, v5, v6, v7⟩ rfl
  refine ⟨?_, hR⟩
  have he := eSet hR hi 0 ns (Nat.le_refl _)
  rw [mset_s, mset_s, pSet_mset (by omega) h.1.1.1] at he
  rw [he]
theorem S_air {i : Nat} {x io : Int32} {b : Bool} (h : Rel e n ns nt nr M N) (hn : n < 512) (hk : kRng nr x io 0 9 = 0) (hi : i < nr) : upd (N (40 + i)) 6 (bI b) 5 = M (30 + i) 8 ∧ Rel e (n + 1) ns nt nr (mset M (30 + i) (upd (upd (M (30 + i)) 8 io) 9 (bI b))) (mset N (40 + i) (upd (upd (N (40 + i)) 6 (bI b)) 5 io)) := by
  obtain ⟨⟨⟨w0, w1, w2, w3, w4, w5, w6, w7, w8, w9⟩, hq⟩, ⟨v0, v1, v2, v3, v4, v5, v6, v7⟩, -⟩ := h.2.2.2.2.2.1 i hi
  have hb : Bd io 9 := nBd (kRng_0 hk) (by decide) (by decide)
  exact ⟨w5, h.rc1 hn hi ⟨⟨w0, w1, w2, w3, w4, rfl, Or.inl rfl, w7, w8, w9⟩, hq⟩ ⟨v0, bI_01 b, v2, v3, v4, v5, hb, v7⟩ rfl⟩
theorem S_alert {i : Nat} {w : Int32} (h : Rel e n ns nt nr M N) (hn : n < 512) (hi : i < nr) : N (40 + i) 7 = M (30 + i) 10 ∧ Rel e (n + 1) ns nt nr (mset M (30 + i) (upd (M (30 + i)) 10 w)) (mset N (40 + i) (upd (N (40 + i)) 7 w)) := by
  obtain ⟨⟨⟨w0, w1, w2, w3, w4, w5, w6, w7, w8, w9⟩, hq⟩, ⟨v0, v1, v2, v3, v4, v5, v6, v7⟩, -⟩ := h.2.2.2.2.2.1 i hi
  exact ⟨w7, h.rc1 hn hi ⟨⟨w0, w1, w2, w3, w4, w5, w6, rfl, w8, w9⟩, hq⟩ ⟨v0, v1, v2, v3, v4, v5, v6, v7⟩ rfl⟩
theorem S_spoof {i : Nat} {x w : Int32} (h : Rel e n ns nt nr M N) (hn : n < 512) (hk : kRng nr x w (-30) 30 = 0) (hi : i < nr) : N (40 + i) 8 = M (30 + i) 11 ∧ Rel e (n + 1) ns nt nr (mset M (30 + i) (upd (M (30 + i)) 11 w)) (mset N (40 + i) (upd (N (40 + i)) 8 w)) := by
  obtain ⟨⟨⟨w0, w1, w2, w3, w4, w5, w6, w7, w8, w9⟩, hq⟩, ⟨v0, v1, v2, v3, v4, v5, v6, v7⟩, -⟩ := h.2.2.2.2.2.1 i hi
  have hb : Bd w 30 := nBd (kRng_0 hk) (by decide) (by decide)
  exact ⟨w8, h.rc1 hn hi ⟨⟨w0, w1, w2, w3, w4, w5, w6, w7, rfl, w9⟩, hq⟩ ⟨v0, v1, v2, v3, v4, v5, v6, hb⟩ rfl⟩
theorem kRefer_0 {i : Nat} {y : Int32} (hnr : nr ≤ 8) (h : kRefer nr (nI i) y = 0) : y = -1 ∨ ∃ q, q < nr ∧ q ≠ i ∧ y = nI q := by
  unfold kRefer at h
  by_cases c : bI (pOut (nI i) 0 (nI nr - 1)) = 0
  · rw [if_pos c] at h
    by_cases c1 : y = -1
    · exact Or.inl c1
    · rw [if_neg c1] at h
      by_cases c2 : bI (pOut y 0 (nI nr - 1)) = 0
      · rw [if_pos c2] at h
        by_cases c3 : nI i = y
        · rw [if_pos c3] at h; exact absurd h (by decide)
        · obtain ⟨q, hq, eq⟩ := pOut_f hnr c2
          exact Or.inr ⟨q, hq, fun e9 => c3 (by rw [eq, e9]), eq⟩
      · rw [if_neg c2] at h; exact absurd h (by decide)
  · rw [if_neg c] at h; exact absurd h (by decide)
theorem S_refer {i : Nat} {y : Int32} (h : Rel e n ns nt nr M N) (hn : n < 512) (hk : kRefer nr (nI i) y = 0) (hi : i < nr) : N (40 + i) 9 = M (30 + i) 12 ∧ Rel e (n + 1) ns nt nr (mset M (30 + i) (upd (M (30 + i)) 12 y)) (mset N (40 + i) (upd (N (40 + i)) 9 y)) := by
  have h3 := h.1.1.2.2
  obtain ⟨⟨⟨w0, w1, w2, w3, w4, w5, w6, w7, w8, w9⟩, hq⟩, ⟨v0, v1, v2, v3, v4, v5, v6, v7⟩, -⟩ := h.2.2.2.2.2.1 i hi
  exact ⟨w9, h.rc1 hn hi ⟨⟨w0, w1, w2, w3, w4, w5, w6, w7, w8, rfl⟩, hq⟩ ⟨v0, v1, kRefer_0 (by omega) hk, v3, v4, v5, v6, v7⟩ rfl⟩
theorem eKlis {t x : Int32} (h : Rel e n ns nt nr M N) : kLisM N nt ns t x = kListen M nt ns t x := by
  have h1 := h.1.1.1
  have h2 := h.1.1.2.1
  unfold kLisM kListen
  by_cases c : bI (pOut t 0 (nI nt - 1)) = 0
  · rw [if_pos c, if_pos c]
    by_cases c2 : bI (pOut x 0 (nI ns - 1)) = 0
    · rw [if_pos c2, if_pos c2]
      obtain ⟨i, hi, rfl⟩ := pOut_f (by omega) c
      obtain ⟨j, hj, rfl⟩ := pOut_f (by omega) c2
      rw [nI_clamp (by omega), nI_clamp (by omega)]
      have hs := h.2.2.1 j hj
      rw [eHear hs.1 hs.2.1 (h.2.2.2.2.1 i hi).1]
    · rw [if_neg c2, if_neg c2]
  · rw [if_neg c, if_neg c]
theorem nI_le0 {k : Nat} (hk : k < 2 ^ 31) : nI k ≤ 0 ↔ nI k = 0 := by
  have := nI_leI (a := k) (b := 0) hk (by decide)
  constructor
  · intro h
    have h0 : k ≤ 0 := this.mp h
    rw [show k = 0 by omega]
    rfl
  · intro h
    rw [h]
    decide
theorem S_listen {i j : Nat} (h : Rel e n ns nt nr M N) (hn : n < 512) (hi : i < nt) (hj : j < ns) : mListenT N i j 0 = rTake (M (10 + j)) (M 0 0) (M (20 + i) 1) 6 ∧ Rel e (n + 1) ns nt nr (mset M (10 + j) (rTake (M (10 + j)) (M 0 0) (M (20 + i) 1))) (mset N (20 + j) (mListenT N i j)) := by
  obtain ⟨⟨⟨h0, h1, h2, h3, h4, h5⟩, g0, g1, g2, g3, g4⟩, ⟨v1, ⟨k, hk, ek⟩, v3, v4, v5, v6, v7⟩⟩ := h.2.2.1 j hj
  obtain ⟨s0, s1, s2⟩ := h.2.2.2.2.1 i hi
  have hM0 := h.2.1.1
  have hN0 := h.2.1.2.1
  have he := h.1.2.1
  have h3r : Bd (M (10 + j) 3 + M (20 + i) 1) 1008 := Bd.add v5 s2 (by decide)
  have hiss : M (10 + j) 6 + 1 = nI (k + 1) := by rw [ek, nI_1]
  have hc : (N 0 1 - N (20 + j) 1 ≤ 0 ↔ M 0 0 - M (10 + j) 7 = 0) ∨ M (10 + j) 6 ≤ 0 := by
    rcases v3 with ⟨v3, -⟩ | ⟨v3, q, hq, eq⟩
    · exact Or.inr (by rw [v3]; decide)
    · left
      rw [hN0, hM0, g1, eq, nI_sub hq]
      exact nI_le0 (by omega)
  have key : ∀ (a b : Nat → Int32), a = N (20 + j) → b = M (10 + j) → RSt (upd (upd (upd (upd b 6 (M (10 + j) 6 + 1)) 7 (M 0 0)) 8 (M (10 + j) 2)) 9 (M (10 + j) 3 + M (20 + i) 1)) (N (10 + j)) (upd (upd (upd (upd a 0 (N (20 + j) 0 + 1)) 1 (N 0 1)) 2 (N (10 + j) 1)) 3 (N (10 + j) 3 + N (30 + i) 1)) := by
    rintro a b rfl rfl
    exact ⟨⟨h0, h1, h2, h3, h4, h5⟩, show N (20 + j) 0 + 1 = M (10 + j) 6 + 1 by rw [g0], show N 0 1 = M 0 0 by rw [hN0, hM0], h1, show N (10 + j) 3 + N (30 + i) 1 = M (10 + j) 3 + M (20 + i) 1 by rw [h3, s1], g4⟩
  have keyV : ∀ (d : Int32), Bd d 9 → VSt e (n + 1) (upd (upd (upd (upd (upd (M (10 + j)) 10 d) 6 (M (10 + j) 6 + 1)) 7 (M 0 0)) 8 (M (10 + j) 2)) 9 (M (10 + j) 3 + M (20 + i) 1)) := by
    intro d hd
    refine ⟨v1, ⟨k + 1, by omega, hiss⟩, Or.inr ⟨?_, e, Nat.le_refl _, hM0⟩, v4, v5, h3r, hd⟩
    show ¬ M (10 + j) 6 + 1 = 0
    rw [hiss]
    exact nI_ne0 (by omega) (by omega)
  have keyW : VSt e (n + 1) (upd (upd (upd (upd (M (10 + j)) 6 (M (10 + j) 6 + 1)) 7 (M 0 0)) 8 (M (10 + j) 2)) 9 (M (10 + j) 3 + M (20 + i) 1)) := by
    refine ⟨v1, ⟨k + 1, by omega, hiss⟩, Or.inr ⟨?_, e, Nat.le_refl _, hM0⟩, v4, v5, h3r, v7⟩
    show ¬ M (10 + j) 6 + 1 = 0
    rw [hiss]
    exact nI_ne0 (by omega) (by omega)
  refine ⟨?_, ?_⟩
  · show N (20 + j) 0 + 1 = M (10 + j) 6 + 1
    rw [g0]
  · unfold rTake mListenT
    by_cases c1 : M (10 + j) 6 ≤ 0
    · rw [if_pos c1, if_pos (by rw [g0]; exact c1)]
      exact h.st2 hn hj (key _ _ rfl rfl) keyW
    · have hcc := hc.resolve_right c1
      have c1' : ¬ N (20 + j) 0 ≤ 0 := by rw [g0]; exact c1
      rw [if_neg c1, if_neg c1']
      by_cases c2 : M 0 0 - M (10 + j) 7 = 0
      · rw [if_pos c2, if_pos (hcc.mpr c2)]
        exact h.st2 hn hj (key _ _ rfl rfl) keyW
      · rw [if_neg c2, if_neg (fun q => c2 (hcc.mp q))]
        refine h.st2 hn hj ?_ (keyV _ (Bd.held _ (by decide) (by decide) (by decide)))
        refine ⟨⟨h0, h1, h2, h3, h4, h5⟩, show N (20 + j) 0 + 1 = M (10 + j) 6 + 1 by rw [g0], show N 0 1 = M 0 0 by rw [hN0, hM0], h1, show N (10 + j) 3 + N (30 + i) 1 = M (10 + j) 3 + M (20 + i) 1 by rw [h3, s1], ?_⟩
        show pHeld ((N (10 + j) 3 + N (30 + i) 1 - N (20 + j) 3) / (N 0 1 - N (20 + j) 1)) 9 = pHeld ((M (10 + j) 3 + M (20 + i) 1 - M (10 + j) 9) / (M 0 0 - M (10 + j) 7)) 9
        rw [h3, s1, g3, g1, hN0, hM0]
end ST1
