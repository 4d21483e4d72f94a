-- the two worlds say the same
def RSt (r a t : Nat → Int32) : Prop := (a 0 = r 0 ∧ a 1 = r 2 ∧ a 2 = r 1 ∧ a 3 = r 3 ∧ a 4 = r 4 ∧ a 5 = r 5) ∧ (t 0 = r 6 ∧ t 1 = r 7 ∧ t 2 = r 8 ∧ t 3 = r 9 ∧ t 4 = r 10)
def VSt (e n : Nat) (r : Nat → Int32) : Prop := (r 5 = 0 ∨ r 5 = 1) ∧ (∃ k, k ≤ n ∧ r 6 = nI k) ∧ ((r 6 = 0 ∧ r 7 = -1) ∨ (¬ r 6 = 0 ∧ ∃ q, q ≤ e ∧ r 7 = nI q)) ∧ Bd (r 0) 200 ∧ Bd (r 3) 999 ∧ Bd (r 9) 1008 ∧ Bd (r 10) 9
def RRc (v t w : Nat → Int32) : Prop := (w 0 = v 4 ∧ w 1 = v 5 ∧ w 2 = v 1 ∧ w 3 = v 6 ∧ w 4 = v 7 ∧ w 5 = v 8 ∧ (w 6 = v 9 ∨ (v 8 = 0 ∧ v 9 = 0 ∧ w 6 = 1)) ∧ w 7 = v 10 ∧ w 8 = v 11 ∧ w 9 = v 12) ∧ (w 10 = t 1 ∧ w 11 = t 2 ∧ w 12 = t 5 ∧ w 13 = t 6 ∧ w 14 = t 7 ∧ w 15 = t 8 ∧ w 16 = t 9 ∧ w 17 = t 10 ∧ w 18 = t 11 ∧ w 19 = t 12 ∧ w 20 = t 3 ∧ w 21 = t 4)
def VRc (nr i : Nat) (v : Nat → Int32) : Prop := v 0 = nI i ∧ (v 9 = 0 ∨ v 9 = 1) ∧ (v 12 = -1 ∨ ∃ q, q < nr ∧ q ≠ i ∧ v 12 = nI q) ∧ Bd (v 1) 99 ∧ Bd (v 4) 12 ∧ Bd (v 5) 12 ∧ Bd (v 8) 9 ∧ Bd (v 11) 30
def VTr (e n : Nat) (t : Nat → Int32) : Prop := (∃ k, k ≤ n ∧ t 0 = nI k) ∧ ((t 0 = 0 ∧ t 1 = -1) ∨ (¬ t 0 = 0 ∧ ∃ q, q ≤ e ∧ t 1 = nI q)) ∧ ∃ k, k ≤ n ∧ t 3 = nI k
def In2 (x : Int32) : Prop := bI (pOut x (-2) 2) = 0
def RSgS (n : Nat) (g h : Nat → Int32) : Prop := (h 0 = g 3 ∧ h 1 = g 4 ∧ h 2 = g 5 ∧ h 3 = g 6 ∧ h 4 = g 7) ∧ ∃ a b, 1 ≤ a ∧ a ≤ n ∧ b ≤ n ∧ g 7 = nI a ∧ g 8 = nI b ∧ (1 ≤ b ↔ In2 (g 6)) ∧ (2 ≤ b ↔ 2 ≤ a ∧ In2 (g 6) ∧ In2 (h 8))
def RSg (n : Nat) (g h : Nat → Int32) : Prop := (h 11 = g 0 ∧ h 5 = g 1 ∧ h 6 = g 2 ∧ h 7 = g 9) ∧ (g 0 = 0 ∨ g 0 = 1) ∧ (g 1 = 0 ∨ g 1 = 1) ∧ (g 2 = 0 ∨ g 2 = 1) ∧ (g 0 = 0 → g 1 = 0 ∧ g 2 = 0) ∧ (g 0 = 1 → RSgS n g h) ∧ Bd (g 10) 3000000
def ROf (M N : Nat → Nat → Int32) (i : Nat) : Prop := ∀ j, j < 8 → ¬ M (60 + 8 * i + j) 2 = 0 → M (60 + 8 * i + j) 10 = N (60 + 8 * i + j) 10 - pFDiv (mSumR N i 8) (N (40 + i) 11) ∧ ¬ N (40 + i) 11 = 0
def RRx (e n ns nr i : Nat) (M N : Nat → Nat → Int32) : Prop := RRc (M (30 + i)) (M (50 + i)) (N (40 + i)) ∧ VRc nr i (M (30 + i)) ∧ VTr e n (M (50 + i)) ∧ (∀ j, j < 8 → RSg n (M (60 + 8 * i + j)) (N (60 + 8 * i + j))) ∧ (∀ j, ns ≤ j → j < 8 → M (60 + 8 * i + j) 0 = 0) ∧ ROf M N i
def Rel (e n ns nt nr : Nat) (M N : Nat → Nat → Int32) : Prop :=
  (LB ns nt nr ∧ e ≤ 48 * n ∧ n ≤ 512) ∧ (M 0 0 = nI e ∧ N 0 1 = nI e ∧ MN N ns nt nr ∧ N 0 2 = pSumR M 7 nr) ∧
  (∀ j, j < ns → RSt (M (10 + j)) (N (10 + j)) (N (20 + j)) ∧ VSt e n (M (10 + j))) ∧ (∀ j, ns ≤ j → j < 8 → ∀ c, N (20 + j) c = 0) ∧
  (∀ i, i < nt → N (30 + i) 0 = M (20 + i) 0 ∧ N (30 + i) 1 = M (20 + i) 1 ∧ Bd (M (20 + i) 1) 9) ∧
  (∀ i, i < nr → RRx e n ns nr i M N) ∧
  (∀ i, nr ≤ i → i < 3 → (∀ c, N (40 + i) c = 0) ∧ ∀ j, j < 8 → ∀ c, N (60 + 8 * i + j) c = 0)
theorem mSumR_of8 {N N' : Nat → Nat → Int32} {q : Nat} (h : ∀ j, j < 8 → N' (60 + 8 * q + j) = N (60 + 8 * q + j)) : ∀ n, n ≤ 8 → mSumR N' q n = mSumR N q n
  | 0, _ => by rw [mSumR_0, mSumR_0]
  | n + 1, hn => by rw [mSumR_s, mSumR_s, mSumR_of8 h n (by omega), h n (by omega)]
theorem pSumR_of {M M' : Nat → Nat → Int32} : ∀ n, (∀ j, j < n → M' (50 + j) 0 = M (50 + j) 0) → pSumR M' 7 n = pSumR M 7 n
  | 0, _ => by unfold pSumR; rfl
  | n + 1, h => by rw [pSumR_s, pSumR_s, pSumR_of n (fun j hj => h j (by omega)), if_pos rfl, if_pos rfl, h n (by omega)]
theorem VSt.mono {e n e' n' : Nat} {r : Nat → Int32} (h : VSt e n r) (he : e ≤ e') (hn : n ≤ n') : VSt e' n' r := by
  obtain ⟨h1, ⟨k, hk, ek⟩, h3, h4⟩ := h
  refine ⟨h1, ⟨k, by omega, ek⟩, ?_, h4⟩
  rcases h3 with h3 | ⟨h3, q, hq, eq⟩
  · exact Or.inl h3
  · exact Or.inr ⟨h3, q, by omega, eq⟩
theorem VTr.mono {e n e' n' : Nat} {t : Nat → Int32} (h : VTr e n t) (he : e ≤ e') (hn : n ≤ n') : VTr e' n' t := by
  obtain ⟨⟨k, hk, ek⟩, h3, u, hu, eu⟩ := h
  refine ⟨⟨k, by omega, ek⟩, ?_, u, by omega, eu⟩
  rcases h3 with h3 | ⟨h3, q, hq, eq⟩
  · exact Or.inl h3
  · exact Or.inr ⟨h3, q, by omega, eq⟩
theorem RSg.mono {n n' : Nat} {g h : Nat → Int32} (hr : RSg n g h) (hn : n ≤ n') : RSg n' g h := by
  obtain ⟨h1, h2, h3, h4, h5, h6, h7⟩ := hr
  refine ⟨h1, h2, h3, h4, h5, fun q => ?_, h7⟩
  obtain ⟨a1, a, b, b1, b2, b3, b4⟩ := h6 q
  exact ⟨a1, a, b, b1, by omega, by omega, b4⟩
theorem VRc.mono {nr nr' i : Nat} {v : Nat → Int32} (h : VRc nr i v) (hn : nr ≤ nr') : VRc nr' i v := by
  obtain ⟨h1, h2, h3, h4⟩ := h
  refine ⟨h1, h2, ?_, h4⟩
  rcases h3 with h3 | ⟨q, hq, h3⟩
  · exact Or.inl h3
  · exact Or.inr ⟨q, by omega, h3⟩
theorem ROf.of {M N M' N' : Nat → Nat → Int32} {i : Nat} (h : ROf M N i) (h4 : N' (40 + i) 11 = N (40 + i) 11) (hM : ∀ j, j < 8 → M' (60 + 8 * i + j) = M (60 + 8 * i + j)) (hN : ∀ j, j < 8 → N' (60 + 8 * i + j) = N (60 + 8 * i + j)) : ROf M' N' i := by
  intro j hj hu
  rw [hM j hj] at hu ⊢
  rw [hN j hj, mSumR_of8 hN 8 (Nat.le_refl _), h4]
  exact h j hj hu
theorem RRx.of {e n ns nr e' n' ns' nr' i : Nat} {M N M' N' : Nat → Nat → Int32} (h : RRx e n ns nr i M N) (he : e ≤ e') (hn : n ≤ n') (hns : ns ≤ ns') (hnr : nr ≤ nr') (h3 : M' (30 + i) = M (30 + i)) (h5 : M' (50 + i) = M (50 + i)) (h6 : ∀ j, j < 8 → M' (60 + 8 * i + j) = M (60 + 8 * i + j)) (h4 : N' (40 + i) = N (40 + i)) (hN : ∀ j, j < 8 → N' (60 + 8 * i + j) = N (60 + 8 * i + j)) : RRx e' n' ns' nr' i M' N' := by
  obtain ⟨a1, a2, a3, a4, a5, a6⟩ := h
  refine ⟨by rw [h3, h5, h4]; exact a1, by rw [h3]; exact a2.mono hnr, by rw [h5]; exact a3.mono he hn, fun j hj => by rw [h6 j hj, hN j hj]; exact (a4 j hj).mono hn, fun j h1 h2 => by rw [h6 j h2]; exact a5 j (by omega) h2, a6.of (by rw [h4]) h6 hN⟩
theorem Rel.fr {e n n' ns nt nr : Nat} {M N N' : Nat → Nat → Int32} (h : Rel e n ns nt nr M N) (hn : n ≤ n') (h512 : n' ≤ 512) (h0 : ∀ c, 1 ≤ c → c < 15 → N' 0 c = N 0 c) (hk : ∀ k, 10 ≤ k → N' k = N k) : Rel e n' ns nt nr M N' := by
  obtain ⟨⟨hL, he, h5⟩, ⟨hM0, hN0, hMN, hOb⟩, hS, hS0, hT, hR, hR0⟩ := h
  refine ⟨⟨hL, by omega, h512⟩, ⟨hM0, by rw [h0 1 (by decide) (by decide)]; exact hN0, ⟨by rw [h0 8 (by decide) (by decide)]; exact hMN.1, by rw [h0 9 (by decide) (by decide)]; exact hMN.2.1, by rw [h0 10 (by decide) (by decide)]; exact hMN.2.2⟩, by rw [h0 2 (by decide) (by decide)]; exact hOb⟩, fun j hj => ?_, fun j h1 h2 c => ?_, fun i hi => ?_, fun i hi => ?_, fun i h1 h2 => ?_⟩
  · rw [hk (10 + j) (by omega), hk (20 + j) (by omega)]
    exact ⟨(hS j hj).1, (hS j hj).2.mono (Nat.le_refl _) hn⟩
  · rw [hk (20 + j) (by omega)]
    exact hS0 j h1 h2 c
  · rw [hk (30 + i) (by omega)]
    exact hT i hi
  · exact (hR i hi).of (Nat.le_refl _) hn (Nat.le_refl _) (Nat.le_refl _) rfl rfl (fun _ _ => rfl) (hk _ (by omega)) (fun j _ => hk _ (by omega))
  · refine ⟨fun c => by rw [hk (40 + i) (by omega)]; exact (hR0 i h1 h2).1 c, fun j hj c => ?_⟩
    rw [hk (60 + 8 * i + j) (by omega)]
    exact (hR0 i h1 h2).2 j hj c
theorem Rel.st {e n n' ns nt nr j : Nat} {M N N' : Nat → Nat → Int32} {r a t : Nat → Int32} (h : Rel e n ns nt nr M N) (hn : n ≤ n') (h512 : n' ≤ 512) (hj : j < ns) (hr : RSt r a t) (hv : VSt e n' r) (h0 : ∀ c, 1 ≤ c → c < 15 → N' 0 c = N 0 c) (hka : N' (10 + j) = a) (hkt : N' (20 + j) = t) (hk : ∀ k, 10 ≤ k → k ≠ 10 + j → k ≠ 20 + j → N' k = N k) : Rel e n' ns nt nr (mset M (10 + j) r) N' := by
  obtain ⟨⟨hL, he, h5⟩, ⟨hM0, hN0, hMN, hOb⟩, hS, hS0, hT, hR, hR0⟩ := h
  have hL1 := hL.1
  have hL2 := hL.2.1
  have hL3 := hL.2.2
  refine ⟨⟨hL, by omega, h512⟩, ⟨by rw [mset_n (by omega)]; exact hM0, by rw [h0 1 (by decide) (by decide)]; exact hN0, ⟨by rw [h0 8 (by decide) (by decide)]; exact hMN.1, by rw [h0 9 (by decide) (by decide)]; exact hMN.2.1, by rw [h0 10 (by decide) (by decide)]; exact hMN.2.2⟩, by rw [h0 2 (by decide) (by decide), pSumR_of (M := M) nr (fun q _ => by rw [mset_n (by omega)])]; exact hOb⟩, fun q hq => ?_, fun q h1 h2 c => ?_, fun i hi => ?_, fun i hi => ?_, fun i h1 h2 => ?_⟩
  · by_cases e9 : q = j
    · subst e9
      rw [mset_s, hka, hkt]
      exact ⟨hr, hv⟩
    · rw [mset_n (by omega), hk (10 + q) (by omega) (by omega) (by omega), hk (20 + q) (by omega) (by omega) (by omega)]
      exact ⟨(hS q hq).1, (hS q hq).2.mono (Nat.le_refl _) hn⟩
  · rw [hk (20 + q) (by omega) (by omega) (by omega)]
    exact hS0 q h1 h2 c
  · rw [hk (30 + i) (by omega) (by omega) (by omega), mset_n (by omega)]
    exact hT i hi
  · exact (hR i hi).of (Nat.le_refl _) hn (Nat.le_refl _) (Nat.le_refl _) (mset_n (by omega)) (mset_n (by omega)) (fun _ _ => mset_n (by omega)) (hk _ (by omega) (by omega) (by omega)) (fun q _ => hk _ (by omega) (by omega) (by omega))
  · refine ⟨fun c => by rw [hk (40 + i) (by omega) (by omega) (by omega)]; exact (hR0 i h1 h2).1 c, fun q hq c => ?_⟩
    rw [hk (60 + 8 * i + q) (by omega) (by omega) (by omega)]
    exact (hR0 i h1 h2).2 q hq c
theorem Rel.rc {e n n' ns nt nr i : Nat} {M N N' : Nat → Nat → Int32} {v w : Nat → Int32} (h : Rel e n ns nt nr M N) (hn : n ≤ n') (h512 : n' ≤ 512) (hi : i < nr) (hr : RRc v (M (50 + i)) w) (hv : VRc nr i v) (h11 : w 11 = N (40 + i) 11) (h0 : ∀ c, 1 ≤ c → c < 15 → N' 0 c = N 0 c) (hkw : N' (40 + i) = w) (hk : ∀ k, 10 ≤ k → k ≠ 40 + i → N' k = N k) : Rel e n' ns nt nr (mset M (30 + i) v) N' := by
  obtain ⟨⟨hL, he, h5⟩, ⟨hM0, hN0, hMN, hOb⟩, hS, hS0, hT, hR, hR0⟩ := h
  have hL1 := hL.1
  have hL2 := hL.2.1
  have hL3 := hL.2.2
  refine ⟨⟨hL, by omega, h512⟩, ⟨by rw [mset_n (by omega)]; exact hM0, by rw [h0 1 (by decide) (by decide)]; exact hN0, ⟨by rw [h0 8 (by decide) (by decide)]; exact hMN.1, by rw [h0 9 (by decide) (by decide)]; exact hMN.2.1, by rw [h0 10 (by decide) (by decide)]; exact hMN.2.2⟩, by rw [h0 2 (by decide) (by decide), pSumR_of (M := M) nr (fun q _ => by rw [mset_n (by omega)])]; exact hOb⟩, fun q hq => ?_, fun q h1 h2 c => ?_, fun q hq => ?_, fun q hq => ?_, fun q h1 h2 => ?_⟩
  · rw [mset_n (by omega), hk (10 + q) (by omega) (by omega), hk (20 + q) (by omega) (by omega)]
    exact ⟨(hS q hq).1, (hS q hq).2.mono (Nat.le_refl _) hn⟩
  · rw [hk (20 + q) (by omega) (by omega)]
    exact hS0 q h1 h2 c
  · rw [hk (30 + q) (by omega) (by omega), mset_n (by omega)]
    exact hT q hq
  · by_cases e9 : q = i
    · subst e9
      obtain ⟨a1, a2, a3, a4, a5, a6⟩ := hR q hq
      refine ⟨by rw [mset_s, mset_n (by omega), hkw]; exact hr, by rw [mset_s]; exact hv, by rw [mset_n (by omega)]; exact a3.mono (Nat.le_refl _) hn, fun u hu => ?_, fun u h1 h2 => ?_, a6.of (by rw [hkw]; exact h11) (fun u hu => mset_n (by omega)) (fun u hu => hk _ (by omega) (by omega))⟩
      · rw [mset_n (by omega), hk (60 + 8 * q + u) (by omega) (by omega)]
        exact (a4 u hu).mono hn
      · rw [mset_n (by omega)]
        exact a5 u h1 h2
    · exact (hR q hq).of (Nat.le_refl _) hn (Nat.le_refl _) (Nat.le_refl _) (mset_n (by omega)) (mset_n (by omega)) (fun _ _ => mset_n (by omega)) (hk _ (by omega) (by omega)) (fun u _ => hk _ (by omega) (by omega))
  · refine ⟨fun c => by rw [hk (40 + q) (by omega) (by omega)]; exact (hR0 q h1 h2).1 c, fun u hu c => ?_⟩
    rw [hk (60 + 8 * q + u) (by omega) (by omega)]
    exact (hR0 q h1 h2).2 u hu c
