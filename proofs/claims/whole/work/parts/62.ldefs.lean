-- the law's wrappers: what their worlds' cells are
theorem CA.addSt {ad : Nat → Nat} {ns nt nr q0 q : Nat} (h : CA (adA ad (10 + ns) q0) (ns + 1) nt nr q) : CA ad ns nt nr q ∨ q0 ≤ q := by
  obtain ⟨k, hk, rfl⟩ := h
  by_cases e : k = 10 + ns
  · rw [e, adA_s]; exact Or.inr (Nat.le_refl _)
  · rw [adA_n e]; exact Or.inl (CA.of (by unfold LV at hk ⊢; omega))
theorem CA.addSn {ad : Nat → Nat} {ns nt nr q0 q : Nat} (h : CA (adA ad (20 + nt) q0) ns (nt + 1) nr q) : CA ad ns nt nr q ∨ q0 ≤ q := by
  obtain ⟨k, hk, rfl⟩ := h
  by_cases e : k = 20 + nt
  · rw [e, adA_s]; exact Or.inr (Nat.le_refl _)
  · rw [adA_n e]; exact Or.inl (CA.of (by unfold LV at hk ⊢; omega))
theorem CA.addRc {ad : Nat → Nat} {ns nt nr q0 q : Nat} (h3 : nr < 3) (h : CA (adR ad nr q0) ns nt (nr + 1) q) : CA ad ns nt nr q ∨ q0 ≤ q := by
  obtain ⟨k, hk, rfl⟩ := h
  by_cases e : NK nr k
  · exact Or.inr (adR_k e h3)
  · rw [adR_n e]; exact Or.inl (CA.of (by unfold LV at hk ⊢; unfold NK at e; omega))
theorem kOne_2 {n : Nat} {x : Int32} : ¬ kOne n x = 2 := by
  unfold kOne
  split <;> decide
theorem kIn_2 {x lo hi : Int32} : ¬ kIn x lo hi = 2 := by
  unfold kIn
  split <;> decide
theorem kTwo_2 {n n2 : Nat} {x y : Int32} : ¬ kTwo n n2 x y = 2 := by
  unfold kTwo
  split
  · split <;> decide
  · decide
