-- the model's world when it is made
def offK (k : Nat) : Nat := if k = 1 then 0 else if k = 2 then 9 else if k = 3 then 18 else if k = 4 then 22 else if k = 5 then 26 else if k < 10 then 48 + k else if k < 20 then k - 9 else if k < 30 then k - 10 else if k < 40 then k - 11 else if k < 50 then k - 17 else if k < 60 then 27 + 9 * (k - 50) else 28 + 9 * ((k - 60) / 8) + (k - 60) % 8
def invK (o : Nat) : Nat := if o = 0 then 1 else if o < 9 then o + 9 else if o = 9 then 2 else if o < 18 then o + 10 else if o = 18 then 3 else if o < 22 then o + 11 else if o = 22 then 4 else if o < 26 then o + 17 else if o = 26 then 5 else if 54 ≤ o then o - 48 else if (o - 27) % 9 = 0 then 50 + (o - 27) / 9 else 60 + 8 * ((o - 28) / 9) + (o - 28) % 9
def mlb (k : Nat) : Bool := decide ((1 ≤ k ∧ k < 18) ∨ (20 ≤ k ∧ k < 28) ∨ (30 ≤ k ∧ k < 33) ∨ (40 ≤ k ∧ k < 43) ∨ (50 ≤ k ∧ k < 53) ∨ (60 ≤ k ∧ k < 84))
theorem inv_off : ∀ k, k < 84 → mlb k = true → invK (offK k) = k := by decide +kernel
def mdN (a w9 : Nat) (k : Nat) : Nat := if k = 0 then a else w9 + offK k
theorem mlb_of {k : Nat} (h : ML k) (h0 : k ≠ 0) : k < 84 ∧ mlb k = true := by
  unfold ML MKI at h
  refine ⟨by omega, ?_⟩
  unfold mlb
  exact decide_eq_true (by omega)
theorem mdN_MI {a w9 : Nat} (ha : a < w9) : MI (mdN a w9) := by
  intro k k' h h' e
  unfold mdN at e
  by_cases h0 : k = 0 <;> by_cases h0' : k' = 0
  · rw [h0, h0']
  · rw [if_pos h0, if_neg h0'] at e; omega
  · rw [if_neg h0, if_pos h0'] at e; omega
  · rw [if_neg h0, if_neg h0'] at e
    obtain ⟨a1, a2⟩ := mlb_of h h0
    obtain ⟨b1, b2⟩ := mlb_of h' h0'
    have e9 : offK k = offK k' := by omega
    rw [← inv_off k a1 a2, ← inv_off k' b1 b2, e9]
def ps7 : List Value := [.int 0, .int 0, .int 0, .null, .null, .null, .null, .null, .int 0, .int 0, .int 0, .null, .null, .null, .null, .int 0, .int 0, .int 0, .long 0, .long 0]
def mZ : Nat → Nat → Int32 := fun _ _ => 0
theorem off_st : ∀ i, i < 8 → offK (10 + i) = 1 + i := by decide +kernel
theorem off_ms : ∀ i, i < 8 → offK (20 + i) = 10 + i := by decide +kernel
theorem off_sn : ∀ i, i < 3 → offK (30 + i) = 19 + i := by decide +kernel
theorem off_rc : ∀ i, i < 3 → offK (40 + i) = 23 + i := by decide +kernel
theorem off_ro : ∀ i, i < 3 → offK (50 + i) = 27 + i * 9 := by decide +kernel
theorem off_rw : ∀ i, i < 3 → ∀ j, j < 8 → offK (60 + 8 * i + j) = 27 + i * 9 + 1 + j := by decide +kernel
theorem rfs_of {n : Nat} {g g' : Nat → Nat} (h : ∀ j, j < n → g j = g' j) : rfs (fun j => if j < n then some (g j) else none) = rfs (fun j => if j < n then some (g' j) else none) := by
  congr 1
  funext j
  by_cases c : j < n
  · rw [if_pos c, if_pos c, h j c]
  · rw [if_neg c, if_neg c]
theorem md_st {a w9 i : Nat} (hi : i < 8) : mdN a w9 (10 + i) = w9 + 1 + i := by unfold mdN; rw [if_neg (by omega), off_st i hi, Nat.add_assoc]
theorem md_ms {a w9 i : Nat} (hi : i < 8) : mdN a w9 (20 + i) = w9 + 10 + i := by unfold mdN; rw [if_neg (by omega), off_ms i hi, Nat.add_assoc]
theorem md_sn {a w9 i : Nat} (hi : i < 3) : mdN a w9 (30 + i) = w9 + 19 + i := by unfold mdN; rw [if_neg (by omega), off_sn i hi, Nat.add_assoc]
theorem md_rc {a w9 i : Nat} (hi : i < 3) : mdN a w9 (40 + i) = w9 + 23 + i := by unfold mdN; rw [if_neg (by omega), off_rc i hi, Nat.add_assoc]
theorem md_ro {a w9 i : Nat} (hi : i < 3) : mdN a w9 (50 + i) = w9 + 27 + i * 9 := by unfold mdN; rw [if_neg (by omega), off_ro i hi, Nat.add_assoc]
theorem md_rw {a w9 i j : Nat} (hi : i < 3) (hj : j < 8) : mdN a w9 (60 + 8 * i + j) = w9 + 27 + i * 9 + 1 + j := by unfold mdN; rw [if_neg (by omega), off_rw i hi j hj]; omega
theorem mdN_MW {D : va_G} {cy : Nat → ClassId} {a w9 : Nat} {H : Heap}
    (ho : va_P D vwCl [(a, .inr (7, [.int 0, .int 0, .int 0, .ref w9, .ref (w9 + 9), .ref (w9 + 18), .ref (w9 + 22), .ref (w9 + 26), .int 0, .int 0, .int 0, .ref (w9 + 54), .ref (w9 + 55), .ref (w9 + 56), .ref (w9 + 57), .int 0, .int 0, .int 0, .long 0, .long 0]))] H)
    (h1 : va_P D vwCl [(w9, .inl (cy 5, 8, rfs (fun i => if i < 8 then some (w9 + 1 + i) else none)))] H) (f1 : ∀ i, i < 8 → va_P D vwCl [(w9 + 1 + i, .inl (cy 0, 6, .inl (fun _ => 0)))] H)
    (h2 : va_P D vwCl [(w9 + 9, .inl (cy 5, 8, rfs (fun i => if i < 8 then some (w9 + 10 + i) else none)))] H) (f2 : ∀ i, i < 8 → va_P D vwCl [(w9 + 10 + i, .inl (cy 0, 5, .inl (fun _ => 0)))] H)
    (h3 : va_P D vwCl [(w9 + 18, .inl (cy 5, 3, rfs (fun i => if i < 3 then some (w9 + 19 + i) else none)))] H) (f3 : ∀ i, i < 3 → va_P D vwCl [(w9 + 19 + i, .inl (cy 0, 2, .inl (fun _ => 0)))] H)
    (h4 : va_P D vwCl [(w9 + 22, .inl (cy 5, 3, rfs (fun i => if i < 3 then some (w9 + 23 + i) else none)))] H) (f4 : ∀ i, i < 3 → va_P D vwCl [(w9 + 23 + i, .inl (cy 0, 22, .inl (fun _ => 0)))] H)
    (h5 : va_P D vwCl [(w9 + 26, .inl (cy 6, 3, rfs (fun i => if i < 3 then some (w9 + 27 + i * 9) else none)))] H) (g5 : ∀ i, i < 3 → va_P D vwCl [(w9 + 27 + i * 9, .inl (cy 5, 8, rfs (fun j => if j < 8 then some (w9 + 27 + i * 9 + 1 + j) else none)))] H)
    (f5 : ∀ i j, i < 3 → j < 8 → va_P D vwCl [(w9 + 27 + i * 9 + 1 + j, .inl (cy 0, 12, .inl (fun _ => 0)))] H)
    (s6 : va_P D vwCl [(w9 + 54, .inl (cy 0, 8, .inl (fun _ => 0)))] H) (s7 : va_P D vwCl [(w9 + 55, .inl (cy 0, 8, .inl (fun _ => 0)))] H) (s8 : va_P D vwCl [(w9 + 56, .inl (cy 0, 8, .inl (fun _ => 0)))] H) (s9 : va_P D vwCl [(w9 + 57, .inl (cy 0, 8, .inl (fun _ => 0)))] H) :
    MW D cy (mdN a w9) mZ 0 0 H := by
  intro k e he
  have hl := mC_live he
  by_cases hb : MKI k
  · rw [mC_i hb] at he
    cases he
    show va_P D vwCl [(mdN a w9 k, .inl (cy 0, mLen k, .inl (fun _ => 0)))] H
    rcases hb with hb | hb | hb | hb | hb
    · rcases Nat.lt_or_ge k 10 with q | q
      · rcases (show k = 6 ∨ k = 7 ∨ k = 8 ∨ k = 9 by omega) with e | e | e | e <;> subst e
        · exact s6
        · exact s7
        · exact s8
        · exact s9
      · obtain ⟨i, rfl⟩ : ∃ i, k = 10 + i := ⟨k - 10, by omega⟩
        have hi : i < 8 := by omega
        rw [md_st hi, ml_st hi]
        exact f1 i hi
    · obtain ⟨i, rfl⟩ : ∃ i, k = 20 + i := ⟨k - 20, by omega⟩
      have hi : i < 8 := by omega
      rw [md_ms hi, ml_ms hi]
      exact f2 i hi
    · obtain ⟨i, rfl⟩ : ∃ i, k = 30 + i := ⟨k - 30, by omega⟩
      have hi : i < 3 := by omega
      rw [md_sn hi, ml_sn hi]
      exact f3 i hi
    · obtain ⟨i, rfl⟩ : ∃ i, k = 40 + i := ⟨k - 40, by omega⟩
      have hi : i < 3 := by omega
      rw [md_rc hi, ml_rc hi]
      exact f4 i hi
    · obtain ⟨i, j, hi, hj, rfl⟩ : ∃ i j, i < 3 ∧ j < 8 ∧ k = 60 + 8 * i + j := ⟨(k - 60) / 8, (k - 60) % 8, by omega, by omega, by omega⟩
      rw [md_rw hi hj, ml_rw hi hj]
      exact f5 i j hi hj
  · rcases hl with hl | hl | hl
    · rcases (show k = 0 ∨ k = 1 ∨ k = 2 ∨ k = 3 ∨ k = 4 ∨ k = 5 by omega) with e9 | e9 | e9 | e9 | e9 | e9 <;> subst e9
      · cases he
        exact ho
      · cases he
        rw [rfs_of (fun j hj => md_st (a := a) (w9 := w9) hj)]
        exact h1
      · cases he
        rw [rfs_of (fun j hj => md_ms (a := a) (w9 := w9) hj)]
        exact h2
      · cases he
        rw [rfs_of (fun j hj => md_sn (a := a) (w9 := w9) hj)]
        exact h3
      · cases he
        rw [rfs_of (fun j hj => md_rc (a := a) (w9 := w9) hj)]
        exact h4
      · cases he
        rw [rfs_of (fun j hj => md_ro (a := a) (w9 := w9) hj)]
        exact h5
    · exact absurd hl hb
    · obtain ⟨i, rfl⟩ : ∃ i, k = 50 + i := ⟨k - 50, by omega⟩
      have hi : i < 3 := by omega
      unfold mC at he
      rw [if_neg (by omega), if_neg (fun q => hb (mkb_iff.mp q)), if_neg (by omega), if_neg (by omega), if_neg (by omega), if_neg (by omega), if_neg (by omega), if_pos (by omega)] at he
      cases he
      rw [md_ro hi, show 50 + i - 50 = i by omega, rfs_of (fun j hj => md_rw (a := a) (w9 := w9) hi hj)]
      exact g5 i hi
