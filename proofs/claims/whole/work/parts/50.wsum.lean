-- sums of weights
def wS (N : Nat → Nat → Int32) : Nat → Nat
  | 0 => 0
  | j + 1 => wS N j + (N 9 j).toNatClampNeg
def wC (N : Nat → Nat → Int32) : Nat → Nat
  | 0 => 0
  | j + 1 => wC N j + (if N 9 j = 0 then 0 else 1)
def WOK (N : Nat → Nat → Int32) (n : Nat) : Prop := ∀ j, j < n → N 9 j = 0 ∨ N 9 j = 1 ∨ N 9 j = 2 ∨ N 9 j = 4
theorem wS_s (N : Nat → Nat → Int32) (j : Nat) : wS N (j + 1) = wS N j + (N 9 j).toNatClampNeg := by rw [wS]
theorem wC_s (N : Nat → Nat → Int32) (j : Nat) : wC N (j + 1) = wC N j + (if N 9 j = 0 then 0 else 1) := by rw [wC]
theorem mAw_nI {N : Nat → Nat → Int32} : ∀ {n : Nat}, WOK N n → mAw N n = nI (wS N n) ∧ wC N n ≤ wS N n ∧ wS N n ≤ 4 * n
  | 0, _ => ⟨by rw [mAw_0, wS]; exact nI_0.symm, by rw [wC, wS]; exact Nat.le_refl _, by rw [wS]; exact Nat.zero_le _⟩
  | n + 1, h => by
    obtain ⟨h1, h2, h3⟩ := mAw_nI (n := n) (fun j hj => h j (by omega))
    rw [mAw_s, wS_s, wC_s]
    rcases h n (by omega) with e | e | e | e
    · rw [if_pos e, if_pos e, e, show Int32.toNatClampNeg 0 = 0 from clI 0 (by decide)]
      exact ⟨h1, h2, by omega⟩
    · rw [e, if_neg (by decide), if_neg (by decide), show Int32.toNatClampNeg 1 = 1 from clI 1 (by decide), h1]
      exact ⟨nI_add _ 1, by omega, by omega⟩
    · rw [e, if_neg (by decide), if_neg (by decide), show Int32.toNatClampNeg 2 = 2 from clI 2 (by decide), h1]
      exact ⟨nI_add _ 2, by omega, by omega⟩
    · rw [e, if_neg (by decide), if_neg (by decide), show Int32.toNatClampNeg 4 = 4 from clI 4 (by decide), h1]
      exact ⟨nI_add _ 4, by omega, by omega⟩
theorem mAw_ne {N : Nat → Nat → Int32} {n : Nat} (h : WOK N n) (hn : n ≤ 8) (h1 : 1 ≤ wC N n) : ¬ mAw N n = 0 := by
  obtain ⟨e, a, b⟩ := mAw_nI h
  rw [e]
  exact nI_ne0 (by omega) (by omega)
theorem WOK.less {N : Nat → Nat → Int32} {n : Nat} (h : WOK N n) (k : Nat) : WOK (mset N 9 (upd (N 9) k 0)) n := fun j hj => by
  rw [mset_s]
  unfold upd
  by_cases e : j = k
  · rw [if_pos e]; exact Or.inl rfl
  · rw [if_neg e]; exact h j hj
theorem wC_less (N : Nat → Nat → Int32) (k : Nat) : ∀ n, wC N n ≤ wC (mset N 9 (upd (N 9) k 0)) n + (if k < n then 1 else 0)
  | 0 => by rw [wC, wC]; omega
  | n + 1 => by
    have h := wC_less N k n
    rw [wC_s, wC_s, mset_s]
    by_cases e : n = k
    · subst e
      rw [upd_at, if_pos (rfl : (0 : Int32) = 0), if_pos (Nat.lt_succ_self n)]
      rw [if_neg (Nat.lt_irrefl n)] at h
      split <;> omega
    · rw [show upd (N 9) k 0 n = N 9 n from if_neg e]
      by_cases c : k < n
      · rw [if_pos c] at h
        rw [if_pos (show k < n + 1 by omega)]
        omega
      · rw [if_neg c] at h
        rw [if_neg (show ¬ k < n + 1 by omega)]
        omega
theorem wC_eq {N N' : Nat → Nat → Int32} : ∀ {n : Nat}, (∀ j, j < n → N' 9 j = N 9 j) → wC N' n = wC N n
  | 0, _ => by rw [wC, wC]
  | n + 1, h => by rw [wC_s, wC_s, wC_eq (fun j hj => h j (by omega)), h n (by omega)]
theorem mLayW_ok (P : Nat → Nat → Int32) (i : Nat) (ar : Int32) (j : Nat) : mLayW P i ar j = 1 ∨ mLayW P i ar j = 2 ∨ mLayW P i ar j = 4 := by
  unfold mLayW
  split
  · exact Or.inr (Or.inr rfl)
  · split
    · exact Or.inl rfl
    · exact Or.inr (Or.inl rfl)
theorem mLay_ok (N : Nat → Nat → Int32) (ns i : Nat) (ar lo : Int32) : ∀ j, WOK (mLay N ns i ar lo j).1 j ∧ (mLay N ns i ar lo j).2 = wC (mLay N ns i ar lo j).1 j
  | 0 => ⟨fun j h => absurd h (by omega), by rw [mLay_0, wC]⟩
  | j + 1 => by
    obtain ⟨h1, h2⟩ := mLay_ok N ns i ar lo j
    rw [mLay_s]
    by_cases c : bI (cLay (mLay N ns i ar lo j).1 i lo j) = 0
    · rw [if_pos c]
      generalize mLay N ns i ar lo j = q at h1 h2
      have hb : ∀ u, u < j → mset q.1 9 (upd (q.1 9) j 0) 9 u = q.1 9 u := fun u hu => by
        rw [mset_s]; exact if_neg (by omega)
      have ha : mset q.1 9 (upd (q.1 9) j 0) 9 j = 0 := by rw [mset_s, upd_at]
      refine ⟨fun u hu => ?_, ?_⟩
      · by_cases e : u = j
        · rw [e]; exact Or.inl ha
        · have h9 := h1 u (by omega)
          rw [← hb u (by omega)] at h9
          exact h9
      · show q.2 = wC (mset q.1 9 (upd (q.1 9) j 0)) (j + 1)
        rw [wC_s, ha, if_pos rfl, wC_eq hb]; exact h2
    · rw [if_neg c]
      generalize mLay N ns i ar lo j = q at h1 h2
      have hr : mLayS q.1 ns i ar j 9 = upd (upd (q.1 9) j 0) j (mLayW q.1 i ar j) := by unfold mLayS; rw [mset_s]
      have hb : ∀ u, u < j → mLayS q.1 ns i ar j 9 u = q.1 9 u := fun u hu => by
        rw [hr, upd_upd]; exact if_neg (by omega)
      have ha : mLayS q.1 ns i ar j 9 j = mLayW q.1 i ar j := by rw [hr, upd_at]
      refine ⟨fun u hu => ?_, ?_⟩
      · by_cases e : u = j
        · rw [e]
          have h9 := mLayW_ok q.1 i ar j
          rw [← ha] at h9
          exact Or.inr h9
        · have h9 := h1 u (by omega)
          rw [← hb u (by omega)] at h9
          exact h9
      · show q.2 + 1 = wC (mLayS q.1 ns i ar j) (j + 1)
        rw [wC_s, ha, if_neg (by rcases mLayW_ok q.1 i ar j with e | e | e <;> rw [e] <;> decide), wC_eq hb, ← h2]
