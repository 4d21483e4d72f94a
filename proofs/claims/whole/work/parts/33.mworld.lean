-- the model's world: its cells by keys; 'md' their addresses; N the ints (its fields' at key 0, by their numbers), c and s its two longs
-- 0 the object; 1 to 5 the outer arrays of stars, messages, stations, receivers, rows; 6 to 9 sx, sy, pseudo, weights; 10 + i a star, 20 + i its messages, 30 + i a station, 40 + i a receiver, 50 + i its rows, 60 + 8 i + j a row
def mO (md : Nat → Nat) (N : Nat → Nat → Int32) (c s : Int64) : List Value := [.int (N 0 0), .int (N 0 1), .int (N 0 2), .ref (md 1), .ref (md 2), .ref (md 3), .ref (md 4), .ref (md 5), .int (N 0 8), .int (N 0 9), .int (N 0 10), .ref (md 6), .ref (md 7), .ref (md 8), .ref (md 9), .int (N 0 15), .int (N 0 16), .int (N 0 17), .long c, .long s]
def mLen (k : Nat) : Nat := if k < 10 then 8 else if k < 20 then 6 else if k < 30 then 5 else if k < 40 then 2 else if k < 50 then 22 else 12
def MKI (k : Nat) : Prop := (6 ≤ k ∧ k < 18) ∨ (20 ≤ k ∧ k < 28) ∨ (30 ≤ k ∧ k < 33) ∨ (40 ≤ k ∧ k < 43) ∨ (60 ≤ k ∧ k < 84)
def mkb (k : Nat) : Bool := decide ((6 ≤ k ∧ k < 18) ∨ (20 ≤ k ∧ k < 28) ∨ (30 ≤ k ∧ k < 33) ∨ (40 ≤ k ∧ k < 43) ∨ (60 ≤ k ∧ k < 84))
theorem mkb_iff {k : Nat} : mkb k = true ↔ MKI k := decide_eq_true_iff
def mC (cy : Nat → ClassId) (md : Nat → Nat) (N : Nat → Nat → Int32) (c s : Int64) (k : Nat) : Option va_E :=
  if k = 0 then some (.inr (7, mO md N c s))
  else if mkb k = true then some (.inl (cy 0, mLen k, .inl (N k)))
  else if k = 1 then some (.inl (cy 5, 8, rfs (fun j => if j < 8 then some (md (10 + j)) else none)))
  else if k = 2 then some (.inl (cy 5, 8, rfs (fun j => if j < 8 then some (md (20 + j)) else none)))
  else if k = 3 then some (.inl (cy 5, 3, rfs (fun j => if j < 3 then some (md (30 + j)) else none)))
  else if k = 4 then some (.inl (cy 5, 3, rfs (fun j => if j < 3 then some (md (40 + j)) else none)))
  else if k = 5 then some (.inl (cy 6, 3, rfs (fun j => if j < 3 then some (md (50 + j)) else none)))
  else if 50 ≤ k ∧ k < 53 then some (.inl (cy 5, 8, rfs (fun j => if j < 8 then some (md (60 + 8 * (k - 50) + j)) else none))) else none
def ML (k : Nat) : Prop := k < 6 ∨ MKI k ∨ (50 ≤ k ∧ k < 53)
def MI (md : Nat → Nat) : Prop := ∀ k k', ML k → ML k' → md k = md k' → k = k'
def MA (md : Nat → Nat) : Nat → Prop := fun q => ∃ k, ML k ∧ q = md k
def MW (D : va_G) (cy : Nat → ClassId) (md : Nat → Nat) (N : Nat → Nat → Int32) (c s : Int64) (H : Heap) : Prop := ∀ k e, mC cy md N c s k = some e → va_P D vwCl [(md k, e)] H
section MWS
variable {D : va_G} {cy : Nat → ClassId} {md : Nat → Nat} {N : Nat → Nat → Int32} {c s c' s' : Int64} {H H1 : Heap}
theorem mC_live {k : Nat} {e : va_E} (h : mC cy md N c s k = some e) : ML k := by
  unfold mC at h
  unfold ML
  by_cases h0 : k = 0
  · omega
  rw [if_neg h0] at h
  by_cases h1 : mkb k = true
  · exact Or.inr (Or.inl (mkb_iff.mp h1))
  rw [if_neg h1] at h
  by_cases h2 : k < 6
  · exact Or.inl h2
  rw [if_neg (by omega), if_neg (by omega), if_neg (by omega), if_neg (by omega), if_neg (by omega)] at h
  by_cases h3 : 50 ≤ k ∧ k < 53
  · exact Or.inr (Or.inr h3)
  rw [if_neg h3] at h
  cases h
theorem mC_i {k : Nat} (h : MKI k) : mC cy md N c s k = some (.inl (cy 0, mLen k, .inl (N k))) := by
  unfold mC
  rw [if_neg (by unfold MKI at h; omega), if_pos (mkb_iff.mpr h)]
theorem MW.o (h : MW D cy md N c s H) : va_P D vwCl [(md 0, .inr (7, mO md N c s))] H := h 0 _ (by unfold mC; rw [if_pos rfl])
theorem MW.i (h : MW D cy md N c s H) {k n : Nat} (hk : MKI k) (hn : mLen k = n) : va_P D vwCl [(md k, .inl (cy 0, n, .inl (N k)))] H := by
  subst hn
  exact h k _ (mC_i hk)
theorem MW.a1 (h : MW D cy md N c s H) : va_P D vwCl [(md 1, .inl (cy 5, 8, .inr (.inr (.inr (.inr (fun j => if j < 8 then some (md (10 + j)) else none))))))] H := h 1 _ (by unfold mC; rw [if_neg (by omega), if_neg (by decide), if_pos rfl]; rfl)
theorem MW.a2 (h : MW D cy md N c s H) : va_P D vwCl [(md 2, .inl (cy 5, 8, .inr (.inr (.inr (.inr (fun j => if j < 8 then some (md (20 + j)) else none))))))] H := h 2 _ (by unfold mC; rw [if_neg (by omega), if_neg (by decide), if_neg (by omega), if_pos rfl]; rfl)
theorem MW.a3 (h : MW D cy md N c s H) : va_P D vwCl [(md 3, .inl (cy 5, 3, .inr (.inr (.inr (.inr (fun j => if j < 3 then some (md (30 + j)) else none))))))] H := h 3 _ (by unfold mC; rw [if_neg (by omega), if_neg (by decide), if_neg (by omega), if_neg (by omega), if_pos rfl]; rfl)
theorem MW.a4 (h : MW D cy md N c s H) : va_P D vwCl [(md 4, .inl (cy 5, 3, .inr (.inr (.inr (.inr (fun j => if j < 3 then some (md (40 + j)) else none))))))] H := h 4 _ (by unfold mC; rw [if_neg (by omega), if_neg (by decide), if_neg (by omega), if_neg (by omega), if_neg (by omega), if_pos rfl]; rfl)
theorem MW.a5 (h : MW D cy md N c s H) : va_P D vwCl [(md 5, .inl (cy 6, 3, .inr (.inr (.inr (.inr (fun j => if j < 3 then some (md (50 + j)) else none))))))] H := h 5 _ (by unfold mC; rw [if_neg (by omega), if_neg (by decide), if_neg (by omega), if_neg (by omega), if_neg (by omega), if_neg (by omega), if_pos rfl]; rfl)
theorem MW.ro (h : MW D cy md N c s H) {i : Nat} (hi : i < 3) : va_P D vwCl [(md (50 + i), .inl (cy 5, 8, .inr (.inr (.inr (.inr (fun j => if j < 8 then some (md (60 + 8 * i + j)) else none))))))] H := h (50 + i) _ (by
  unfold mC; rw [if_neg (by omega), if_neg (fun q => by have := mkb_iff.mp q; unfold MKI at this; omega), if_neg (by omega), if_neg (by omega), if_neg (by omega), if_neg (by omega), if_neg (by omega), if_pos (by omega), show 50 + i - 50 = i by omega]; rfl)
theorem mk_st {i : Nat} (hi : i < 8) : MKI (10 + i) := by unfold MKI; omega
theorem mk_ms {i : Nat} (hi : i < 8) : MKI (20 + i) := by unfold MKI; omega
theorem mk_sn {i : Nat} (hi : i < 3) : MKI (30 + i) := by unfold MKI; omega
theorem mk_rc {i : Nat} (hi : i < 3) : MKI (40 + i) := by unfold MKI; omega
theorem mk_rw {i j : Nat} (hi : i < 3) (hj : j < 8) : MKI (60 + 8 * i + j) := by unfold MKI; omega
theorem ml_st {i : Nat} (hi : i < 8) : mLen (10 + i) = 6 := by unfold mLen; rw [if_neg (by omega), if_pos (by omega)]
theorem ml_ms {i : Nat} (hi : i < 8) : mLen (20 + i) = 5 := by unfold mLen; rw [if_neg (by omega), if_neg (by omega), if_pos (by omega)]
theorem ml_sn {i : Nat} (hi : i < 3) : mLen (30 + i) = 2 := by unfold mLen; rw [if_neg (by omega), if_neg (by omega), if_neg (by omega), if_pos (by omega)]
theorem ml_rc {i : Nat} (hi : i < 3) : mLen (40 + i) = 22 := by unfold mLen; rw [if_neg (by omega), if_neg (by omega), if_neg (by omega), if_neg (by omega), if_pos (by omega)]
theorem ml_rw {i j : Nat} (hi : i < 3) (hj : j < 8) : mLen (60 + 8 * i + j) = 12 := by unfold mLen; rw [if_neg (by omega), if_neg (by omega), if_neg (by omega), if_neg (by omega), if_neg (by omega)]
theorem MW.st (h : MW D cy md N c s H) {i : Nat} (hi : i < 8) : va_P D vwCl [(md (10 + i), .inl (cy 0, 6, .inl (N (10 + i))))] H := h.i (mk_st hi) (ml_st hi)
theorem MW.ms (h : MW D cy md N c s H) {i : Nat} (hi : i < 8) : va_P D vwCl [(md (20 + i), .inl (cy 0, 5, .inl (N (20 + i))))] H := h.i (mk_ms hi) (ml_ms hi)
theorem MW.sn (h : MW D cy md N c s H) {i : Nat} (hi : i < 3) : va_P D vwCl [(md (30 + i), .inl (cy 0, 2, .inl (N (30 + i))))] H := h.i (mk_sn hi) (ml_sn hi)
theorem MW.rc (h : MW D cy md N c s H) {i : Nat} (hi : i < 3) : va_P D vwCl [(md (40 + i), .inl (cy 0, 22, .inl (N (40 + i))))] H := h.i (mk_rc hi) (ml_rc hi)
theorem MW.rw (h : MW D cy md N c s H) {i j : Nat} (hi : i < 3) (hj : j < 8) : va_P D vwCl [(md (60 + 8 * i + j), .inl (cy 0, 12, .inl (N (60 + 8 * i + j))))] H := h.i (mk_rw hi hj) (ml_rw hi hj)
theorem MW.sx (h : MW D cy md N c s H) : va_P D vwCl [(md 6, .inl (cy 0, 8, .inl (N 6)))] H := h.i (mkb_iff.mp (by decide)) (by decide)
theorem MW.sy (h : MW D cy md N c s H) : va_P D vwCl [(md 7, .inl (cy 0, 8, .inl (N 7)))] H := h.i (mkb_iff.mp (by decide)) (by decide)
theorem MW.ps (h : MW D cy md N c s H) : va_P D vwCl [(md 8, .inl (cy 0, 8, .inl (N 8)))] H := h.i (mkb_iff.mp (by decide)) (by decide)
theorem MW.wt (h : MW D cy md N c s H) : va_P D vwCl [(md 9, .inl (cy 0, 8, .inl (N 9)))] H := h.i (mkb_iff.mp (by decide)) (by decide)
theorem mC_n {k k0 : Nat} {r : Nat → Int32} (hk : k ≠ k0) (h0 : k = 0 → k0 ≠ 0) (hx : k ≠ 0 ∨ k0 ≠ 0) : mC cy md (mset N k0 r) c s k = mC cy md N c s k := by
  unfold mC
  by_cases e : k = 0
  · rw [if_pos e, if_pos e]
    have := h0 e
    unfold mO
    rw [mset_n (Ne.symm this)]
  · rw [if_neg e, if_neg e, mset_n hk]
theorem MW.setI (h : MW D cy md N c s H) (hA : MI md) {k0 n : Nat} (hk : MKI k0) (hn : mLen k0 = n) {r : Nat → Int32} (hP : va_P D vwCl [(md k0, .inl (cy 0, n, .inl r))] H1) (oq : ∀ q : Nat, q ≠ md k0 → H1[q]? = H[q]?) : MW D cy md (mset N k0 r) c s H1 := by
  subst hn
  have h0 : k0 ≠ 0 := by unfold MKI at hk; omega
  intro k e he
  by_cases e9 : k = k0
  · subst e9
    rw [mC_i hk, mset_s] at he
    cases he
    exact hP
  · rw [mC_n e9 (fun _ => h0) (Or.inr h0)] at he
    exact kP_keep (h k e he) oq (fun q => e9 (hA _ _ (mC_live he) (Or.inr (Or.inl hk)) q))
theorem mC_o {k : Nat} {r : Nat → Int32} (hk : k ≠ 0) : mC cy md (mset N 0 r) c' s' k = mC cy md N c s k := by
  unfold mC
  rw [if_neg hk, if_neg hk, mset_n hk]
theorem MW.setO (h : MW D cy md N c s H) (hA : MI md) {r : Nat → Int32} (hP : va_P D vwCl [(md 0, .inr (7, mO md (mset N 0 r) c' s'))] H1) (oq : ∀ q : Nat, q ≠ md 0 → H1[q]? = H[q]?) : MW D cy md (mset N 0 r) c' s' H1 := by
  intro k e he
  by_cases e9 : k = 0
  · subst e9
    unfold mC at he
    rw [if_pos rfl] at he
    cases he
    exact hP
  · rw [mC_o (c := c) (s := s) e9] at he
    exact kP_keep (h k e he) oq (fun q => e9 (hA _ _ (mC_live he) (Or.inl (by omega)) q))
theorem MW.keep (h : MW D cy md N c s H) {A : Nat → Prop} (oq : ∀ q : Nat, q < H.size → ¬ A q → H1[q]? = H[q]?) (hA : ∀ q, MA md q → ¬ A q) : MW D cy md N c s H1 := fun k e hk => kP_keepA (h k e hk) oq (hA _ ⟨k, mC_live hk, rfl⟩)
theorem MA.i {k : Nat} (h : MKI k) : MA md (md k) := ⟨k, Or.inr (Or.inl h), rfl⟩
theorem MA.o : MA md (md 0) := ⟨0, Or.inl (by omega), rfl⟩
theorem mo_st {i : Nat} (hi : i < 8) : (fun j => if j < 8 then some (md (10 + j)) else none) (nI i).toNatClampNeg = some (md (10 + i)) := by rw [nI_clamp (by omega)]; exact if_pos hi
theorem mo_ms {i : Nat} (hi : i < 8) : (fun j => if j < 8 then some (md (20 + j)) else none) (nI i).toNatClampNeg = some (md (20 + i)) := by rw [nI_clamp (by omega)]; exact if_pos hi
theorem mo_sn {i : Nat} (hi : i < 3) : (fun j => if j < 3 then some (md (30 + j)) else none) (nI i).toNatClampNeg = some (md (30 + i)) := by rw [nI_clamp (by omega)]; exact if_pos hi
theorem mo_rc {i : Nat} (hi : i < 3) : (fun j => if j < 3 then some (md (40 + j)) else none) (nI i).toNatClampNeg = some (md (40 + i)) := by rw [nI_clamp (by omega)]; exact if_pos hi
theorem mo_ro {i : Nat} (hi : i < 3) : (fun j => if j < 3 then some (md (50 + j)) else none) (nI i).toNatClampNeg = some (md (50 + i)) := by rw [nI_clamp (by omega)]; exact if_pos hi
theorem mo_rw {i j : Nat} (hj : j < 8) : (fun j => if j < 8 then some (md (60 + 8 * i + j)) else none) (nI j).toNatClampNeg = some (md (60 + 8 * i + j)) := by rw [nI_clamp (by omega)]; exact if_pos hj
end MWS
theorem clI (k : Nat) (h : k < 32) : (nI k).toNatClampNeg = k := nI_clamp (by omega)
