-- the class's world: its cells by keys; the addresses 'ad'; what they hold is M (rows of ints by keys) and V (the solver)
-- 0 the object, 1 the solver, 2 to 6 its rows, 7 to 9 the three arrays, 10 + i a star, 20 + i a station, 30 + i a receiver, 40 + i its sights' array, 50 + i its track, 60 + 8 i + j a sight
abbrev SX : Type := (Nat → Int32) × Int64 × Int64 × (Nat → Nat → Int32)
def rfs (f : Nat → Option Nat) : (Nat → Int32) ⊕ (Nat → Int64) ⊕ (Nat → UInt32) ⊕ (Nat → UInt64) ⊕ (Nat → Option Nat) := .inr (.inr (.inr (.inr f)))
def cC (cy : Nat → ClassId) (ad : Nat → Nat) (ns nt nr : Nat) (M : Nat → Nat → Int32) (V : SX) (k : Nat) : Option va_E :=
  if k = 0 then some (.inr (6, [.ref (ad 7), .ref (ad 8), .ref (ad 9), .ref (ad 1), .int (nI ns), .int (nI nt), .int (nI nr), .int (M k 0)]))
  else if k = 1 then some (.inr (2, svF V.1 V.2.1 V.2.2.1 (fun i => ad (2 + i))))
  else if k < 7 then some (.inl (cy 0, 8, .inl (V.2.2.2 (k - 2))))
  else if k = 7 then some (.inl (cy 1, 8, rfs (fun j => if j < ns then some (ad (10 + j)) else none)))
  else if k = 8 then some (.inl (cy 2, 3, rfs (fun j => if j < nt then some (ad (20 + j)) else none)))
  else if k = 9 then some (.inl (cy 3, 3, rfs (fun j => if j < nr then some (ad (30 + j)) else none)))
  else if k < 20 then (if k < 10 + ns then some (.inr (3, stF (M k))) else none)
  else if k < 30 then (if k < 20 + nt then some (.inr (4, snF (M k))) else none)
  else if k < 40 then (if k < 30 + nr then some (.inr (0, rcF (M k) (ad (k + 10)) (ad (k + 20)))) else none)
  else if k < 50 then (if k < 40 + nr then some (.inl (cy 4, 8, rfs (fun j => if j < 8 then some (ad (60 + 8 * (k - 40) + j)) else none))) else none)
  else if k < 60 then (if k < 50 + nr then some (.inr (5, trF (M k))) else none)
  else if k < 60 + 8 * nr then some (.inr (1, stF (M k))) else none
def LV (ns nt nr k : Nat) : Prop := k < 10 ∨ (10 ≤ k ∧ k < 10 + ns) ∨ (20 ≤ k ∧ k < 20 + nt) ∨ (30 ≤ k ∧ k < 30 + nr) ∨ (40 ≤ k ∧ k < 40 + nr) ∨ (50 ≤ k ∧ k < 50 + nr) ∨ (60 ≤ k ∧ k < 60 + 8 * nr)
def LB (ns nt nr : Nat) : Prop := ns ≤ 8 ∧ nt ≤ 3 ∧ nr ≤ 3
def AI (ad : Nat → Nat) (ns nt nr : Nat) : Prop := ∀ k k', LV ns nt nr k → LV ns nt nr k' → ad k = ad k' → k = k'
def CA (ad : Nat → Nat) (ns nt nr : Nat) : Nat → Prop := fun q => ∃ k, LV ns nt nr k ∧ q = ad k
def CW (D : va_G) (cy : Nat → ClassId) (ad : Nat → Nat) (ns nt nr : Nat) (M : Nat → Nat → Int32) (V : SX) (H : Heap) : Prop := ∀ k e, cC cy ad ns nt nr M V k = some e → va_P D vwCl [(ad k, e)] H
def mset (M : Nat → Nat → Int32) (k : Nat) (r : Nat → Int32) : Nat → Nat → Int32 := fun j => if j = k then r else M j
theorem mset_s {M : Nat → Nat → Int32} {k : Nat} {r : Nat → Int32} : mset M k r k = r := if_pos rfl
theorem mset_n {M : Nat → Nat → Int32} {k j : Nat} {r : Nat → Int32} (h : j ≠ k) : mset M k r j = M j := if_neg h
theorem cC_M {cy : Nat → ClassId} {ad : Nat → Nat} {ns nt nr : Nat} {M M' : Nat → Nat → Int32} {V : SX} {k : Nat} (h : M' k = M k) : cC cy ad ns nt nr M' V k = cC cy ad ns nt nr M V k := by
  unfold cC
  rw [h]
theorem cC_V {cy : Nat → ClassId} {ad : Nat → Nat} {ns nt nr : Nat} {M : Nat → Nat → Int32} {V V' : SX} {k : Nat} (h : k = 0 ∨ 7 ≤ k) : cC cy ad ns nt nr M V' k = cC cy ad ns nt nr M V k := by
  unfold cC
  by_cases h0 : k = 0
  · rw [if_pos h0, if_pos h0]
  · rw [if_neg h0, if_neg h0, if_neg (show ¬ k = 1 by omega), if_neg (show ¬ k = 1 by omega), if_neg (show ¬ k < 7 by omega), if_neg (show ¬ k < 7 by omega)]
theorem cC_live {cy : Nat → ClassId} {ad : Nat → Nat} {ns nt nr : Nat} {M : Nat → Nat → Int32} {V : SX} {k : Nat} {e : va_E} (h : cC cy ad ns nt nr M V k = some e) : LV ns nt nr k := by
  unfold cC at h
  unfold LV
  by_cases h1 : k < 10
  · exact Or.inl h1
  · rw [if_neg (by omega), if_neg (by omega), if_neg (by omega), if_neg (by omega), if_neg (by omega), if_neg (by omega)] at h
    by_cases h2 : k < 20
    · rw [if_pos h2] at h
      by_cases h3 : k < 10 + ns
      · omega
      · rw [if_neg h3] at h; cases h
    · rw [if_neg h2] at h
      by_cases h3 : k < 30
      · rw [if_pos h3] at h
        by_cases h4 : k < 20 + nt
        · omega
        · rw [if_neg h4] at h; cases h
      · rw [if_neg h3] at h
        by_cases h4 : k < 40
        · rw [if_pos h4] at h
          by_cases h5 : k < 30 + nr
          · omega
          · rw [if_neg h5] at h; cases h
        · rw [if_neg h4] at h
          by_cases h5 : k < 50
          · rw [if_pos h5] at h
            by_cases h6 : k < 40 + nr
            · omega
            · rw [if_neg h6] at h; cases h
          · rw [if_neg h5] at h
            by_cases h6 : k < 60
            · rw [if_pos h6] at h
              by_cases h7 : k < 50 + nr
              · omega
              · rw [if_neg h7] at h; cases h
            · rw [if_neg h6] at h
              by_cases h7 : k < 60 + 8 * nr
              · omega
              · rw [if_neg h7] at h; cases h
section CWS
variable {D : va_G} {cy : Nat → ClassId} {ad : Nat → Nat} {ns nt nr : Nat} {M M' : Nat → Nat → Int32} {V V' : SX} {H H1 : Heap}
theorem CW.o (h : CW D cy ad ns nt nr M V H) : va_P D vwCl [(ad 0, .inr (6, [.ref (ad 7), .ref (ad 8), .ref (ad 9), .ref (ad 1), .int (nI ns), .int (nI nt), .int (nI nr), .int (M 0 0)]))] H := h 0 _ (by unfold cC; rw [if_pos rfl])
theorem CW.a7 (h : CW D cy ad ns nt nr M V H) : va_P D vwCl [(ad 7, .inl (cy 1, 8, .inr (.inr (.inr (.inr (fun j => if j < ns then some (ad (10 + j)) else none))))))] H := h 7 _ (by unfold cC; rw [if_neg (by omega), if_neg (by omega), if_neg (by omega), if_pos rfl]; rfl)
theorem CW.a8 (h : CW D cy ad ns nt nr M V H) : va_P D vwCl [(ad 8, .inl (cy 2, 3, .inr (.inr (.inr (.inr (fun j => if j < nt then some (ad (20 + j)) else none))))))] H := h 8 _ (by unfold cC; rw [if_neg (by omega), if_neg (by omega), if_neg (by omega), if_neg (by omega), if_pos rfl]; rfl)
theorem CW.a9 (h : CW D cy ad ns nt nr M V H) : va_P D vwCl [(ad 9, .inl (cy 3, 3, .inr (.inr (.inr (.inr (fun j => if j < nr then some (ad (30 + j)) else none))))))] H := h 9 _ (by unfold cC; rw [if_neg (by omega), if_neg (by omega), if_neg (by omega), if_neg (by omega), if_neg (by omega), if_pos rfl]; rfl)
theorem CW.st (h : CW D cy ad ns nt nr M V H) (hb : LB ns nt nr) {i : Nat} (hi : i < ns) : va_P D vwCl [(ad (10 + i), .inr (3, stF (M (10 + i))))] H := h (10 + i) _ (by
  obtain ⟨h1, h2, h3⟩ := hb
  unfold cC; rw [if_neg (by omega), if_neg (by omega), if_neg (by omega), if_neg (by omega), if_neg (by omega), if_neg (by omega), if_pos (by omega), if_pos (by omega)])
theorem CW.sn (h : CW D cy ad ns nt nr M V H) (hb : LB ns nt nr) {i : Nat} (hi : i < nt) : va_P D vwCl [(ad (20 + i), .inr (4, snF (M (20 + i))))] H := h (20 + i) _ (by
  obtain ⟨h1, h2, h3⟩ := hb
  unfold cC; rw [if_neg (by omega), if_neg (by omega), if_neg (by omega), if_neg (by omega), if_neg (by omega), if_neg (by omega), if_neg (by omega), if_pos (by omega), if_pos (by omega)])
theorem CW.rc (h : CW D cy ad ns nt nr M V H) (hb : LB ns nt nr) {i : Nat} (hi : i < nr) : va_P D vwCl [(ad (30 + i), .inr (0, rcF (M (30 + i)) (ad (40 + i)) (ad (50 + i))))] H := h (30 + i) _ (by
  obtain ⟨h1, h2, h3⟩ := hb
  unfold cC; rw [if_neg (by omega), if_neg (by omega), if_neg (by omega), if_neg (by omega), if_neg (by omega), if_neg (by omega), if_neg (by omega), if_neg (by omega), if_pos (by omega), if_pos (by omega), show 30 + i + 10 = 40 + i by omega, show 30 + i + 20 = 50 + i by omega])
theorem CW.ga (h : CW D cy ad ns nt nr M V H) (hb : LB ns nt nr) {i : Nat} (hi : i < nr) : va_P D vwCl [(ad (40 + i), .inl (cy 4, 8, .inr (.inr (.inr (.inr (fun j => if j < 8 then some (ad (60 + 8 * i + j)) else none))))))] H := h (40 + i) _ (by
  obtain ⟨h1, h2, h3⟩ := hb
  unfold cC; rw [if_neg (by omega), if_neg (by omega), if_neg (by omega), if_neg (by omega), if_neg (by omega), if_neg (by omega), if_neg (by omega), if_neg (by omega), if_neg (by omega), if_pos (by omega), if_pos (by omega), show 40 + i - 40 = i by omega]; rfl)
theorem CW.tk (h : CW D cy ad ns nt nr M V H) (hb : LB ns nt nr) {i : Nat} (hi : i < nr) : va_P D vwCl [(ad (50 + i), .inr (5, trF (M (50 + i))))] H := h (50 + i) _ (by
  obtain ⟨h1, h2, h3⟩ := hb
  unfold cC; rw [if_neg (by omega), if_neg (by omega), if_neg (by omega), if_neg (by omega), if_neg (by omega), if_neg (by omega), if_neg (by omega), if_neg (by omega), if_neg (by omega), if_neg (by omega), if_pos (by omega), if_pos (by omega)])
theorem CW.sg (h : CW D cy ad ns nt nr M V H) (hb : LB ns nt nr) {i j : Nat} (hi : i < nr) (hj : j < 8) : va_P D vwCl [(ad (60 + 8 * i + j), .inr (1, stF (M (60 + 8 * i + j))))] H := h (60 + 8 * i + j) _ (by
  obtain ⟨h1, h2, h3⟩ := hb
  unfold cC; rw [if_neg (by omega), if_neg (by omega), if_neg (by omega), if_neg (by omega), if_neg (by omega), if_neg (by omega), if_neg (by omega), if_neg (by omega), if_neg (by omega), if_neg (by omega), if_neg (by omega), if_pos (by omega)])
theorem CW.sv (h : CW D cy ad ns nt nr M V H) : SW D cy (ad 1) (fun i => ad (2 + i)) V.1 V.2.1 V.2.2.1 V.2.2.2 H :=
  ⟨h 1 _ (by unfold cC; rw [if_neg (by omega), if_pos rfl]), fun i hi => h (2 + i) _ (by unfold cC; rw [if_neg (by omega), if_neg (by omega), if_pos (by omega), show 2 + i - 2 = i by omega])⟩
theorem AI.sv (h : AI ad ns nt nr) : SVd (ad 1) (fun i => ad (2 + i)) :=
  ⟨fun i hi e => by have := h _ _ (Or.inl (by omega)) (Or.inl (by omega)) e; omega, fun i j hi hj e => by have := h _ _ (Or.inl (by omega)) (Or.inl (by omega)) e; omega⟩
theorem CA.sv : ∀ q, SVA (ad 1) (fun i => ad (2 + i)) q → CA ad ns nt nr q := fun q h => by
  rcases h with h | ⟨i, hi, h⟩
  · exact ⟨1, Or.inl (by omega), h⟩
  · exact ⟨2 + i, Or.inl (by omega), h⟩
theorem LV.k0 : LV ns nt nr 0 := Or.inl (by omega)
theorem LV.st {i : Nat} (hi : i < ns) : LV ns nt nr (10 + i) := by unfold LV; omega
theorem LV.sn {i : Nat} (hi : i < nt) : LV ns nt nr (20 + i) := by unfold LV; omega
theorem LV.rc {i : Nat} (hi : i < nr) : LV ns nt nr (30 + i) := by unfold LV; omega
theorem LV.ga {i : Nat} (hi : i < nr) : LV ns nt nr (40 + i) := by unfold LV; omega
theorem LV.tk {i : Nat} (hi : i < nr) : LV ns nt nr (50 + i) := by unfold LV; omega
theorem LV.sg {i j : Nat} (hi : i < nr) (hj : j < 8) : LV ns nt nr (60 + 8 * i + j) := by unfold LV; omega
theorem CA.of {k : Nat} (h : LV ns nt nr k) : CA ad ns nt nr (ad k) := ⟨k, h, rfl⟩
/-- one cell of key k0 is another -/
theorem CW.set (h : CW D cy ad ns nt nr M V H) (hA : AI ad ns nt nr) {k0 : Nat} (h0 : LV ns nt nr k0) {r : Nat → Int32} {e : va_E} (hc : cC cy ad ns nt nr (mset M k0 r) V k0 = some e) (hP : va_P D vwCl [(ad k0, e)] H1) (oq : ∀ q : Nat, q < H.size → ¬ q = ad k0 → H1[q]? = H[q]?) : CW D cy ad ns nt nr (mset M k0 r) V H1 := by
  intro k e1 hk
  by_cases e9 : k = k0
  · subst e9
    rw [hc] at hk
    cases hk
    exact hP
  · rw [cC_M (mset_n e9)] at hk
    exact kP_keepA (A := fun q => q = ad k0) (h k e1 hk) oq (fun q => e9 (hA _ _ (cC_live hk) h0 q))
theorem CW.setO (h : CW D cy ad ns nt nr M V H) (hA : AI ad ns nt nr) {r : Nat → Int32} (hP : va_P D vwCl [(ad 0, .inr (6, [.ref (ad 7), .ref (ad 8), .ref (ad 9), .ref (ad 1), .int (nI ns), .int (nI nt), .int (nI nr), .int (r 0)]))] H1) (oq : ∀ q : Nat, q < H.size → ¬ q = ad 0 → H1[q]? = H[q]?) : CW D cy ad ns nt nr (mset M 0 r) V H1 :=
  h.set hA LV.k0 (by unfold cC; rw [if_pos rfl, mset_s]) hP oq
theorem CW.setSt (h : CW D cy ad ns nt nr M V H) (hA : AI ad ns nt nr) (hb : LB ns nt nr) {i : Nat} (hi : i < ns) {r : Nat → Int32} (hP : va_P D vwCl [(ad (10 + i), .inr (3, stF r))] H1) (oq : ∀ q : Nat, q < H.size → ¬ q = ad (10 + i) → H1[q]? = H[q]?) : CW D cy ad ns nt nr (mset M (10 + i) r) V H1 :=
  h.set hA (LV.st hi) (by
    obtain ⟨h1, h2, h3⟩ := hb
    unfold cC; rw [if_neg (by omega), if_neg (by omega), if_neg (by omega), if_neg (by omega), if_neg (by omega), if_neg (by omega), if_pos (by omega), if_pos (by omega), mset_s]) hP oq
theorem CW.setRc (h : CW D cy ad ns nt nr M V H) (hA : AI ad ns nt nr) (hb : LB ns nt nr) {i : Nat} (hi : i < nr) {r : Nat → Int32} (hP : va_P D vwCl [(ad (30 + i), .inr (0, rcF r (ad (40 + i)) (ad (50 + i))))] H1) (oq : ∀ q : Nat, q < H.size → ¬ q = ad (30 + i) → H1[q]? = H[q]?) : CW D cy ad ns nt nr (mset M (30 + i) r) V H1 :=
  h.set hA (LV.rc hi) (by
    obtain ⟨h1, h2, h3⟩ := hb
    unfold cC; rw [if_neg (by omega), if_neg (by omega), if_neg (by omega), if_neg (by omega), if_neg (by omega), if_neg (by omega), if_neg (by omega), if_neg (by omega), if_pos (by omega), if_pos (by omega), show 30 + i + 10 = 40 + i by omega, show 30 + i + 20 = 50 + i by omega, mset_s]) hP oq
theorem CW.setTk (h : CW D cy ad ns nt nr M V H) (hA : AI ad ns nt nr) (hb : LB ns nt nr) {i : Nat} (hi : i < nr) {r : Nat → Int32} (hP : va_P D vwCl [(ad (50 + i), .inr (5, trF r))] H1) (oq : ∀ q : Nat, q < H.size → ¬ q = ad (50 + i) → H1[q]? = H[q]?) : CW D cy ad ns nt nr (mset M (50 + i) r) V H1 :=
  h.set hA (LV.tk hi) (by
    obtain ⟨h1, h2, h3⟩ := hb
    unfold cC; rw [if_neg (by omega), if_neg (by omega), if_neg (by omega), if_neg (by omega), if_neg (by omega), if_neg (by omega), if_neg (by omega), if_neg (by omega), if_neg (by omega), if_neg (by omega), if_pos (by omega), if_pos (by omega), mset_s]) hP oq
theorem CW.setSg (h : CW D cy ad ns nt nr M V H) (hA : AI ad ns nt nr) (hb : LB ns nt nr) {i j : Nat} (hi : i < nr) (hj : j < 8) {r : Nat → Int32} (hP : va_P D vwCl [(ad (60 + 8 * i + j), .inr (1, stF r))] H1) (oq : ∀ q : Nat, q < H.size → ¬ q = ad (60 + 8 * i + j) → H1[q]? = H[q]?) : CW D cy ad ns nt nr (mset M (60 + 8 * i + j) r) V H1 :=
  h.set hA (LV.sg hi hj) (by
    obtain ⟨h1, h2, h3⟩ := hb
    unfold cC; rw [if_neg (by omega), if_neg (by omega), if_neg (by omega), if_neg (by omega), if_neg (by omega), if_neg (by omega), if_neg (by omega), if_neg (by omega), if_neg (by omega), if_neg (by omega), if_neg (by omega), if_pos (by omega), mset_s]) hP oq
theorem CW.setSv (h : CW D cy ad ns nt nr M V H) (hA : AI ad ns nt nr) (hP : SW D cy (ad 1) (fun i => ad (2 + i)) V'.1 V'.2.1 V'.2.2.1 V'.2.2.2 H1) (oq : ∀ q : Nat, q < H.size → ¬ SVA (ad 1) (fun i => ad (2 + i)) q → H1[q]? = H[q]?) : CW D cy ad ns nt nr M V' H1 := by
  intro k e hk
  by_cases h1 : k = 0 ∨ 7 ≤ k
  · rw [cC_V (V := V) h1] at hk
    refine kP_keepA (h k e hk) oq (fun q => ?_)
    have hl := cC_live hk
    rcases q with q | ⟨i, hi, q⟩
    · have := hA _ _ hl (Or.inl (by omega)) q
      omega
    · have := hA _ _ hl (Or.inl (by omega)) q
      omega
  · unfold cC at hk
    by_cases h2 : k = 1
    · rw [if_neg (by omega), if_pos h2] at hk
      cases hk
      subst h2
      exact hP.1
    · rw [if_neg (by omega), if_neg h2, if_pos (by omega)] at hk
      cases hk
      have := hP.2 (k - 2) (by omega)
      dsimp only at this
      rw [show 2 + (k - 2) = k by omega] at this
      exact this
theorem CW.keep (h : CW D cy ad ns nt nr M V H) {A : Nat → Prop} (oq : ∀ q : Nat, q < H.size → ¬ A q → H1[q]? = H[q]?) (hA : ∀ q, CA ad ns nt nr q → ¬ A q) : CW D cy ad ns nt nr M V H1 := fun k e hk => kP_keepA (h k e hk) oq (hA _ ⟨k, cC_live hk, rfl⟩)
theorem aSt {i : Nat} (hi : i < ns) (hb : LB ns nt nr) : (fun j => if j < ns then some (ad (10 + j)) else none) (nI i).toNatClampNeg = some (ad (10 + i)) := by
  obtain ⟨h1, h2, h3⟩ := hb
  rw [nI_clamp (by omega)]; exact if_pos hi
theorem aSn {i : Nat} (hi : i < nt) (hb : LB ns nt nr) : (fun j => if j < nt then some (ad (20 + j)) else none) (nI i).toNatClampNeg = some (ad (20 + i)) := by
  obtain ⟨h1, h2, h3⟩ := hb
  rw [nI_clamp (by omega)]; exact if_pos hi
theorem aRc {i : Nat} (hi : i < nr) (hb : LB ns nt nr) : (fun j => if j < nr then some (ad (30 + j)) else none) (nI i).toNatClampNeg = some (ad (30 + i)) := by
  obtain ⟨h1, h2, h3⟩ := hb
  rw [nI_clamp (by omega)]; exact if_pos hi
theorem aSg {i j : Nat} (hj : j < 8) : (fun j => if j < 8 then some (ad (60 + 8 * i + j)) else none) (nI j).toNatClampNeg = some (ad (60 + 8 * i + j)) := by
  rw [nI_clamp (by omega)]; exact if_pos hj
end CWS
/-- an index that passes the bounds' test -/
theorem pOut_f {v : Int32} {n : Nat} (hn : n ≤ 8) (h : bI (pOut v 0 (nI n - 1)) = 0) : ∃ i : Nat, i < n ∧ v = nI i := by
  have h1 := bI_f h
  unfold pOut at h1
  by_cases c1 : v < 0
  · rw [if_pos c1] at h1; cases h1
  · rw [if_neg c1] at h1
    by_cases c2 : v ≤ nI n - 1
    · obtain ⟨i, hi, rfl⟩ := nI_of c1
      refine ⟨i, ?_, rfl⟩
      cases n with
      | zero =>
        exfalso
        have h3 : nI 0 - 1 = (-1 : Int32) := by decide
        rw [h3] at c2
        have h4 := Int32.le_iff_toInt_le.mp c2
        rw [nI_toInt hi] at h4
        have h5 : (-1 : Int32).toInt = -1 := by decide
        omega
      | succ n =>
        rw [nI_pred] at c2
        have := (nI_leI hi (by omega)).mp c2
        omega
    · rw [if_neg c2] at h1; cases h1
