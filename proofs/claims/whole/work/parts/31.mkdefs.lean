-- what constructors lay
def rNew (ra ph sp of dr : Int32) : Nat → Int32 := upd (upd (upd (upd (upd (upd (upd (upd (fun _ => 0) 0 ra) 2 ph) 1 sp) 3 of) 4 dr) 5 1) 7 (-1)) 8 (-1)
def snNew (x d : Int32) : Nat → Int32 := upd (upd (fun _ => 0) 0 x) 1 d
def tNew : Nat → Int32 := upd (upd (upd (fun _ => 0) 1 (-1)) 9 99) 12 (-1)
def vNew (n x y b : Int32) : Nat → Int32 := upd (upd (upd (upd (upd (upd (upd (upd (fun _ => 0) 0 n) 4 x) 5 y) 1 b) 6 5) 7 5) 10 6) 12 (-1)
def rc0 : List Value := [.int 0, .int 0, .null, .null, .int 0, .int 0, .int 0, .int 0, .int 0, .int 0, .int 0, .int 0, .int 0]
def sv0 : List Value := [.null, .null, .null, .null, .null, .int 0, .int 0, .int 0, .int 0, .long 0, .int 0, .int 0, .int 0, .int 0, .long 0]
def ps0 : List Value := [.null, .null, .null, .null, .int 0, .int 0, .int 0, .int 0]
theorem df0 : ∀ j, j < 13 → defaultValue (tyX0 j) = vp_V rc0 j := by decide +kernel
theorem df1 : ∀ j, j < 11 → defaultValue (tyX1 j) = vp_V (stF (fun _ => 0)) j := by decide +kernel
theorem df2 : ∀ j, j < 15 → defaultValue (tyX2 j) = vp_V sv0 j := by decide +kernel
theorem df3 : ∀ j, j < 11 → defaultValue (tyX3 j) = vp_V (stF (fun _ => 0)) j := by decide +kernel
theorem df4 : ∀ j, j < 2 → defaultValue (tyX4 j) = vp_V (snF (fun _ => 0)) j := by decide +kernel
theorem df5 : ∀ j, j < 13 → defaultValue (tyX5 j) = vp_V (trF (fun _ => 0)) j := by decide +kernel
theorem df6 : ∀ j, j < 8 → defaultValue (tyX6 j) = vp_V ps0 j := by decide +kernel
def svA (b0 b1 b2 b3 b4 : Value) : List Value := [b0, b1, b2, b3, b4, .int 0, .int 0, .int 0, .int 0, .long 0, .int 0, .int 0, .int 0, .int 0, .long 0]
def kStar (ns : Nat) (ra ph sp of dr : Int32) : Int32 := if bI (pOut ra 60 200) = 0 then (if bI (pOut ph 0 47) = 0 then (if bI (pOut sp (-3) 3) = 0 then (if bI (pOut of (-500) 500) = 0 then (if bI (pOut dr (-3) 3) = 0 then (if nI ns < 8 then 0 else 2) else 1) else 1) else 1) else 1) else 1
def kStn (nt : Nat) (x d : Int32) : Int32 := if bI (pOut x (-50) 50) = 0 then (if bI (pOut d 0 9) = 0 then (if nI nt < 3 then 0 else 2) else 1) else 1
def kRec (nr : Nat) (x y b : Int32) : Int32 := if bI (pNoPlace x y) = 0 then (if bI (pOut b (-99) 99) = 0 then (if nI nr < 3 then 0 else 2) else 1) else 1
/-- one key more -/
def adA (ad : Nat → Nat) (k0 q : Nat) : Nat → Nat := fun k => if k = k0 then q else ad k
theorem adA_s {ad : Nat → Nat} {k0 q : Nat} : adA ad k0 q k0 = q := if_pos rfl
theorem adA_n {ad : Nat → Nat} {k0 q k : Nat} (h : k ≠ k0) : adA ad k0 q k = ad k := if_neg h
/-- a new object's layout -/
def adNew (a w9 : Nat) : Nat → Nat := fun k => if k = 0 then a else if k = 7 then w9 else if k = 8 then w9 + 1 else if k = 9 then w9 + 2 else w9 + 2 + k
section MKW
variable {D : va_G} {cy : Nat → ClassId} {ad : Nat → Nat} {ns nt nr : Nat} {M : Nat → Nat → Int32} {V : SX} {H : Heap} {a w9 q0 : Nat}
theorem adNew_CW (ho : va_P D vwCl [(a, .inr (6, [.ref w9, .ref (w9 + 1), .ref (w9 + 2), .ref (w9 + 3), .int 0, .int 0, .int 0, .int 0]))] H) (h7 : va_P D vwCl [(w9, .inl (cy 1, 8, .inr (.inr (.inr (.inr (fun _ => none))))))] H) (h8 : va_P D vwCl [(w9 + 1, .inl (cy 2, 3, .inr (.inr (.inr (.inr (fun _ => none))))))] H) (h9 : va_P D vwCl [(w9 + 2, .inl (cy 3, 3, .inr (.inr (.inr (.inr (fun _ => none))))))] H)
    (hs : va_P D vwCl [(w9 + 3, .inr (2, svA (.ref (w9 + 4)) (.ref (w9 + 4 + 1)) (.ref (w9 + 4 + 2)) (.ref (w9 + 4 + 3)) (.ref (w9 + 4 + 4))))] H) (hb : ∀ i, i < 5 → va_P D vwCl [(w9 + 4 + i, .inl (cy 0, 8, .inl (fun _ => 0)))] H) : CW D cy (adNew a w9) 0 0 0 (fun _ _ => 0) (fun _ => 0, 0, 0, fun _ _ => 0) H := by
  have hz : ∀ g : Nat → Nat, (fun j => if j < 0 then some (g j) else none) = (fun _ => none) := fun g => by
    funext j
    exact if_neg (by omega)
  intro k e hk
  have hl := cC_live hk
  unfold LV at hl
  unfold cC at hk
  by_cases e0 : k = 0
  · rw [if_pos e0] at hk
    cases hk
    subst e0
    exact ho
  rw [if_neg e0] at hk
  by_cases e1 : k = 1
  · rw [if_pos e1] at hk
    cases hk
    subst e1
    exact hs
  rw [if_neg e1] at hk
  by_cases e2 : k < 7
  · rw [if_pos e2] at hk
    cases hk
    have h := hb (k - 2) (by omega)
    rw [show w9 + 4 + (k - 2) = adNew a w9 k by unfold adNew; rw [if_neg e0, if_neg (by omega), if_neg (by omega), if_neg (by omega)]; omega] at h
    exact h
  rw [if_neg e2] at hk
  by_cases e3 : k = 7
  · rw [if_pos e3, hz] at hk
    cases hk
    subst e3
    exact h7
  rw [if_neg e3] at hk
  by_cases e4 : k = 8
  · rw [if_pos e4, hz] at hk
    cases hk
    subst e4
    exact h8
  rw [if_neg e4] at hk
  by_cases e5 : k = 9
  · rw [if_pos e5, hz] at hk
    cases hk
    subst e5
    exact h9
  omega
theorem adNew_AI (h : a < w9) : AI (adNew a w9) 0 0 0 := by
  intro k k' hk hk' e
  unfold LV at hk hk'
  unfold adNew at e
  repeat' split at e
  all_goals omega
/-- a star more -/
theorem CW.addSt (hb : LB ns nt nr) (h8 : ns < 8) (hlt : ∀ q, CA ad ns nt nr q → q < q0) (hwz : ∀ k e, k ≠ 0 → k ≠ 7 → cC cy ad ns nt nr M V k = some e → va_P D vwCl [(ad k, e)] H) (ho : va_P D vwCl [(ad 0, .inr (6, [.ref (ad 7), .ref (ad 8), .ref (ad 9), .ref (ad 1), .int (nI (ns + 1)), .int (nI nt), .int (nI nr), .int (M 0 0)]))] H)
    (h7 : va_P D vwCl [(ad 7, .inl (cy 1, 8, .inr (.inr (.inr (.inr (va_up (fun j => if j < ns then some (ad (10 + j)) else none) ns (some q0)))))))] H) {r : Nat → Int32} (hq : va_P D vwCl [(q0, .inr (3, stF r))] H) : CW D cy (adA ad (10 + ns) q0) (ns + 1) nt nr (mset M (10 + ns) r) V H := by
  intro k e hk
  have hl := cC_live hk
  by_cases e9 : k = 10 + ns
  · subst e9
    rw [adA_s]
    unfold cC at hk
    rw [if_neg (by omega), if_neg (by omega), if_neg (by omega), if_neg (by omega), if_neg (by omega), if_neg (by omega), if_pos (by omega), if_pos (by omega), mset_s] at hk
    cases hk
    exact hq
  rw [adA_n e9]
  by_cases e0 : k = 0
  · subst e0
    unfold cC at hk
    rw [if_pos rfl, mset_n (by omega), adA_n (by omega), adA_n (by omega), adA_n (by omega), adA_n (by omega)] at hk
    cases hk
    exact ho
  by_cases e7 : k = 7
  · subst e7
    unfold cC at hk
    rw [if_neg (by omega), if_neg (by omega), if_neg (by omega), if_pos rfl] at hk
    cases hk
    have e : (fun j => if j < ns + 1 then some (adA ad (10 + ns) q0 (10 + j)) else none) = va_up (fun j => if j < ns then some (ad (10 + j)) else none) ns (some q0) := by
      rw [← va_up_push (g := fun j => adA ad (10 + ns) q0 (10 + j)) adA_s, rfs_eq (fun j hj => adA_n (by omega))]
    rw [e]
    exact h7
  have hl0 : LV ns nt nr k := by unfold LV at hl ⊢; omega
  rw [cC_grow (ns := ns) (nt := nt) (nr := nr) (ad := ad) (M := M) hb (fun k' h' => adA_n (fun q => by unfold LV at h'; obtain ⟨b1, b2, b3⟩ := hb; omega)) (mset_n e9) e0 hl0 (by omega) (Nat.le_refl _) (Nat.le_refl _) (fun q => absurd q e7) (fun _ => rfl) (fun _ => rfl)] at hk
  exact hwz k e e0 e7 hk
theorem AI.addSt (hA : AI ad ns nt nr) (h8 : ns < 8) (hlt : ∀ q, CA ad ns nt nr q → q < q0) : AI (adA ad (10 + ns) q0) (ns + 1) nt nr := by
  have key : ∀ k, LV (ns + 1) nt nr k → k ≠ 10 + ns → LV ns nt nr k := fun k h h1 => by unfold LV at h ⊢; omega
  intro k k' hk hk' e
  by_cases a1 : k = 10 + ns <;> by_cases a2 : k' = 10 + ns
  · rw [a1, a2]
  · rw [a1, adA_s, adA_n a2] at e
    have := hlt _ ⟨k', key k' hk' a2, e⟩
    omega
  · rw [a2, adA_s, adA_n a1] at e
    have := hlt _ ⟨k, key k hk a1, e.symm⟩
    omega
  · rw [adA_n a1, adA_n a2] at e
    exact hA _ _ (key k hk a1) (key k' hk' a2) e
/-- a station more -/
theorem CW.addSn (hb : LB ns nt nr) (h8 : nt < 3) (hlt : ∀ q, CA ad ns nt nr q → q < q0) (hwz : ∀ k e, k ≠ 0 → k ≠ 8 → cC cy ad ns nt nr M V k = some e → va_P D vwCl [(ad k, e)] H) (ho : va_P D vwCl [(ad 0, .inr (6, [.ref (ad 7), .ref (ad 8), .ref (ad 9), .ref (ad 1), .int (nI ns), .int (nI (nt + 1)), .int (nI nr), .int (M 0 0)]))] H)
    (h7 : va_P D vwCl [(ad 8, .inl (cy 2, 3, .inr (.inr (.inr (.inr (va_up (fun j => if j < nt then some (ad (20 + j)) else none) nt (some q0)))))))] H) {r : Nat → Int32} (hq : va_P D vwCl [(q0, .inr (4, snF r))] H) : CW D cy (adA ad (20 + nt) q0) ns (nt + 1) nr (mset M (20 + nt) r) V H := by
  obtain ⟨b1, b2, b3⟩ := id hb
  intro k e hk
  have hl := cC_live hk
  by_cases e9 : k = 20 + nt
  · subst e9
    rw [adA_s]
    unfold cC at hk
    rw [if_neg (by omega), if_neg (by omega), if_neg (by omega), if_neg (by omega), if_neg (by omega), if_neg (by omega), if_neg (by omega), if_pos (by omega), if_pos (by omega), mset_s] at hk
    cases hk
    exact hq
  rw [adA_n e9]
  by_cases e0 : k = 0
  · subst e0
    unfold cC at hk
    rw [if_pos rfl, mset_n (by omega), adA_n (by omega), adA_n (by omega), adA_n (by omega), adA_n (by omega)] at hk
    cases hk
    exact ho
  by_cases e7 : k = 8
  · subst e7
    unfold cC at hk
    rw [if_neg (by omega), if_neg (by omega), if_neg (by omega), if_neg (by omega), if_pos rfl] at hk
    cases hk
    have e : (fun j => if j < nt + 1 then some (adA ad (20 + nt) q0 (20 + j)) else none) = va_up (fun j => if j < nt then some (ad (20 + j)) else none) nt (some q0) := by
      rw [← va_up_push (g := fun j => adA ad (20 + nt) q0 (20 + j)) adA_s, rfs_eq (fun j hj => adA_n (by omega))]
    rw [e]
    exact h7
  have hl0 : LV ns nt nr k := by unfold LV at hl ⊢; omega
  rw [cC_grow (ns := ns) (nt := nt) (nr := nr) (ad := ad) (M := M) hb (fun k' h' => adA_n (fun q => by unfold LV at h'; omega)) (mset_n e9) e0 hl0 (Nat.le_refl _) (by omega) (Nat.le_refl _) (fun _ => rfl) (fun q => absurd q e7) (fun _ => rfl)] at hk
  exact hwz k e e0 e7 hk
theorem AI.addSn (hA : AI ad ns nt nr) (h8 : nt < 3) (hlt : ∀ q, CA ad ns nt nr q → q < q0) : AI (adA ad (20 + nt) q0) ns (nt + 1) nr := by
  have key : ∀ k, LV ns (nt + 1) nr k → k ≠ 20 + nt → LV ns nt nr k := fun k h h1 => by unfold LV at h ⊢; omega
  intro k k' hk hk' e
  by_cases a1 : k = 20 + nt <;> by_cases a2 : k' = 20 + nt
  · rw [a1, a2]
  · rw [a1, adA_s, adA_n a2] at e
    have := hlt _ ⟨k', key k' hk' a2, e⟩
    omega
  · rw [a2, adA_s, adA_n a1] at e
    have := hlt _ ⟨k, key k hk a1, e.symm⟩
    omega
  · rw [adA_n a1, adA_n a2] at e
    exact hA _ _ (key k hk a1) (key k' hk' a2) e
end MKW
