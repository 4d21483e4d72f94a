-- what constructors lay
def rNew (ra ph sp of dr : Int32) : Nat → Int32 := upd (upd (upd (upd (upd (upd (upd (upd (fun _ => 0) 0 ra) 2 ph) 1 sp) 3 of) 4 dr) 5 1) 7 (-1)) 8 (-1)
def snNew (x d : Int32) : Nat → Int32 := upd (upd (fun _ => 0) 0 x) 1 d
def tNew : Nat → Int32 := upd (upd (upd (fun _ => 0) 1 (-1)) 9 99) 12 (-1)
def vNew (n x y b : Int32) : Nat → Int32 := upd (upd (upd (upd (upd (upd (upd (upd (upd (fun _ => 0) 0 n) 4 x) 5 y) 1 b) 6 5) 7 5) 9 1) 10 6) 12 (-1)
def rc0 : List Value := [.int 0, .int 0, .null, .null, .int 0, .int 0, .int 0, .int 0, .int 0, .int 0, .int 0, .int 0, .int 0]
def sv0 : List Value := [.null, .null, .null, .null, .null, .int 0, .int 0, .int 0, .int 0, .long 0, .int 0, .int 0, .int 0, .int 0, .long 0]
def ps0 : List Value := [.null, .null, .null, .null, .int 0, .int 0, .int 0, .int 0]
theorem df0 : ∀ j, j < 13 → defaultValue (tyX0 j) = vp_V rc0 j := by decide +kernel
theorem df1 : ∀ j, j < 11 → defaultValue (tyX1 j) = vp_V (stF (fun _ => 0)) j := by decide +kernel
theorem df2 : ∀ j, j < 15 → defaultValue (tyX2 j) = vp_V sv0 j := by decide +kernel
theorem df3 : ∀ j, j < 11 → defaultValue (tyX3 j) = vp_V (stF (fun _ => 0)) j := by decide +kernel
theorem df4 : ∀ j, j < 2 → defaultValue (tyX4 j) = vp_V (snF (fun _ => 0)) j := by decide +kernel
theorem df5 : ∀ j, j < 13 → defaultValue (tyX5 j) = vp_V (trF (fun _ => 0)) j := by decide +kernel
theorem df6 : ∀ j, j < 8 → defaultValue (tyX6 j) = vp_V ps0 j := by decide +kernel
def svA (b0 b1 b2 b3 b4 : Value) : List Value := [b0, b1, b2, b3, b4, .int 0, .int 0, .int 0, .int 0, .long 0, .int 0, .int 0, .int 0, .int 0, .long 0]
def kStar (ns : Nat) (ra ph sp of dr : Int32) : Int32 := if bI (pOut ra 60 200) = 0 then (if bI (pOut ph 0 47) = 0 then (if bI (pOut sp (-3) 3) = 0 then (if bI (pOut of (-500) 500) = 0 then (if bI (pOut dr (-3) 3) = 0 then (if nI ns < 8 then 0 else 2) else 1) else 1) else 1) else 1) else 1
def kStn (nt : Nat) (x d : Int32) : Int32 := if bI (pOut x (-50) 50) = 0 then (if bI (pOut d 0 9) = 0 then (if nI nt < 3 then 0 else 2) else 1) else 1
def kRec (nr : Nat) (x y b : Int32) : Int32 := if bI (pNoPlace x y) = 0 then (if bI (pOut b (-99) 99) = 0 then (if nI nr < 3 then 0 else 2) else 1) else 1
/-- one key more -/
def adA (ad : Nat → Nat) (k0 q : Nat) : Nat → Nat := fun k => if k = k0 then q else ad k
theorem adA_s {ad : Nat → Nat} {k0 q : Nat} : adA ad k0 q k0 = q := if_pos rfl
theorem adA_n {ad : Nat → Nat} {k0 q k : Nat} (h : k ≠ k0) : adA ad k0 q k = ad k := if_neg h
/-- a new object's layout -/
def adNew (a w9 : Nat) : Nat → Nat := fun k => if k = 0 then a else if k = 7 then w9 else if k = 8 then w9 + 1 else if k = 9 then w9 + 2 else w9 + 2 + k
section MKW
variable {D : va_G} {cy : Nat → ClassId} {ad : Nat → Nat} {ns nt nr : Nat} {M : Nat → Nat → Int32} {V : SX} {H : Heap} {a w9 q0 : Nat}
theorem adNew_CW (ho : va_P D vwCl [(a, .inr (6, [.ref w9, .ref (w9 + 1), .ref (w9 + 2), .ref (w9 + 3), .int 0, .int 0, .int 0, .int 0]))] H) (h7 : va_P D vwCl [(w9, .inl (cy 1, 8, .inr (.inr (.inr (.inr (fun _ => none))))))] H) (h8 : va_P D vwCl [(w9 + 1, .inl (cy 2, 3, .inr (.inr (.inr (.inr (fun _ => none))))))] H) (h9 : va_P D vwCl [(w9 + 2, .inl (cy 3, 3, .inr (.inr (.inr (.inr (fun _ => none))))))] H)
    (hs : va_P D vwCl [(w9 + 3, .inr (2, svA (.ref (w9 + 4)) (.ref (w9 + 4 + 1)) (.ref (w9 + 4 + 2)) (.ref (w9 + 4 + 3)) (.ref (w9 + 4 + 4))))] H) (hb : ∀ i, i < 5 → va_P D vwCl [(w9 + 4 + i, .inl (cy 0, 8, .inl (fun _ => 0)))] H) : CW D cy (adNew a w9) 0 0 0 (fun _ _ => 0) (fun _ => 0, 0, 0, fun _ _ => 0) H := by
  have hz : ∀ g : Nat → Nat, (fun j => if j < 0 then some (g j) else none) = (fun _ => none) := fun g => by
    funext j
    exact if_neg (by omega)
  intro k e hk
  have hl := cC_live hk
  unfold LV at hl
  unfold cC at hk
  by_cases e0 : k = 0
  · rw [if_pos e0] at hk
    cases hk
    subst e0
    exact ho
  rw [if_neg e0] at hk
  by_cases e1 : k = 1
  · rw [if_pos e1] at hk
    cases hk
    subst e1
    exact hs
  rw [if_neg e1] at hk
  by_cases e2 : k < 7
  · rw [if_pos e2] at hk
    cases hk
    have h := hb (k - 2) (by omega)
    rw [show w9 + 4 + (k - 2) = adNew a w9 k by unfold adNew; rw [if_neg e0, if_neg (by omega), if_neg (by omega), if_neg (by omega)]; omega] at h
    exact h
  rw [if_neg e2] at hk
  by_cases e3 : k = 7
  · rw [if_pos e3, hz] at hk
    cases hk
    subst e3
    exact h7
  rw [if_neg e3] at hk
  by_cases e4 : k = 8
  · rw [if_pos e4, hz] at hk
    cases hk
    subst e4
    exact h8
  rw [if_neg e4] at hk
  by_cases e5 : k = 9
  · rw [if_pos e5, hz] at hk
    cases hk
    subst e5
    exact h9
  omega
theorem adNew_AI (h : a < w9) : AI (adNew a w9) 0 0 0 := by
  intro k k' hk hk' e
  unfold LV at hk hk'
  unfold adNew at e
  repeat' split at e
  all_goals omega
/-- a star more -/
theorem CW.addSt (hb : LB ns nt nr) (h8 : ns < 8) (hlt : ∀ q, CA ad ns nt nr q → q < q0) (hwz : ∀ k e, k ≠ 0 → k ≠ 7 → cC cy ad ns nt nr M V k = some e → va_P D vwCl [(ad k, e)] H) (ho : va_P D vwCl [(ad 0, .inr (6, [.ref (ad 7), .ref (ad 8), .ref (ad 9), .ref (ad 1), .int (nI (ns + 1)), .int (nI nt), .int (nI nr), .int (M 0 0)]))] H)
    (h7 : va_P D vwCl [(ad 7, .inl (cy 1, 8, .inr (.inr (.inr (.inr (va_up (fun j => if j < ns then some (ad (10 + j)) else none) ns (some q0)))))))] H) {r : Nat → Int32} (hq : va_P D vwCl [(q0, .inr (3, stF r))] H) : CW D cy (adA ad (10 + ns) q0) (ns + 1) nt nr (mset M (10 + ns) r) V H := by
  intro k e hk
  have hl := cC_live hk
  by_cases e9 : k = 10 + ns
  · subst e9
    rw [adA_s]
    unfold cC at hk
    rw [if_neg (by omega), if_neg (by omega), if_neg (by omega), if_neg (by omega), if_neg (by omega), if_neg (by omega), if_pos (by omega), if_pos (by omega), mset_s] at hk
    cases hk
    exact hq
  rw [adA_n e9]
  by_cases e0 : k = 0
  · subst e0
    unfold cC at hk
    rw [if_pos rfl, mset_n (by omega), adA_n (by omega), adA_n (by omega), adA_n (by omega), adA_n (by omega)] at hk
    cases hk
    exact ho
  by_cases e7 : k = 7
  · subst e7
    unfold cC at hk
    rw [if_neg (by omega), if_neg (by omega), if_neg (by omega), if_pos rfl] at hk
    cases hk
    have e : (fun j => if j < ns + 1 then some (adA ad (10 + ns) q0 (10 + j)) else none) = va_up (fun j => if j < ns then some (ad (10 + j)) else none) ns (some q0) := by
      rw [← va_up_push (g := fun j => adA ad (10 + ns) q0 (10 + j)) adA_s, rfs_eq (fun j hj => adA_n (by omega))]
    rw [e]
    exact h7
  have hl0 : LV ns nt nr k := by unfold LV at hl ⊢; omega
  rw [cC_grow (ns := ns) (nt := nt) (nr := nr) (ad := ad) (M := M) hb (fun k' h' => adA_n (fun q => by unfold LV at h'; obtain ⟨b1, b2, b3⟩ := hb; omega)) (mset_n e9) e0 hl0 (by omega) (Nat.le_refl _) (Nat.le_refl _) (fun q => absurd q e7) (fun _ => rfl) (fun _ => rfl)] at hk
  exact hwz k e e0 e7 hk
theorem AI.addSt (hA : AI ad ns nt nr) (h8 : ns < 8) (hlt : ∀ q, CA ad ns nt nr q → q < q0) : AI (adA ad (10 + ns) q0) (ns + 1) nt nr := by
  have key : ∀ k, LV (ns + 1) nt nr k → k ≠ 10 + ns → LV ns nt nr k := fun k h h1 => by unfold LV at h ⊢; omega
  intro k k' hk hk' e
  by_cases a1 : k = 10 + ns <;> by_cases a2 : k' = 10 + ns
  · rw [a1, a2]
  · rw [a1, adA_s, adA_n a2] at e
    have := hlt _ ⟨k', key k' hk' a2, e⟩
    omega
  · rw [a2, adA_s, adA_n a1] at e
    have := hlt _ ⟨k, key k hk a1, e.symm⟩
    omega
  · rw [adA_n a1, adA_n a2] at e
    exact hA _ _ (key k hk a1) (key k' hk' a2) e
/-- a station more -/
theorem CW.addSn (hb : LB ns nt nr) (h8 : nt < 3) (hlt : ∀ q, CA ad ns nt nr q → q < q0) (hwz : ∀ k e, k ≠ 0 → k ≠ 8 → cC cy ad ns nt nr M V k = some e → va_P D vwCl [(ad k, e)] H) (ho : va_P D vwCl [(ad 0, .inr (6, [.ref (ad 7), .ref (ad 8), .ref (ad 9), .ref (ad 1), .int (nI ns), .int (nI (nt + 1)), .int (nI nr), .int (M 0 0)]))] H)
    (h7 : va_P D vwCl [(ad 8, .inl (cy 2, 3, .inr (.inr (.inr (.inr (va_up (fun j => if j < nt then some (ad (20 + j)) else none) nt (some q0)))))))] H) {r : Nat → Int32} (hq : va_P D vwCl [(q0, .inr (4, snF r))] H) : CW D cy (adA ad (20 + nt) q0) ns (nt + 1) nr (mset M (20 + nt) r) V H := by
  obtain ⟨b1, b2, b3⟩ := id hb
  intro k e hk
  have hl := cC_live hk
  by_cases e9 : k = 20 + nt
  · subst e9
    rw [adA_s]
    unfold cC at hk
    rw [if_neg (by omega), if_neg (by omega), if_neg (by omega), if_neg (by omega), if_neg (by omega), if_neg (by omega), if_neg (by omega), if_pos (by omega), if_pos (by omega), mset_s] at hk
    cases hk
    exact hq
  rw [adA_n e9]
  by_cases e0 : k = 0
  · subst e0
    unfold cC at hk
    rw [if_pos rfl, mset_n (by omega), adA_n (by omega), adA_n (by omega), adA_n (by omega), adA_n (by omega)] at hk
    cases hk
    exact ho
  by_cases e7 : k = 8
  · subst e7
    unfold cC at hk
    rw [if_neg (by omega), if_neg (by omega), if_neg (by omega), if_neg (by omega), if_pos rfl] at hk
    cases hk
    have e : (fun j => if j < nt + 1 then some (adA ad (20 + nt) q0 (20 + j)) else none) = va_up (fun j => if j < nt then some (ad (20 + j)) else none) nt (some q0) := by
      rw [← va_up_push (g := fun j => adA ad (20 + nt) q0 (20 + j)) adA_s, rfs_eq (fun j hj => adA_n (by omega))]
    rw [e]
    exact h7
  have hl0 : LV ns nt nr k := by unfold LV at hl ⊢; omega
  rw [cC_grow (ns := ns) (nt := nt) (nr := nr) (ad := ad) (M := M) hb (fun k' h' => adA_n (fun q => by unfold LV at h'; omega)) (mset_n e9) e0 hl0 (Nat.le_refl _) (by omega) (Nat.le_refl _) (fun _ => rfl) (fun q => absurd q e7) (fun _ => rfl)] at hk
  exact hwz k e e0 e7 hk
theorem AI.addSn (hA : AI ad ns nt nr) (h8 : nt < 3) (hlt : ∀ q, CA ad ns nt nr q → q < q0) : AI (adA ad (20 + nt) q0) ns (nt + 1) nr := by
  have key : ∀ k, LV ns (nt + 1) nr k → k ≠ 20 + nt → LV ns nt nr k := fun k h h1 => by unfold LV at h ⊢; omega
  intro k k' hk hk' e
  by_cases a1 : k = 20 + nt <;> by_cases a2 : k' = 20 + nt
  · rw [a1, a2]
  · rw [a1, adA_s, adA_n a2] at e
    have := hlt _ ⟨k', key k' hk' a2, e⟩
    omega
  · rw [a2, adA_s, adA_n a1] at e
    have := hlt _ ⟨k, key k hk a1, e.symm⟩
    omega
  · rw [adA_n a1, adA_n a2] at e
    exact hA _ _ (key k hk a1) (key k' hk' a2) e
end MKW
/-- a new receiver's cells -/
def RB (D : va_G) (cy : Nat → ClassId) (q : Nat) (v : Nat → Int32) (H : Heap) : Prop :=
  va_P D vwCl [(q, .inr (0, rcF v (q + 1 + 1) (q + 1)))] H ∧ va_P D vwCl [(q + 1, .inr (5, trF tNew))] H ∧ va_P D vwCl [(q + 1 + 1, .inl (cy 4, 8, rfs (fun i => if i < 8 then some (q + 1 + 2 + i) else none)))] H ∧ ∀ i, i < 8 → va_P D vwCl [(q + 1 + 2 + i, .inr (1, stF (fun _ => 0)))] H
theorem RB.keepq {D : va_G} {cy : Nat → ClassId} {q a : Nat} {v : Nat → Int32} {H H1 : Heap} (h : RB D cy q v H) (oq : ∀ x : Nat, x ≠ a → H1[x]? = H[x]?) (ha : ∀ x, q ≤ x → x ≠ a) : RB D cy q v H1 :=
  ⟨kP_keep h.1 oq (ha _ (by omega)), kP_keep h.2.1 oq (ha _ (by omega)), kP_keep h.2.2.1 oq (ha _ (by omega)), fun i hi => kP_keep (h.2.2.2 i hi) oq (ha _ (by omega))⟩
def pNewR (M : Nat → Nat → Int32) (nr : Nat) (v : Nat → Int32) : Nat → Nat → Int32 := fun k => if k = 30 + nr then v else if k = 50 + nr then tNew else if 60 + 8 * nr ≤ k ∧ k < 68 + 8 * nr then (fun _ => 0) else M k
def adR (ad : Nat → Nat) (nr q : Nat) : Nat → Nat := fun k => if k = 30 + nr then q else if k = 40 + nr then q + 1 + 1 else if k = 50 + nr then q + 1 else if 60 + 8 * nr ≤ k ∧ k < 68 + 8 * nr then q + 1 + 2 + (k - (60 + 8 * nr)) else ad k
/-- the keys that come with receiver nr -/
def NK (nr k : Nat) : Prop := k = 30 + nr ∨ k = 40 + nr ∨ k = 50 + nr ∨ (60 + 8 * nr ≤ k ∧ k < 68 + 8 * nr)
theorem adR_n {ad : Nat → Nat} {nr q k : Nat} (h : ¬ NK nr k) : adR ad nr q k = ad k := by
  unfold NK at h
  unfold adR
  rw [if_neg (by omega), if_neg (by omega), if_neg (by omega), if_neg (by omega)]
theorem pNewR_n {M : Nat → Nat → Int32} {nr k : Nat} {v : Nat → Int32} (h : ¬ NK nr k) : pNewR M nr v k = M k := by
  unfold NK at h
  unfold pNewR
  rw [if_neg (by omega), if_neg (by omega), if_neg (by omega)]
section MKR
variable {D : va_G} {cy : Nat → ClassId} {ad : Nat → Nat} {ns nt nr : Nat} {M : Nat → Nat → Int32} {V : SX} {H : Heap} {q0 : Nat}
theorem CW.addRc (hb : LB ns nt nr) (h8 : nr < 3) (hwz : ∀ k e, k ≠ 0 → k ≠ 9 → cC cy ad ns nt nr M V k = some e → va_P D vwCl [(ad k, e)] H) (ho : va_P D vwCl [(ad 0, .inr (6, [.ref (ad 7), .ref (ad 8), .ref (ad 9), .ref (ad 1), .int (nI ns), .int (nI nt), .int (nI (nr + 1)), .int (M 0 0)]))] H)
    (h7 : va_P D vwCl [(ad 9, .inl (cy 3, 3, .inr (.inr (.inr (.inr (va_up (fun j => if j < nr then some (ad (30 + j)) else none) nr (some q0)))))))] H) {v : Nat → Int32} (hq : RB D cy q0 v H) : CW D cy (adR ad nr q0) ns nt (nr + 1) (pNewR M nr v) V H := by
  obtain ⟨b1, b2, b3⟩ := id hb
  obtain ⟨r1, r2, r3, r4⟩ := hq
  intro k e hk
  have hl := cC_live hk
  by_cases e9 : NK nr k
  · unfold cC at hk
    unfold NK at e9
    rw [if_neg (by omega), if_neg (by omega), if_neg (by omega), if_neg (by omega), if_neg (by omega), if_neg (by omega), if_neg (by omega), if_neg (by omega)] at hk
    by_cases c1 : k = 30 + nr
    · subst c1
      rw [if_pos (by omega), if_pos (by omega), show pNewR M nr v (30 + nr) = v from if_pos rfl, show adR ad nr q0 (30 + nr + 10) = q0 + 1 + 1 by unfold adR; rw [if_neg (by omega), if_pos (by omega)], show adR ad nr q0 (30 + nr + 20) = q0 + 1 by unfold adR; rw [if_neg (by omega), if_neg (by omega), if_pos (by omega)]] at hk
      cases hk
      rw [show adR ad nr q0 (30 + nr) = q0 from if_pos rfl]
      exact r1
    rw [if_neg (by omega)] at hk
    by_cases c2 : k = 40 + nr
    · subst c2
      rw [if_pos (by omega), if_pos (by omega), show 40 + nr - 40 = nr by omega, rfs_eq (g := fun j => q0 + 1 + 2 + j) (fun j hj => by unfold adR; rw [if_neg (by omega), if_neg (by omega), if_neg (by omega), if_pos (by omega)]; omega)] at hk
      cases hk
      rw [show adR ad nr q0 (40 + nr) = q0 + 1 + 1 by unfold adR; rw [if_neg (by omega), if_pos rfl]]
      exact r3
    rw [if_neg (by omega)] at hk
    by_cases c3 : k = 50 + nr
    · subst c3
      rw [if_pos (by omega), if_pos (by omega), show pNewR M nr v (50 + nr) = tNew by unfold pNewR; rw [if_neg (by omega), if_pos rfl]] at hk
      cases hk
      rw [show adR ad nr q0 (50 + nr) = q0 + 1 by unfold adR; rw [if_neg (by omega), if_neg (by omega), if_pos rfl]]
      exact r2
    rw [if_neg (by omega), if_pos (by omega), show pNewR M nr v k = (fun _ => 0) by unfold pNewR; rw [if_neg (by omega), if_neg (by omega), if_pos (by omega)]] at hk
    cases hk
    rw [show adR ad nr q0 k = q0 + 1 + 2 + (k - (60 + 8 * nr)) by unfold adR; rw [if_neg (by omega), if_neg (by omega), if_neg (by omega), if_pos (by omega)]]
    exact r4 _ (by omega)
  rw [adR_n e9]
  have nk : ∀ j, j < 30 → ¬ NK nr j := fun j hj => by unfold NK; omega
  by_cases e0 : k = 0
  · subst e0
    unfold cC at hk
    rw [if_pos rfl, pNewR_n (nk 0 (by omega)), adR_n (nk 7 (by omega)), adR_n (nk 8 (by omega)), adR_n (nk 9 (by omega)), adR_n (nk 1 (by omega))] at hk
    cases hk
    exact ho
  by_cases e7 : k = 9
  · subst e7
    unfold cC at hk
    rw [if_neg (by omega), if_neg (by omega), if_neg (by omega), if_neg (by omega), if_neg (by omega), if_pos rfl] at hk
    cases hk
    have e : (fun j => if j < nr + 1 then some (adR ad nr q0 (30 + j)) else none) = va_up (fun j => if j < nr then some (ad (30 + j)) else none) nr (some q0) := by
      rw [← va_up_push (g := fun j => adR ad nr q0 (30 + j)) (if_pos rfl), rfs_eq (fun j hj => adR_n (by unfold NK; omega))]
    rw [e]
    exact h7
  have hl0 : LV ns nt nr k := by unfold LV at hl ⊢; unfold NK at e9; omega
  rw [cC_grow (ns := ns) (nt := nt) (nr := nr) (ad := ad) (M := M) hb (fun k' h' => adR_n (fun q => by unfold LV at h'; unfold NK at q; omega)) (pNewR_n e9) e0 hl0 (Nat.le_refl _) (Nat.le_refl _) (by omega) (fun _ => rfl) (fun _ => rfl) (fun q => absurd q e7)] at hk
  exact hwz k e e0 e7 hk
theorem adR_k {k : Nat} (h : NK nr k) (h3 : nr < 3) : q0 ≤ adR ad nr q0 k := by
  unfold NK at h
  unfold adR
  split
  · omega
  split
  · omega
  split
  · omega
  rw [if_pos (by omega)]
  omega
theorem adR_inj {k k' : Nat} (h : NK nr k) (h' : NK nr k') (h3 : nr < 3) (e : adR ad nr q0 k = adR ad nr q0 k') : k = k' := by
  unfold NK at h h'
  unfold adR at e
  by_cases a1 : k = 30 + nr <;> by_cases a2 : k = 40 + nr <;> by_cases a3 : k = 50 + nr <;> by_cases b1 : k' = 30 + nr <;> by_cases b2 : k' = 40 + nr <;> by_cases b3 : k' = 50 + nr <;> first | omega | (repeat' split at e) <;> omega
theorem AI.addRc (hA : AI ad ns nt nr) (h8 : nr < 3) (hlt : ∀ q, CA ad ns nt nr q → q < q0) : AI (adR ad nr q0) ns nt (nr + 1) := by
  have key : ∀ k, LV ns nt (nr + 1) k → ¬ NK nr k → LV ns nt nr k := fun k h h1 => by unfold LV at h ⊢; unfold NK at h1; omega
  intro k k' hk hk' e
  by_cases a1 : NK nr k <;> by_cases a2 : NK nr k'
  · exact adR_inj a1 a2 h8 e
  · have h1 := adR_k (ad := ad) (q0 := q0) a1 h8
    rw [e, adR_n a2] at h1
    have := hlt _ ⟨k', key k' hk' a2, rfl⟩
    omega
  · have h1 := adR_k (ad := ad) (q0 := q0) a2 h8
    rw [← e, adR_n a1] at h1
    have := hlt _ ⟨k, key k hk a1, rfl⟩
    omega
  · rw [adR_n a1, adR_n a2] at e
    exact hA _ _ (key k hk a1) (key k' hk' a2) e
end MKR
