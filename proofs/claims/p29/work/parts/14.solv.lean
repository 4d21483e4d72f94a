-- what stays where another cell is written
theorem kP_keep {D : va_G} {a b : Nat} {e : va_E} {H H1 : Heap} (h : va_P D vwCl [(b, e)] H) (oq : ∀ q : Nat, q ≠ a → H1[q]? = H[q]?) (hb : b ≠ a) : va_P D vwCl [(b, e)] H1 := h.kept (fun k q hk => by
  have hz : k < 1 := (List.getElem?_eq_some_iff.mp hk).1
  rw [show k = 0 by omega] at hk
  cases hk
  exact oq b hb)
theorem kP_keepA {D : va_G} {A : Nat → Prop} {b : Nat} {e : va_E} {H H1 : Heap} (h : va_P D vwCl [(b, e)] H) (oq : ∀ q : Nat, q < H.size → ¬ A q → H1[q]? = H[q]?) (hb : ¬ A b) : va_P D vwCl [(b, e)] H1 := h.kept (fun k q hk => by
  have hl := (h k q hk).lt
  have hz : k < 1 := (List.getElem?_eq_some_iff.mp hk).1
  rw [show k = 0 by omega] at hk
  cases hk
  exact oq b hl hb)
-- writes into a sight, a star, a track, as functions on rows
def gForget (g : Nat → Int32) : Nat → Int32 := upd (upd (upd g 2 0) 9 0) 10 0
def gLose (g : Nat → Int32) : Nat → Int32 := upd (upd (gForget g) 0 0) 1 0
def gGo (n : Int32) (g : Nat → Int32) : Bool := if n = 0 then false else if g 0 = 0 then false else true
def gCnt (code wave : Int32) : Int32 := pFDiv (code - wave + 5) 10
def gLeft (code wave : Int32) : Int32 := code - wave - 10 * gCnt code wave
def gKept (go : Bool) (g : Nat → Int32) : Int32 := if bI go = 0 then 1 else g 7 + 1
def gStdy (go : Bool) (g : Nat → Int32) (left : Int32) : Int32 := if bI (pOut left (-2) 2) = 0 then (if bI go = 0 then 1 else g 8 + 1) else 0
def gFix (k s : Int32) : Int32 := if k < 3 then 0 else if s < 3 then 0 else 1
def gTake (g : Nat → Int32) (code wave n : Int32) : Nat → Int32 :=
  upd (upd (upd (upd (upd (upd (upd (upd (gForget g) 0 1) 3 code) 4 wave) 5 (gCnt code wave)) 6 (gLeft code wave)) 7 (gKept (gGo n g) g)) 8 (gStdy (gGo n g) g (gLeft code wave))) 1 (gFix (gKept (gGo n g) g) (gStdy (gGo n g) g (gLeft code wave)))
def rClock (r : Nat → Int32) (k : Int32) : Nat → Int32 := upd r 3 (pHeld (r 3 + k) 999)
def rPass (r : Nat → Int32) : Nat → Int32 := rClock (upd r 2 (pFMod (r 2 + r 1) 48)) (r 4)
def rTake (r : Nat → Int32) (ep dl : Int32) : Nat → Int32 :=
  upd (upd (upd (upd (if r 6 ≤ 0 then r else if ep - r 7 = 0 then r else upd r 10 (pHeld ((r 3 + dl - r 9) / (ep - r 7)) 9)) 6 (r 6 + 1)) 7 ep) 8 (r 2)) 9 (r 3 + dl)
def tKS1 (t z : Nat → Int32) (lc : Int64) : Nat → Int32 := upd (upd (upd (upd (upd t 5 (z 6)) 6 (z 7)) 7 (z 8)) 8 lc.toInt32) 3 (t 3 + 1)
def tKS (t z : Nat → Int32) (lc : Int64) (tx ty : Int32) : Nat → Int32 :=
  if t 10 = 0 then (if pErrAt (tKS1 t z lc) tx ty ≤ t 9 then upd (tKS1 t z lc) 4 (t 4 + pErrAt (tKS1 t z lc) tx ty) else upd (upd (tKS1 t z lc) 4 (t 4 + pErrAt (tKS1 t z lc) tx ty)) 11 (t 11 + 1)) else upd (tKS1 t z lc) 4 (t 4 + pErrAt (tKS1 t z lc) tx ty)
def pHas (z : Nat → Int32) : Bool := if z 5 < 3 then false else true
def tKA1 (t : Nat → Int32) (ep : Int32) (z : Nat → Int32) (al : Int32) : Nat → Int32 :=
  if al ≤ 0 then upd (upd (upd (upd (upd t 0 (t 0 + 1)) 1 ep) 2 (z 5)) 9 (z 10)) 10 al else upd (upd (upd (upd (upd (upd t 0 (t 0 + 1)) 1 ep) 2 (z 5)) 9 (z 10)) 10 al) 12 ep
def tKA (t : Nat → Int32) (ep : Int32) (z : Nat → Int32) (lc : Int64) (al tx ty : Int32) : Nat → Int32 := if bI (pHas z) = 0 then tKA1 t ep z al else tKS (tKA1 t ep z al) z lc tx ty
-- the solver: its object (ints by the fields' numbers, two longs), its five rows
def svF (z : Nat → Int32) (lc lb : Int64) (b : Nat → Nat) : List Value := [.ref (b 0), .ref (b 1), .ref (b 2), .ref (b 3), .ref (b 4), .int (z 5), .int (z 6), .int (z 7), .int (z 8), .long lc, .int (z 10), .int (z 11), .int (z 12), .int (z 13), .long lb]
def SVd (a : Nat) (b : Nat → Nat) : Prop := (∀ i, i < 5 → b i ≠ a) ∧ ∀ i j, i < 5 → j < 5 → b i = b j → i = j
def SVA (a : Nat) (b : Nat → Nat) : Nat → Prop := fun q => q = a ∨ ∃ i, i < 5 ∧ q = b i
def SW (D : va_G) (cy : Nat → ClassId) (a : Nat) (b : Nat → Nat) (z : Nat → Int32) (lc lb : Int64) (F : Nat → Nat → Int32) (H : Heap) : Prop :=
  va_P D vwCl [(a, .inr (2, svF z lc lb b))] H ∧ ∀ i, i < 5 → va_P D vwCl [(b i, .inl (cy 0, 8, .inl (F i)))] H
def fset (F : Nat → Nat → Int32) (i n : Nat) (v : Int32) : Nat → Nat → Int32 := fun j => if j = i then upd (F i) n v else F j
theorem SW.setO {D : va_G} {cy : Nat → ClassId} {a : Nat} {b : Nat → Nat} {z z' : Nat → Int32} {lc lb lc' lb' : Int64} {F : Nat → Nat → Int32} {H H1 : Heap} (hd : SVd a b) (h : SW D cy a b z lc lb F H) (hP : va_P D vwCl [(a, .inr (2, svF z' lc' lb' b))] H1) (oq : ∀ q : Nat, q ≠ a → H1[q]? = H[q]?) : SW D cy a b z' lc' lb' F H1 :=
  ⟨hP, fun i hi => kP_keep (h.2 i hi) oq (hd.1 i hi)⟩
theorem SW.setA {D : va_G} {cy : Nat → ClassId} {a : Nat} {b : Nat → Nat} {z : Nat → Int32} {lc lb : Int64} {F : Nat → Nat → Int32} {H H1 : Heap} {i n : Nat} {v : Int32} (hd : SVd a b) (h : SW D cy a b z lc lb F H) (hi : i < 5) (hn : n < 8) (hP : va_P D vwCl [(b i, .inl (cy 0, 8, .inl (upd (F i) (nI n).toNatClampNeg v)))] H1) (oq : ∀ q : Nat, q ≠ b i → H1[q]? = H[q]?) : SW D cy a b z lc lb (fset F i n v) H1 := by
  rw [nI_clamp (by omega)] at hP
  refine ⟨kP_keep h.1 oq (Ne.symm (hd.1 i hi)), fun j hj => ?_⟩
  unfold fset
  by_cases e : j = i
  · subst e
    rw [if_pos rfl]
    exact hP
  · rw [if_neg e]
    exact kP_keep (h.2 j hj) oq (fun q => e (hd.2 j i hj hi q))
theorem SW.keep {D : va_G} {cy : Nat → ClassId} {a : Nat} {b : Nat → Nat} {z : Nat → Int32} {lc lb : Int64} {F : Nat → Nat → Int32} {A : Nat → Prop} {H H1 : Heap} (h : SW D cy a b z lc lb F H) (oq : ∀ q : Nat, q < H.size → ¬ A q → H1[q]? = H[q]?) (ha : ∀ q, SVA a b q → ¬ A q) : SW D cy a b z lc lb F H1 :=
  ⟨kP_keepA h.1 oq (ha a (Or.inl rfl)), fun i hi => kP_keepA (h.2 i hi) oq (ha _ (Or.inr ⟨i, hi, rfl⟩))⟩
theorem SVA.a {a : Nat} {b : Nat → Nat} : SVA a b a := Or.inl rfl
theorem SVA.b {a : Nat} {b : Nat → Nat} {i : Nat} (hi : i < 5) : SVA a b (b i) := Or.inr ⟨i, hi, rfl⟩
-- the search, as functions
def pOv (F : Nat → Nat → Int32) (px py : Int32) (i : Nat) : Int32 := F 2 i - pRange px py (F 0 i) (F 1 i)
def pSum (F : Nat → Nat → Int32) (px py lo : Int32) : Nat → Int32
  | 0 => 0
  | i + 1 => if nI i = lo then pSum F px py lo i else pSum F px py lo i + F 3 i * pOv F px py i
def pWt (F : Nat → Nat → Int32) (lo : Int32) : Nat → Int32
  | 0 => 0
  | i + 1 => if nI i = lo then pWt F lo i else pWt F lo i + F 3 i
def pTm (F : Nat → Nat → Int32) (px py lo : Int32) (n : Nat) : Int32 := if pWt F lo n = 0 then 0 else pFDiv (pSum F px py lo n) (pWt F lo n)
def pCs (o w : Nat → Int32) (t lo : Int32) : Nat → Int64
  | 0 => 0
  | i + 1 => if nI i = lo then pCs o w t lo i else pCs o w t lo i + (w i).toInt64 * (o i - t).toInt64 * (o i - t).toInt64
theorem pCs_congr {o o' w : Nat → Int32} {t lo : Int32} : ∀ (n : Nat), (∀ j, j < n → o j = o' j) → pCs o w t lo n = pCs o' w t lo n
  | 0, _ => rfl
  | n + 1, h => by
    unfold pCs
    rw [pCs_congr n (fun j hj => h j (by omega)), h n (by omega)]
abbrev Bst : Type := Int32 × Int32 × Int32 × Int64
/-- whether no place is found yet (-1), as a name that isn't unfolded: so the search isn't worked out by itself -/
theorem isM1_ex : ∃ f : Int64 → Bool, ∀ x, f x = true ↔ x = -1 := ⟨fun x => decide (x = -1), fun x => by simp⟩
noncomputable def isM1 : Int64 → Bool := isM1_ex.choose
theorem isM1_iff (x : Int64) : isM1 x = true ↔ x = -1 := isM1_ex.choose_spec x
noncomputable def pTry (F : Nat → Nat → Int32) (n : Nat) (lo px py : Int32) (b : Bst) : Bst := if isM1 b.2.2.2 = true then (px, py, pTm F px py lo n, pCs (pOv F px py) (F 3) (pTm F px py lo n) lo n) else if 0 ≤ lg_cmp (pCs (pOv F px py) (F 3) (pTm F px py lo n) lo n) b.2.2.2 then b else (px, py, pTm F px py lo n, pCs (pOv F px py) (F 3) (pTm F px py lo n) lo n)
noncomputable def pRowS (F : Nat → Nat → Int32) (n : Nat) (lo py : Int32) : Nat → Bst → Bst
  | 0, b => b
  | k + 1, b => pTry F n lo (nI k + (-12)) py (pRowS F n lo py k b)
noncomputable def pSrch (F : Nat → Nat → Int32) (n : Nat) (lo : Int32) : Nat → Bst → Bst
  | 0, b => b
  | j + 1, b => pRowS F n lo (nI j) 25 (pSrch F n lo j b)
noncomputable def pFind (F : Nat → Nat → Int32) (n : Nat) (lo : Int32) (b : Bst) : Bst := pSrch F n lo 13 (b.1, b.2.1, b.2.2.1, -1)
def pFarG (f : Nat → Bst → Bst) (x y : Int32) (b : Bst) : Nat → Int32 × Bst
  | 0 => (0, b)
  | i + 1 => (pMax (pFarG f x y b i).1 (pRange x y (f i (pFarG f x y b i).2).1 (f i (pFarG f x y b i).2).2.1), f i (pFarG f x y b i).2)
theorem pFarG_0 (f : Nat → Bst → Bst) (x y : Int32) (b : Bst) : pFarG f x y b 0 = (0, b) := by rw [pFarG]
theorem pFarG_s (f : Nat → Bst → Bst) (x y : Int32) (b : Bst) (i : Nat) : pFarG f x y b (i + 1) = (pMax (pFarG f x y b i).1 (pRange x y (f i (pFarG f x y b i).2).1 (f i (pFarG f x y b i).2).2.1), f i (pFarG f x y b i).2) := by rw [pFarG]
noncomputable def pFar (F : Nat → Nat → Int32) (n : Nat) (x y : Int32) (b : Bst) : Nat → Int32 × Bst := pFarG (fun i b => pFind F n (nI i) b) x y b
theorem x12_gt : ∀ k, k ≤ 25 → ((12 : Int32) < nI k + (-12) ↔ k = 25) := by decide
theorem x12_s (k : Nat) : nI k + (-12) + Int32.ofInt 1 = nI (k + 1) + (-12) := by
  rw [nI_succ, Int32.add_assoc, Int32.add_comm (-12), ← Int32.add_assoc]
  rfl
theorem y12_gt : ∀ k, k ≤ 13 → ((12 : Int32) < nI k ↔ k = 13) := by decide
