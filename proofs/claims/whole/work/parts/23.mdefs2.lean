theorem mset_mset (M : Nat → Nat → Int32) (k : Nat) (r r' : Nat → Int32) : mset (mset M k r) k r' = mset M k r' := by
  funext j
  unfold mset
  by_cases e : j = k
  · rw [if_pos e, if_pos e]
  · rw [if_neg e, if_neg e, if_neg e]
theorem zN_eq (z : Nat → Int32) (n : Nat) (lb : Int64) : zN z n (z 11, z 12, z 13, lb) = upd z 5 (nI n) := by
  funext j
  unfold zN zB upd
  by_cases e1 : j = 13 <;> by_cases e2 : j = 12 <;> by_cases e3 : j = 11 <;> by_cases e4 : j = 5 <;> simp_all
theorem pAlarm_zB (z : Nat → Int32) (B : Bst) (lc : Int64) (v t : Nat → Int32) (wl ep : Int32) : pAlarm (zB z B) lc v t wl ep = pAlarm z lc v t wl ep := rfl
def vB (V : SX) : Bst := (V.1 11, V.1 12, V.1 13, V.2.2.1)
noncomputable def pSAl (M : Nat → Nat → Int32) (ns nr i : Nat) (V : SX) : Int32 :=
  pAlarm (zSolve (pGS M nr i (-1) V.2.2.2 ns).2 V.1 (pGS M nr i (-1) V.2.2.2 ns).1 (vB V)) (lSolve (pGS M nr i (-1) V.2.2.2 ns).2 V.1 V.2.1 (pGS M nr i (-1) V.2.2.2 ns).1 (vB V)) (M (30 + i)) (M (50 + i)) 0 (M 0 0)
def pDSts (M : Nat → Nat → Int32) (nt : Nat) : Nat → Int64 → Int64
  | 0, d => d
  | j + 1, d => pDSt M nt j (pDSts M nt j d)
theorem pDSts_0 (M : Nat → Nat → Int32) (nt : Nat) (d : Int64) : pDSts M nt 0 d = d := by rw [pDSts]
theorem pDSts_s (M : Nat → Nat → Int32) (nt j : Nat) (d : Int64) : pDSts M nt (j + 1) d = pDSt M nt j (pDSts M nt j d) := by rw [pDSts]
def pDRcs (M : Nat → Nat → Int32) (ns : Nat) : Nat → Int64 → Int64
  | 0, d => d
  | j + 1, d => pDRc M ns j (pDRcs M ns j d)
theorem pDRcs_0 (M : Nat → Nat → Int32) (ns : Nat) (d : Int64) : pDRcs M ns 0 d = d := by rw [pDRcs]
theorem pDRcs_s (M : Nat → Nat → Int32) (ns j : Nat) (d : Int64) : pDRcs M ns (j + 1) d = pDRc M ns j (pDRcs M ns j d) := by rw [pDRcs]
def pDig0 (M : Nat → Nat → Int32) (ns nt nr : Nat) : Int64 := pDRcs M ns nr (pDSts M nt ns (pFold (fun k => pCount M ns nt nr (nI k)) 9 58189))
noncomputable def pDig (M : Nat → Nat → Int32) (ns nt nr : Nat) (V : SX) : Int64 := if nI nr ≤ 0 then pDig0 M ns nt nr else pDig0 M ns nt nr * 31 + (pSAl M ns nr 0 V).toInt64
