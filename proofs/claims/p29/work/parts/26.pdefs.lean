-- the public methods: which of their refusals (0 none), and what they leave, as functions
def EIA : String := "java/lang/IllegalArgumentException"
def EIS : String := "java/lang/IllegalStateException"
def EIB : String := "java/lang/IndexOutOfBoundsException"
def errP (k : Int32) (e1 e2 : String) : String → Prop := fun E => (k = 1 ∧ E = e1) ∨ (k = 2 ∧ E = e2)
def kPush (ns : Nat) (x b : Int32) : Int32 := if bI (pOut x 0 (nI ns - 1)) = 0 then (if bI (pOut b (-5) 5) = 0 then 0 else 2) else 1
def kJump (ns : Nat) (x o d : Int32) : Int32 := if bI (pOut x 0 (nI ns - 1)) = 0 then (if bI (pOut o (-99) 99) = 0 then (if bI (pOut d (-3) 3) = 0 then 0 else 2) else 2) else 1
def kOne (n : Nat) (x : Int32) : Int32 := if bI (pOut x 0 (nI n - 1)) = 0 then 0 else 1
def kTwo (n n2 : Nat) (x y : Int32) : Int32 := if bI (pOut x 0 (nI n - 1)) = 0 then (if bI (pOut y 0 (nI n2 - 1)) = 0 then 0 else 1) else 1
def kTwoR (n n2 : Nat) (x y w hi : Int32) : Int32 := if bI (pOut x 0 (nI n - 1)) = 0 then (if bI (pOut y 0 (nI n2 - 1)) = 0 then (if bI (pOut w 0 hi) = 0 then 0 else 2) else 1) else 1
def kRng (n : Nat) (x w lo hi : Int32) : Int32 := if bI (pOut x 0 (nI n - 1)) = 0 then (if bI (pOut w lo hi) = 0 then 0 else 2) else 1
def kListen (M : Nat → Nat → Int32) (nt ns : Nat) (t x : Int32) : Int32 := if bI (pOut t 0 (nI nt - 1)) = 0 then (if bI (pOut x 0 (nI ns - 1)) = 0 then (if bI (pHear (M (20 + t.toNatClampNeg)) (M (10 + x.toNatClampNeg)) 0) = 0 then 2 else 0) else 1) else 1
def kGo (nr : Nat) (x u v : Int32) : Int32 := if bI (pOut x 0 (nI nr - 1)) = 0 then (if bI (pNoPlace u v) = 0 then 0 else 2) else 1
def kHills (nr : Nat) (x lf rt : Int32) : Int32 := if bI (pOut x 0 (nI nr - 1)) = 0 then (if bI (pOut lf 0 60) = 0 then (if bI (pOut rt 0 60) = 0 then 0 else 2) else 2) else 1
def kRefer (nr : Nat) (x y : Int32) : Int32 := if bI (pOut x 0 (nI nr - 1)) = 0 then (if y = -1 then (if x = y then 2 else 0) else if bI (pOut y 0 (nI nr - 1)) = 0 then (if x = y then 2 else 0) else 1) else 1
def kIn (w lo hi : Int32) : Int32 := if bI (pOut w lo hi) = 0 then 0 else 1
def kObs (M : Nat → Nat → Int32) (nr : Nat) (x : Int32) : Int32 := if bI (pOut x 0 (nI nr - 1)) = 0 then (if bI (pObsIn (M (50 + x.toNatClampNeg)) (M 0 0)) = 0 then 0 else 2) else 1
def obM (M : Nat → Nat → Int32) (ns nr i : Nat) : Nat → Nat → Int32 := pOf (pGM (pMs M i ns) nr i ns) i ns
noncomputable def obZ (M : Nat → Nat → Int32) (ns nr i : Nat) (V : SX) : Nat → Int32 := zSolve (pGMl (pMs M i ns) nr i V.2.2.2 ns).2 V.1 (pGMl (pMs M i ns) nr i V.2.2.2 ns).1 (vB V)
noncomputable def obC (M : Nat → Nat → Int32) (ns nr i : Nat) (V : SX) : Int64 := lSolve (pGMl (pMs M i ns) nr i V.2.2.2 ns).2 V.1 V.2.1 (pGMl (pMs M i ns) nr i V.2.2.2 ns).1 (vB V)
noncomputable def obT (M : Nat → Nat → Int32) (ns nr i : Nat) (V : SX) : Nat → Int32 :=
  tKA (obM M ns nr i (50 + i)) (obM M ns nr i 0 0) (obZ M ns nr i V) (obC M ns nr i V) (pAlarm (obZ M ns nr i V) (obC M ns nr i V) (obM M ns nr i (30 + i)) (obM M ns nr i (50 + i)) 1 (obM M ns nr i 0 0)) (obM M ns nr i (30 + i) 4) (obM M ns nr i (30 + i) 5)
def pPassN (M : Nat → Nat → Int32) (ns : Nat) : Nat → Nat → Nat → Int32
  | 0 => M
  | k + 1 => pPass1 (pPassN M ns k) ns
theorem pPassN_0 (M : Nat → Nat → Int32) (ns : Nat) : pPassN M ns 0 = M := by rw [pPassN]
theorem pPassN_s (M : Nat → Nat → Int32) (ns k : Nat) : pPassN M ns (k + 1) = pPass1 (pPassN M ns k) ns := by rw [pPassN]
noncomputable def pWoQ (M : Nat → Nat → Int32) (ns nr i : Nat) (y : Int32) (V : SX) : Nat → Int32 := zSolve (pGS M nr i y V.2.2.2 ns).2 V.1 (pGS M nr i y V.2.2.2 ns).1 (vB V)
noncomputable def pWo (M : Nat → Nat → Int32) (ns nr i : Nat) (y : Int32) (V : SX) : Int32 := if bI (pHas (pWoQ M ns nr i y V)) = 0 then -1 else 100 * (pWoQ M ns nr i y V 6 + 12) + pWoQ M ns nr i y V 7
theorem pHas_zB (z : Nat → Int32) (B : Bst) : pHas (zB z B) = pHas z := rfl
theorem tKA1_zB (t : Nat → Int32) (ep : Int32) (z : Nat → Int32) (B : Bst) (al : Int32) : tKA1 t ep (zB z B) al = tKA1 t ep z al := rfl
theorem tKS1_zB (t z : Nat → Int32) (B : Bst) (lc : Int64) : tKS1 t (zB z B) lc = tKS1 t z lc := rfl
theorem tKS_zB (t z : Nat → Int32) (B : Bst) (lc : Int64) (tx ty : Int32) : tKS t (zB z B) lc tx ty = tKS t z lc tx ty := by
  unfold tKS
  rw [tKS1_zB]
theorem tKA_zB (t : Nat → Int32) (ep : Int32) (z : Nat → Int32) (B : Bst) (lc : Int64) (al tx ty : Int32) : tKA t ep (zB z B) lc al tx ty = tKA t ep z lc al tx ty := by
  unfold tKA
  rw [tKA1_zB, tKS_zB, pHas_zB]
section KZ
variable {p : Program} {l : Launch} {e : Env} {R : Room} {s : State} {m : MethodId} {args : Array Value} {below : List Frame} {meth : Method} {c : Code} {H : Heap} {locs : List Loc} {cells slots : Nat} {cc : ByteArray} {pc : Nat} {ls : Array Slot} {A : Nat → Prop}
theorem ke_uz {P : Int32 → Heap → Prop} {b : Bool} {v : Int32} (hx : p.tables.exec = Jvm.exec) (hb : c.code = cc) (hr : meth.sig.returnType = some .boolean) (hlk : meth.locks = false) (hS : va_S A s.heap H locs) (hdg : decode cc pc = .ok (.ireturn, 1)) (hv : v = bI b) (hp : P (bI b) H) : W p l e R s m args below meth c H locs cells slots (MQ below (UQi A P) args s cells slots A) (F0 m pc ls [.int v]) := by
  subst hv
  exact W.zret hx hb hr (bI_nar b) (fun t ht _ => ⟨⟨bI b, rfl, by rw [ht]; exact hp⟩, hS.F ht⟩) hS.2.2 hdg hlk
end KZ
theorem pSet_mset {M : Nat → Nat → Int32} {v : Nat → Int32} {k0 : Nat} {r : Nat → Int32} {k : Int32} : ∀ {n : Nat}, 20 ≤ k0 → n ≤ 8 → pSet v (mset M k0 r) k n = pSet v M k n
  | 0, _, _ => by rw [pSet, pSet]
  | n + 1, h, hn => by
    rw [pSet, pSet, pSet_mset h (by omega), mset_n (by omega)]
theorem pIn48 {n : Int32} (h : bI (pOut n 1 48) = 0) : ∃ k : Nat, k ≤ 48 ∧ n = nI k := by
  have h1 := bI_f h
  unfold pOut at h1
  by_cases c1 : n < 1
  · rw [if_pos c1] at h1; cases h1
  · rw [if_neg c1] at h1
    by_cases c2 : n ≤ 48
    · have e1 : (1 : Int32).toInt = 1 := by decide
      have e48 : (48 : Int32).toInt = 48 := by decide
      have h3 : ¬ n < 0 := fun q => c1 (by
        rw [Int32.lt_iff_toInt_lt] at q ⊢
        have e0 : (0 : Int32).toInt = 0 := by decide
        omega)
      obtain ⟨k, hk, rfl⟩ := nI_of h3
      refine ⟨k, ?_, rfl⟩
      have h4 := Int32.le_iff_toInt_le.mp c2
      rw [nI_toInt hk] at h4
      omega
    · rw [if_neg c2] at h1; cases h1
section XBW
variable {p : Program} {l : Launch} {e : Env} {R : Room} {s : State} {m : MethodId} {args : Array Value} {below : List Frame} {meth : Method} {c : Code} {cc : ByteArray} {pc mc ms : Nat} {ls : Array Slot} {D : va_G} {cy : Nat → ClassId} {Qc : Array Value → State → Outcome → State → Prop} {free : Addr → Prop}
theorem k_throwW {pE : String → Prop} {cls text : String} {ik is ic : Nat} (hE : EXW cls ik ic) (hst : Cond.stringRef RX6 is text ∈ lw_tbl) (hx : p.tables.exec = Jvm.exec) (hb : c.code = cc) (hml : c.maxLocals = ls.size) (hown : s.vm.findClass RX6 = some m.cls) (hlk : meth.locks = false) (hlf : l.stackTraces = false) (hG : GK D cy s) (hnx : ∀ x ∈ c.exceptionTable.toList, False) (hX : XWD s) (hZ : GX s s.heap)
    (d0 : decode cc pc = .ok (.new ik, 3)) (d3 : decode cc (pc + 3) = .ok (.dup, 1)) (d4 : decode cc (pc + 4) = .ok (.ldc_w is, 3)) (d7 : decode cc (pc + 7) = .ok (.invokespecial ic, 3)) (d10 : decode cc (pc + 10) = .ok (.athrow, 1))
    (hR : 5 < R.frames ∧ 82 ≤ R.locals ∧ 1 ≤ R.cells ∧ 6 ≤ R.slots) (hms : 1 ≤ mc ∧ 6 ≤ ms) (hp : pE cls) : W p l e R s m args below meth c s.heap [] 0 0 (vx_MQ below Qc (XQ pE) args s mc ms free) (F0 m pc ls []) := by
  obtain ⟨⟨h1, h2, h3, h4⟩, h5, h6⟩ := hE
  obtain ⟨k, cf, j, sa, -, -, -, -, -, hev⟩ := Cond.stringRef_spec (args := #[]) hown (hX.use hst rfl)
  refine vx_throwSW (A := fun _ => False) (names := exN) (text := text) (sa := sa) hx hb hlf hown h1 h2 (hG.w h3 rfl) (hG.w h4 rfl) (vk_R.of (hX.use hst rfl) hev) (fun w hw => ?_) h6 hZ.1 hZ.2 va_S.rf hml.symm d0 d3 d4 d7 d10 (fun x hx9 => (hnx x hx9).elim) hR.1 (by show 0 + (13 * (2 + 1) + 43) ≤ R.locals; exact hR.2.1) (by omega) (by omega) hlk (fun t _ z k9 => ⟨hp, z, fun q hq _ => k9 q hq⟩) (fun z hz => nomatch hz) hms.1 hms.2
  obtain ⟨a1, a2⟩ := h5 w hw
  rcases Bool.or_eq_true_iff.mp a2 with a2 | a2
  · exact hG.w a1 a2
  · exact hX.use a1 a2
end XBW
