-- the numbers' functions, as the code has them
def pMax (x y : Int32) : Int32 := if x < y then y else x
def pMin (x y : Int32) : Int32 := if y < x then y else x
def pAbs (x : Int32) : Int32 := if 0 ≤ x then x else 0 - x
def pRange (x y u v : Int32) : Int32 := pMax (pAbs (x - u)) (pAbs (y - v))
def pOut (v lo hi : Int32) : Bool := if v < lo then true else if v ≤ hi then false else true
def pNoPlace (x y : Int32) : Bool := if bI (pOut x (-12) 12) = 0 then if bI (pOut y 0 12) = 0 then false else true else true
def pHeld (v lim : Int32) : Int32 := pMax (-lim) (pMin lim v)
def pRem (x y : Int32) : Int32 := x - x / y * y
def pT (u : Int32) : Int32 := if 12 < u then if 36 < u then u - 48 else 24 - u else u
def pSwing (ph : Int32) : Int32 := pT (if 0 ≤ pRem ph 48 then pRem ph 48 else pRem ph 48 + 48)
def pFMod (x y : Int32) : Int32 := if 0 ≤ x ^^^ y then pRem x y else if pRem x y = 0 then pRem x y else pRem x y + y
def pFDiv (x y : Int32) : Int32 := if 0 ≤ x ^^^ y then x / y else if x / y * y = x then x / y else x / y - 1
def pBit1 (x : Int32) : Int32 := x - ((x.toUInt32 >>> ((1 : Int32).toUInt32 &&& Int32.toUInt32 31)).toInt32 &&& 1431655765)
def pBit2 (x : Int32) : Int32 := (x &&& 858993459) + ((x.toUInt32 >>> ((2 : Int32).toUInt32 &&& Int32.toUInt32 31)).toInt32 &&& 858993459)
def pBit3 (x : Int32) : Int32 := (x + (x.toUInt32 >>> ((4 : Int32).toUInt32 &&& Int32.toUInt32 31)).toInt32) &&& 252645135
def pBit4 (x : Int32) : Int32 := x + (x.toUInt32 >>> ((8 : Int32).toUInt32 &&& Int32.toUInt32 31)).toInt32
def pBit5 (x : Int32) : Int32 := x + (x.toUInt32 >>> ((16 : Int32).toUInt32 &&& Int32.toUInt32 31)).toInt32
def pBits (x : Int32) : Int32 := pBit5 (pBit4 (pBit3 (pBit2 (pBit1 x)))) &&& 63
theorem bI_true : bI true = 1 := rfl
theorem bI_false : bI false = 0 := rfl
-- a star's row (radius, spin, phase, offset, drift, healthy, issue, toldEpoch, toldPhase, toldOffset, toldDrift)
def pX (r : Nat → Int32) (k : Int32) : Int32 := r 0 * pSwing (r 2 + k * r 1) / 12
def pY (r : Nat → Int32) (k : Int32) : Int32 := r 0 * pSwing (r 2 + k * r 1 + 12) / 12
def pTX (r : Nat → Int32) (ep : Int32) : Int32 := r 0 * pSwing (r 8 + (ep - r 7) * r 1) / 12
def pTY (r : Nat → Int32) (ep : Int32) : Int32 := r 0 * pSwing (r 8 + (ep - r 7) * r 1 + 12) / 12
def pTC (r : Nat → Int32) (ep : Int32) : Int32 := r 9 + (ep - r 7) * r 10
def pHolds (r : Nat → Int32) (ep : Int32) : Bool := if r 6 ≤ 0 then false else if bI (pOut (ep - r 7) 0 12) = 0 then true else false
def pTell (r : Nat → Int32) (w : Int32) : Int32 := if w = 0 then r 0 else if w = 1 then r 2 else if w = 2 then r 1 else if w = 3 then r 3 else if w = 4 then r 4 else if w = 5 then (if r 5 = 0 then 0 else 1) else if w = 6 then pX r 0 else pY r 0
def pTellM (r : Nat → Int32) (w ep : Int32) : Int32 := if w = 0 then r 6 else if w = 1 then r 7 else if w = 2 then r 8 else if w = 3 then r 9 else if w = 4 then r 10 else if w = 5 then (if bI (pHolds r ep) = 0 then 0 else 1) else if w = 6 then (if r 6 = 0 then 0 else pAbs (pTC r ep - r 3)) else (if r 6 = 0 then 0 else pRange (pTX r ep) (pTY r ep) (pX r 0) (pY r 0))
-- a station's row (x, delay): can it hear the star
def pHear (t r : Nat → Int32) (k : Int32) : Bool := if r 5 = 0 then false else if pY r k < 10 then false else if 2 * pY r k < pAbs (pX r k - t 0) then false else true
-- a receiver's row (number, bias, -, -, x, y, left, right, iono, dual, alert, spoofed, reference)
def pSee (v r : Nat → Int32) (k : Int32) : Bool := if r 5 = 0 then false else if pY r k - v 5 < (if v 4 ≤ pX r k then v 7 else v 6) then false else true
def pTrue (v r : Nat → Int32) : Int32 := pRange (v 4) (v 5) (pX r 0) (pY r 0) + r 3 + v 1 + (if v 4 ≤ pX r 0 then -v 11 else v 11)
def pAir (v r : Nat → Int32) : Int32 := if v 9 = 0 then (if pAbs (pX r 0 - v 4) ≤ pAbs (pY r 0 - v 5) then v 8 else 2 * v 8) else 0
-- a sight's row (seen, fixed, used, code, wave, count, left, kept, steady, correction, offered)
def pMeas (g : Nat → Int32) : Int32 := if g 1 = 0 then g 3 else g 4 + 10 * g 5
def pTellS (g : Nat → Int32) (w : Int32) : Int32 := if w = 0 then g 3 else if w = 1 then g 4 else if w = 2 then g 5 else if w = 3 then g 6 else if w = 4 then g 7 else g 9
def pTellG (g : Nat → Int32) (w : Int32) : Int32 := if w = 5 then (if g 1 = 0 then 0 else 1) else if w = 6 then (if g 2 = 0 then 0 else 1) else if g 0 = 0 then -1 else pTellS g w
-- a track's row (observations, latest, used, solutions, errors, x, y, time, cost, level, alarm, misled, alarmEpoch)
def pObsIn (t : Nat → Int32) (ep : Int32) : Bool := if t 0 ≤ 0 then false else if t 1 = ep then true else false
def pObsSince (t : Nat → Int32) (ep : Int32) : Bool := if t 0 ≤ 0 then false else if t 1 < ep then false else true
def pLeaps (t : Nat → Int32) (x y ep : Int32) : Bool := if bI (pObsIn t (ep - 1)) = 0 then false else if t 2 < 3 then false else if pRange (t 5) (t 6) x y ≤ 4 then false else true
def pErrAt (t : Nat → Int32) (x y : Int32) : Int32 := if t 3 = 0 then 0 else pRange (t 5) (t 6) x y
def pTellT (t : Nat → Int32) (w : Int32) : Int32 := if w = 3 then t 1 else if w = 4 then t 2 else if w = 5 then t 5 else if w = 6 then t 6 else if w = 7 then t 7 else if w = 8 then t 8 else if w = 9 then t 9 else if w = 10 then t 10 else if w = 11 then t 11 else t 12
-- the JDK's own methods: no native row bears their names
theorem Met.ofWF {l : Launch} {y : MethodName} {ws ws' : List Cond} {rm : Room} {Pc : Array Value → State → Prop} {Qc : Array Value → State → Outcome → State → Prop} {mc ms : Nat} {free : Addr → Prop} {cc : ByteArray} {maxL : Nat} {ret : Option FieldType}
    (hy : plainFor y = true) (hw : ws = Cond.code y cc maxL ret :: ws')
    (body : ∀ p e s m args below meth c s₁, BodyLoose p l y (headSpec ws rm) cc maxL ret e s m args below meth c s₁ → c.maxLocals = maxL → Pc args s →
      W p l e (headSpec ws rm).room s m args below meth c s.heap [] 0 0 (MQ below Qc args s mc ms free) (entryFrame m args maxL)) : Met l y ws rm Pc Qc mc ms free := by
  refine MetFree.of_bodySF (code := cc) (maxLocals := maxL) (ret := ret) hy ?_ ?_
  · intro args s m h hn
    obtain ⟨meth, c, h1, h2, h3, h4, h5, h6, -, -⟩ := Cond.code_spec hn (atoms_spec (ws := ws) h _ (by rw [hw]; exact List.mem_cons_self))
    exact ⟨meth, c, h1, h2, h3, h4, h5, h6⟩
  · intro p e s m args below meth c s₁ B hml hP _
    have hh0 : s₁.heap = s.heap := by rw [B.state]; rfl
    obtain ⟨t, a1, o, b1, b2, b3⟩ := body p e s m args below meth c s₁ B hml hP s₁ hh0 (Stand.of_body B)
    exact ⟨t, o, a1, b1, b2, ⟨b3.1, b3.2⟩⟩
theorem k_bodyF {l : Launch} {bytes : ByteArray} {maxL mc ms : Nat} {As : List Value} {D : va_G} {cy : Nat → ClassId} {y : MethodName} {ret : Option FieldType} {rm : Room} {I : Heap → Prop} {Qc : Array Value → State → Outcome → State → Prop} {free : Addr → Prop} (hy : plainFor y = true) (hlen : (lg_sl As).length ≤ maxL)
    (body : ∀ (p : Program) (e : Env) (s : State) (m : MethodId) (below : List Frame) (meth : Method) (c : Code) (ls : Array Slot), p.tables.exec = Jvm.exec → c.code = bytes → c.maxLocals = ls.size → s.vm.findClass y.cls = some m.cls → meth.sig.returnType = ret → meth.locks = false → (meth.name = y.name) → lv_has ls maxL (lv_args 0 As) → GK D cy s → I s.heap →
      W p l e rm s m As.toArray below meth c s.heap [] 0 0 (MQ below Qc As.toArray s mc ms free) (F0 m 0 ls [])) : Met l y [.code y bytes maxL ret] rm (PC D cy As I) Qc mc ms free := by
  refine Met.ofWF (cc := bytes) (maxL := maxL) (ret := ret) hy rfl ?_
  intro p e s m args below meth c s₁ B hml hv
  obtain ⟨rfl, hG, hI⟩ := hv
  have hl := lv_entry As hlen
  rw [lg_entry_eq]
  generalize (lg_sl As ++ List.replicate (maxL - (lg_sl As).length) Slot.unset).toArray = ls at hl ⊢
  exact body p e s m below meth c ls B.exec B.bytes (hml.trans hl.1.symm) (findClass_of_methodNamed B.named) B.returns B.notSynchronized (name_of_methodNamed B.named B.method).1 hl hG hI
-- the cells' fields
def stF (r : Nat → Int32) : List Value := [.int (r 0), .int (r 1), .int (r 2), .int (r 3), .int (r 4), .int (r 5), .int (r 6), .int (r 7), .int (r 8), .int (r 9), .int (r 10)]
def snF (r : Nat → Int32) : List Value := [.int (r 0), .int (r 1)]
def rcF (r : Nat → Int32) (q2 q3 : Nat) : List Value := [.int (r 0), .int (r 1), .ref q2, .ref q3, .int (r 4), .int (r 5), .int (r 6), .int (r 7), .int (r 8), .int (r 9), .int (r 10), .int (r 11), .int (r 12)]
def trF (r : Nat → Int32) : List Value := [.int (r 0), .int (r 1), .int (r 2), .int (r 3), .int (r 4), .int (r 5), .int (r 6), .int (r 7), .int (r 8), .int (r 9), .int (r 10), .int (r 11), .int (r 12)]
section KM
variable {p : Program} {l : Launch} {e : Env} {R : Room} {s : State} {m : MethodId} {args : Array Value} {below : List Frame} {meth : Method} {c : Code} {H : Heap} {locs : List Loc} {cells slots : Nat} {Q : State → Prop}
variable {cc : ByteArray} {pc index : Nat} {ls : Array Slot} {rest : List Value} {D : va_G} {cy : Nat → ClassId} {own : String}
theorem wMth_max : Cond.static Lib.Math.max.name ∈ lw_tbl ∧ Cond.initialized "java/lang/Math" ∈ lw_tbl ∧ Cond.code Lib.Math.max.name Lib.Math.max.code 2 (some .int) ∈ lw_tbl := by decide +kernel
theorem wMth_min : Cond.static Lib.Math.min.name ∈ lw_tbl ∧ Cond.initialized "java/lang/Math" ∈ lw_tbl ∧ Cond.code Lib.Math.min.name Lib.Math.min.code 2 (some .int) ∈ lw_tbl := by decide +kernel
theorem wMth_abs : Cond.static Lib.Math.abs.name ∈ lw_tbl ∧ Cond.initialized "java/lang/Math" ∈ lw_tbl ∧ Cond.code Lib.Math.abs.name Lib.Math.abs.code 1 (some .int) ∈ lw_tbl := by decide +kernel
theorem k_mmax (hx : p.tables.exec = Jvm.exec) (hb : c.code = cc) (hml : c.maxLocals = ls.size) (hown : s.vm.findClass own = some m.cls) (hG : GK D cy s) (hlink : Cond.methodLink own index Lib.Math.max.name ∈ lw_tbl) (hf : 1 ≤ R.frames) (hlo : (rest.map fun v => v.category).sum + 13 ≤ R.locals) (hc : cells ≤ R.cells) (hs : slots ≤ R.slots) {x y : Int32} (hdg : decode cc pc = .ok (.invokestatic index, 3))
    (kk : W p l e R s m args below meth c H locs cells slots Q (F0 m (pc + 3) ls (.int (pMax x y) :: rest))) : W p l e R s m args below meth c H locs cells slots Q (F0 m pc ls (.int y :: .int x :: rest)) :=
  va_mmax hx hb hml hown (hG.w hlink rfl) (hG.w wMth_max.1 rfl) (hG.w wMth_max.2.1 rfl) (hG.w wMth_max.2.2 rfl) hf hlo hc hs hdg kk
theorem k_mmin (hx : p.tables.exec = Jvm.exec) (hb : c.code = cc) (hml : c.maxLocals = ls.size) (hown : s.vm.findClass own = some m.cls) (hG : GK D cy s) (hlink : Cond.methodLink own index Lib.Math.min.name ∈ lw_tbl) (hf : 1 ≤ R.frames) (hlo : (rest.map fun v => v.category).sum + 13 ≤ R.locals) (hc : cells ≤ R.cells) (hs : slots ≤ R.slots) {x y : Int32} (hdg : decode cc pc = .ok (.invokestatic index, 3))
    (kk : W p l e R s m args below meth c H locs cells slots Q (F0 m (pc + 3) ls (.int (pMin x y) :: rest))) : W p l e R s m args below meth c H locs cells slots Q (F0 m pc ls (.int y :: .int x :: rest)) :=
  va_mmin hx hb hml hown (hG.w hlink rfl) (hG.w wMth_min.1 rfl) (hG.w wMth_min.2.1 rfl) (hG.w wMth_min.2.2 rfl) hf hlo hc hs hdg kk
theorem k_mabs (hx : p.tables.exec = Jvm.exec) (hb : c.code = cc) (hml : c.maxLocals = ls.size) (hown : s.vm.findClass own = some m.cls) (hG : GK D cy s) (hlink : Cond.methodLink own index Lib.Math.abs.name ∈ lw_tbl) (hf : 1 ≤ R.frames) (hlo : (rest.map fun v => v.category).sum + 13 ≤ R.locals) (hc : cells ≤ R.cells) (hs : slots ≤ R.slots) {x : Int32} (hdg : decode cc pc = .ok (.invokestatic index, 3))
    (kk : W p l e R s m args below meth c H locs cells slots Q (F0 m (pc + 3) ls (.int (pAbs x) :: rest))) : W p l e R s m args below meth c H locs cells slots Q (F0 m pc ls (.int x :: rest)) :=
  va_mabs hx hb hml hown (hG.w hlink rfl) (hG.w wMth_abs.1 rfl) (hG.w wMth_abs.2.1 rfl) (hG.w wMth_abs.2.2 rfl) hf hlo hc hs hdg kk
end KM
