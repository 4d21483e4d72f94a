-- a public method that may throw: its words beside ALLW, where Throwable's two statics lie, its throws, its ends
def okx : Cond → Bool
  | .stringRef _ _ _ => true
  | .castable _ _ => true
  | .declares _ => true
  | _ => false
theorem sref_args {o tx : String} {k : Nat} {A A' : Array Value} {u U : State} (hv : u.vm = U.vm) (h : (Cond.stringRef o k tx).before A u = true) : (Cond.stringRef o k tx).before A' U = true := by
  simp only [Cond.before, Cond.holds, Cond.value, State.names, State.poolOf?, State.resolvedAt?, hv] at h ⊢
  exact h
theorem okx_args {w : Cond} (ho : okx w = true) {A A' : Array Value} {u U : State} (hv : u.vm = U.vm) (h : w.before A u = true) : w.before A' U = true := by
  cases w <;> first | exact sref_args hv h | exact va_tabs rfl hv h | cases ho
def XWD (U : State) : Prop := ∀ w ∈ lw_tbl, okx w = true → w.before #[] U = true
theorem XWD.of {s : State} {args : Array Value} (h : ∀ w ∈ lw_tbl, w.before args s = true) : XWD s := fun w hm ho => okx_args ho rfl (h w hm)
theorem XWD.vm {u U : State} (hvm : u.vm = U.vm) (h : XWD u) : XWD U := fun w hm ho => okx_args ho hvm (h w hm ho)
theorem XWD.use {s : State} (h : XWD s) {w : Cond} (hm : w ∈ lw_tbl) (ho : okx w = true) {args : Array Value} : w.before args s = true := okx_args ho rfl (h w hm ho)
theorem XWD.warm {s U : State} (hW : s.WarmedH U.vm) (h : XWD s) : XWD U := by
  intro w hm ho
  have h1 := h w hm ho
  cases w <;> first | exact va_Nw.warmC hW h1 | exact va_Nw.warmD hW h1 | exact sref_args (u := s.setVm U.vm) rfl (Cond.stringRef_warmed hW h1) | cases ho
def GX (U : State) (H : Heap) : Prop := vx_Zq Bundle.tN "UNASSIGNED_STACK" Bundle.steD (fun _ => False) U H ∧ vx_Zq Bundle.tN "SUPPRESSED_SENTINEL" Bundle.listD (fun _ => False) U H
theorem GX.moved {u U : State} {H : Heap} (hvm : u.vm.Alike U.vm) (h : GX u H) : GX U H := ⟨vx_Zq.moved hvm h.1, vx_Zq.moved hvm h.2⟩
def PX (D : va_G) (cy : Nat → ClassId) (av : List Value) (I : Heap → Prop) : Array Value → State → Prop := fun v U => PC D cy av I v U ∧ XWD U ∧ GX U U.heap
theorem PX.blind {D : va_G} {cy : Nat → ClassId} {av : List Value} {I : Heap → Prop} : FrameBlind (PX D cy av I) := fun a U g mk h => ⟨PC.blind a U g mk h.1, XWD.vm (u := U) rfl h.2.1, GX.moved (u := U) (Vm.Alike.refl U.vm) h.2.2⟩
def exN : List String := ["java/lang/RuntimeException", "java/lang/Exception"]
/-- the words of one place's throw -/
def EXW (cls : String) (ik ic : Nat) : Prop := (Bundle.fit cls = true ∧ (∀ n ∈ exN, Bundle.fit n = true) ∧ Cond.classLink RX6 ik cls ∈ lw_tbl ∧ Cond.initialized cls ∈ lw_tbl) ∧ (∀ w ∈ vx_atS RX6 ic cls exN, w ∈ lw_tbl ∧ (okw w || okx w) = true) ∧ ∀ w ∈ Cond.classLink RX6 ik cls :: Cond.initialized cls :: vx_atS RX6 ic cls exN, vx_ot w = true
/-- what throwing leaves: nothing that was there is changed -/
def XQ (pE : String → Prop) : String → State → State → Prop := fun E st t => pE E ∧ va_F (fun _ => False) st t
section XB
variable {p : Program} {l : Launch} {e : Env} {R : Room} {s : State} {m : MethodId} {args : Array Value} {below : List Frame} {meth : Method} {c : Code} {H : Heap} {locs : List Loc} {cells slots : Nat} {Q : State → Prop}
variable {cc bytes : ByteArray} {pc nL maxL mc ms n index : Nat} {ls : Array Slot} {rest st0 As : List Value} {D : va_G} {cy : Nat → ClassId} {y : MethodName} {ret : Option FieldType} {rm : Room} {I : Heap → Prop} {Qc : Array Value → State → Outcome → State → Prop} {XC : String → State → State → Prop} {free : Addr → Prop}
theorem k_bodyX (hy : plainName y.cls = true) (hlen : (lg_sl As).length ≤ maxL)
    (body : ∀ (p : Program) (e : Env) (s : State) (m : MethodId) (below : List Frame) (meth : Method) (c : Code) (ls : Array Slot), p.tables.exec = Jvm.exec → c.code = bytes → c.maxLocals = ls.size → s.vm.findClass y.cls = some m.cls → meth.sig.returnType = ret → meth.locks = false → (meth.name = y.name) → lv_has ls maxL (lv_args 0 As) → GK D cy s → I s.heap → (∀ x ∈ c.exceptionTable.toList, False) → XWD s → GX s s.heap →
      W p l e rm s m As.toArray below meth c s.heap [] 0 0 (vx_MQ below Qc XC As.toArray s mc ms free) (F0 m 0 ls [])) : vx_Met l y [.code y bytes maxL ret] rm (PX D cy As I) Qc XC mc ms free := by
  refine vx_ofW (cc := bytes) (maxL := maxL) (ret := ret) hy rfl ?_
  intro p e s m args below meth c s₁ B hml hnx hv
  obtain ⟨⟨rfl, hG, hI⟩, hX, hZ⟩ := hv
  have hl := lv_entry As hlen
  rw [lg_entry_eq]
  generalize (lg_sl As ++ List.replicate (maxL - (lg_sl As).length) Slot.unset).toArray = ls at hl ⊢
  exact body p e s m below meth c ls B.exec B.bytes (hml.trans hl.1.symm) (findClass_of_methodNamed B.named) B.returns B.notSynchronized (name_of_methodNamed B.named B.method).1 hl hG hI hnx hX hZ
theorem k_throw {pE : String → Prop} {cls text : String} {ik is ic : Nat} (hE : EXW cls ik ic) (hst : Cond.stringRef RX6 is text ∈ lw_tbl) (hx : p.tables.exec = Jvm.exec) (hb : c.code = cc) (hml : c.maxLocals = ls.size) (hown : s.vm.findClass RX6 = some m.cls) (hlk : meth.locks = false) (hlf : l.stackTraces = false) (hG : GK D cy s) (hnx : ∀ x ∈ c.exceptionTable.toList, False) (hX : XWD s) (hZ : GX s s.heap)
    (d0 : decode cc pc = .ok (.new ik, 3)) (d3 : decode cc (pc + 3) = .ok (.dup, 1)) (d4 : decode cc (pc + 4) = .ok (.ldc is, 2)) (d6 : decode cc (pc + 6) = .ok (.invokespecial ic, 3)) (d9 : decode cc (pc + 9) = .ok (.athrow, 1))
    (hR : 5 < R.frames ∧ 82 ≤ R.locals ∧ 1 ≤ R.cells ∧ 6 ≤ R.slots) (hms : 1 ≤ mc ∧ 6 ≤ ms) (hp : pE cls) : W p l e R s m args below meth c s.heap [] 0 0 (vx_MQ below Qc (XQ pE) args s mc ms free) (F0 m pc ls []) := by
  obtain ⟨⟨h1, h2, h3, h4⟩, h5, h6⟩ := hE
  obtain ⟨k, cf, j, sa, -, -, -, -, -, hev⟩ := Cond.stringRef_spec (args := #[]) hown (hX.use hst rfl)
  refine vx_throwS (A := fun _ => False) (names := exN) (text := text) (sa := sa) hx hb hlf hown h1 h2 (hG.w h3 rfl) (hG.w h4 rfl) (vk_R.of (hX.use hst rfl) hev) (fun w hw => ?_) h6 hZ.1 hZ.2 va_S.rf hml.symm d0 d3 d4 d6 d9 (fun x hx9 => (hnx x hx9).elim) hR.1 (by show 0 + (13 * (2 + 1) + 43) ≤ R.locals; exact hR.2.1) (by omega) (by omega) hlk (fun t _ z k9 => ⟨hp, z, fun q hq _ => k9 q hq⟩) (fun z hz => nomatch hz) hms.1 hms.2
  obtain ⟨a1, a2⟩ := h5 w hw
  rcases Bool.or_eq_true_iff.mp a2 with a2 | a2
  · exact hG.w a1 a2
  · exact hX.use a1 a2
/-- a return out of a body that may throw -/
theorem kx (hc : cells ≤ mc) (hs : slots ≤ ms) {g : JFrame} (k : W p l e R s m args below meth c H locs mc ms (MQ below Qc args s mc ms free) g) : W p l e R s m args below meth c H locs cells slots (vx_MQ below Qc XC args s mc ms free) g := vx_ret (W.widen hc hs k)
end XB
set_option maxRecDepth 100000 in
theorem ex_ia : EXW "java/lang/IllegalArgumentException" 38 42 := by unfold EXW; decide +kernel
set_option maxRecDepth 100000 in
theorem ex_is : EXW "java/lang/IllegalStateException" 51 55 := by unfold EXW; decide +kernel
set_option maxRecDepth 100000 in
theorem ex_ib : EXW "java/lang/IndexOutOfBoundsException" 63 67 := by unfold EXW; decide +kernel
