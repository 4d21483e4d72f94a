-- the law: what its wrappers begin with; a call that may throw, caught; its two rows of one
theorem wCa_ia : Cond.castable EIA EIA ∈ lw_tbl := List.mem_of_getElem? (i := 441) (by decide +kernel)
theorem wCa_is : Cond.castable EIS EIS ∈ lw_tbl := List.mem_of_getElem? (i := 510) (by decide +kernel)
theorem wCa_ib : Cond.castable EIB EIB ∈ lw_tbl := List.mem_of_getElem? (i := 584) (by decide +kernel)
def NC (U : State) : Prop := va_Nc EIS EIA U ∧ va_Nc EIA EIB U ∧ va_Nc EIS EIB U
theorem NC.moved {u U : State} (hvm : u.vm.Alike U.vm) (h : NC u) : NC U := ⟨va_Nc.moved hvm h.1, va_Nc.moved hvm h.2.1, va_Nc.moved hvm h.2.2⟩
def PL (D : va_G) (cy : Nat → ClassId) (av : List Value) (I : Heap → Prop) : Array Value → State → Prop := fun v U => PX2 D cy av I v U ∧ NC U
theorem PL.blind {D : va_G} {cy : Nat → ClassId} {av : List Value} {I : Heap → Prop} : FrameBlind (PL D cy av I) := fun a U g mk h => ⟨PX2.blind a U g mk h.1, NC.moved (u := U) (Vm.Alike.refl U.vm) h.2⟩
def CFw (y : MethodName) (bytes : ByteArray) (maxL : Nat) (hh : List (Nat × Nat × Nat × Nat)) (n : Nat) : Prop :=
  Cond.codeWith y bytes maxL (some .int) hh ∈ lw_tbl ∧ Cond.initialized y.cls ∈ lw_tbl ∧ (y.cls ≠ "java/lang/invoke/MethodHandle" ∧ y.cls ≠ "java/lang/invoke/VarHandle" ∧ (parseMethodDescriptor y.desc).map (fun d => d.parameters.length) = some n) ∧ Cond.static y ∈ lw_tbl
/-- the long and the double that a wrapper answers by -/
def oL (D : va_G) (cy : Nat → ClassId) (o : Nat) (f : Nat → Int64) (H : Heap) : Prop := va_P D vwCl [(o, .inl (cy 7, 1, .inr (.inl f)))] H
def oD (D : va_G) (cy : Nat → ClassId) (o : Nat) (f : Nat → UInt64) (H : Heap) : Prop := va_P D vwCl [(o, .inl (cy 8, 1, .inr (.inr (.inr (.inl f)))))] H
section LB1
variable {p : Program} {l : Launch} {e : Env} {R : Room} {s : State} {m : MethodId} {args : Array Value} {below : List Frame} {meth : Method} {c : Code} {H : Heap} {locs : List Loc} {cells slots : Nat} {Q : State → Prop}
variable {cc bytes : ByteArray} {pc nL maxL mc ms n index : Nat} {ls : Array Slot} {rest st0 As : List Value} {D : va_G} {cy : Nat → ClassId} {a b ci : Nat} {fs : List Value} {own C host : String} {T : u_T} {N : Nat} {y : MethodName} {ret : Option FieldType} {rm : Room} {I : Heap → Prop} {Qc : Array Value → State → Outcome → State → Prop} {XC : String → State → State → Prop} {free : Addr → Prop} {A A0 A1 : Nat → Prop} {H0 : Heap} {hh : List (Nat × Nat × Nat × Nat)}
theorem k_bodyL (hy : plainName y.cls = true) (hlen : (lg_sl As).length ≤ maxL)
    (body : ∀ (p : Program) (e : Env) (s : State) (m : MethodId) (below : List Frame) (meth : Method) (c : Code) (ls : Array Slot), p.tables.exec = Jvm.exec → c.code = bytes → c.maxLocals = ls.size → s.vm.findClass y.cls = some m.cls → meth.sig.returnType = ret → meth.locks = false → lv_has ls maxL (lv_args 0 As) → GK D cy s → I s.heap → XWD s → GX s s.heap → AWD s → NC s → c.exceptionTable.toList = tableOf hh →
      W p l e rm s m As.toArray below meth c s.heap [] 0 0 (MQ below Qc As.toArray s mc ms free) (F0 m 0 ls [])) : Met l y [.codeWith y bytes maxL ret hh] rm (PL D cy As I) Qc mc ms free := by
  refine va_MetW (cc := bytes) (maxL := maxL) (ret := ret) (hh := hh) hy rfl ?_
  intro p e s m args below meth c s₁ B hml hv
  obtain ⟨⟨⟨⟨rfl, hG, hI⟩, hX, hZ⟩, hAW⟩, hN⟩ := hv
  have ht : c.exceptionTable.toList = tableOf hh := vx_table (x := y) B (atoms_spec (ws := [Cond.codeWith y bytes maxL ret hh]) B.pre _ List.mem_cons_self)
  have hl := lv_entry As hlen
  rw [lg_entry_eq]
  generalize (lg_sl As ++ List.replicate (maxL - (lg_sl As).length) Slot.unset).toArray = ls at hl ⊢
  exact body p e s m below meth c ls B.exec B.bytes (hml.trans hl.1.symm) (findClass_of_methodNamed B.named) B.returns B.notSynchronized hl hG hI hX hZ hAW hN ht
theorem PX.preV (hG : GK D cy s) (hX : XWD s) (hZ : GX s H) (hP : va_P D vwCl [(b, .inr (ci, fs))] H) (hc : vwCl[ci]? = some (C, T, N)) (hI : I H) : PreV s H C b (PX D cy (.ref b :: As) I) As :=
  ⟨PX.blind, va_recv hG.2 hP (q := (C, T, N)) (q0 := 0) hc rfl, fun U hU hW => ⟨⟨rfl, hG.warm hW, by rw [hU]; exact hI⟩, hX.warm hW, by rw [hU]; exact GX.moved hW.alike hZ⟩⟩
theorem PX2.preV (hG : GK D cy s) (hX : XWD s) (hZ : GX s H) (hAW : AWD s) (hP : va_P D vwCl [(b, .inr (ci, fs))] H) (hc : vwCl[ci]? = some (C, T, N)) (hI : I H) : PreV s H C b (PX2 D cy (.ref b :: As) I) As :=
  ⟨PX2.blind, va_recv hG.2 hP (q := (C, T, N)) (q0 := 0) hc rfl, fun U hU hW => ⟨⟨⟨rfl, hG.warm hW, by rw [hU]; exact hI⟩, hX.warm hW, by rw [hU]; exact GX.moved hW.alike hZ⟩, hAW.moved hW.alike⟩⟩
theorem PL.preS (hG : GK D cy s) (hX : XWD s) (hZ : GX s H) (hAW : AWD s) (hN : NC s) (hI : I H) : PreS s H (PL D cy As I) As :=
  ⟨PL.blind, fun U hU hW => ⟨⟨⟨⟨rfl, hG.warm hW, by rw [hU]; exact hI⟩, hX.warm hW, by rw [hU]; exact GX.moved hW.alike hZ⟩, hAW.moved hW.alike⟩, hN.moved hW.alike⟩⟩
theorem kx_V (hx : p.tables.exec = Jvm.exec) (hb : c.code = cc) (hml : c.maxLocals = ls.size) (hown : s.vm.findClass own = some m.cls) (hG : GK D cy s) {Pc : Array Value → State → Prop} (hM : vx_Met l y [.code y bytes maxL ret] rm Pc Qc XC mc ms free) (cf : CFi y bytes maxL ret n) (hl : Cond.methodLink own index y ∈ lw_tbl) (hp : PreV s H y.cls b Pc As) (hroom : rm.cells = mc ∧ rm.slots = ms ∧ rm.frames + 1 ≤ R.frames ∧ 8 + (maxL + 11) + rm.locals ≤ R.locals) (hn : As.length = n) (hst : st0 = As.reverse ++ .ref b :: rest) (hW : (rest.map fun v => v.category).sum ≤ 8) (hf : cells + mc ≤ R.cells ∧ slots + ms ≤ R.slots) (hdg : decode cc pc = .ok (.invokevirtual index, 3)) :
    vx_Run p l e R s m args below meth c H locs cells slots mc ms (F0 m pc ls st0) rest (Qc (Value.ref b :: As).toArray) XC free :=
  vx_runV (Ts := []) ⟨hx, hb, hml, hown, fun _ h => nomatch h⟩ hM ⟨k_cb hG cf.1 hl hroom, hG.w cf.2.1 rfl, hG.w cf.2.2 rfl⟩ hp rfl hn rfl hst (lv_room hW) hdg hf
theorem kx_SW (hx : p.tables.exec = Jvm.exec) (hb : c.code = cc) (hml : c.maxLocals = ls.size) (hown : s.vm.findClass own = some m.cls) (hG : GK D cy s) {Pc : Array Value → State → Prop} (hM : Met l y [.codeWith y bytes maxL (some .int) hh] rm Pc Qc mc ms free) (cf : CFw y bytes maxL hh n) (hl : Cond.methodLink own index y ∈ lw_tbl) (hp : PreS s H Pc As) (hroom : rm.cells = mc ∧ rm.slots = ms ∧ rm.frames + 1 ≤ R.frames ∧ 8 + (maxL + 11) + rm.locals ≤ R.locals) (hn : As.length = n) (hst : st0 = As.reverse ++ rest) (hW : (rest.map fun v => v.category).sum ≤ 8) (hf : cells + mc ≤ R.cells ∧ slots + ms ≤ R.slots) (hdg : decode cc pc = .ok (.invokestatic index, 3)) :
    va_Run p l e R s m args below meth c H locs cells slots mc ms (F0 m pc ls st0) rest (Qc As.toArray) free := by
  refine vx_runSW (hh := hh) (Ts := []) ⟨hx, hb, hml, hown, fun _ h => nomatch h⟩ hM ⟨⟨hroom.1, hroom.2.1, hroom.2.2.1, hroom.2.2.2, fun w hw a' U hW => ?_, List.mem_singleton.mpr rfl⟩, hG.w cf.1 rfl, hG.w cf.2.1 rfl, ⟨cf.2.2.1.1, cf.2.2.1.2.1⟩, fun sig h => ?_, hG.w hl rfl, hG.w cf.2.2.2 rfl⟩ hp rfl hn rfl hst (lv_room hW) hdg hf
  · rw [List.mem_singleton.mp hw]
    exact (hG.warm hW).w cf.1 rfl
  · have h2 := cf.2.2.1.2.2
    rw [h] at h2
    exact (Option.some.inj h2).symm
theorem kx_ui {P : Int32 → Heap → Prop} {pE : String → Prop} {a9 : Array Value} (hr : vx_Run p l e R s m args below meth c H locs cells slots mc ms (F0 m pc ls st0) rest (UQi A1 P a9) (XQ pE) A1) (hS : va_S A0 H0 H locs) (hA : ∀ q, A1 q → A0 q)
    (kx : ∀ (E : String) (ce : Cell) (q9 : Addr) (H1 : Heap) (locs1 : List Loc), pE E → H.size ≤ H1.size → (∀ q : Nat, q < H.size → ¬ (fun _ => False) q → H1[q]? = H[q]?) → va_S A0 H0 H1 locs1 → H1[q9]? = some ce → ce.vm = .none → s.vm.findClass E = some ce.cls → vx_W p l e R s m args below meth c H1 locs1 (cells + mc) (slots + ms) Q (F0 m pc ls rest) q9)
    (kk : ∀ (r : Int32) (H1 : Heap) (locs1 : List Loc), P r H1 → H.size ≤ H1.size → (∀ q : Nat, q < H.size → ¬ A1 q → H1[q]? = H[q]?) → va_S A0 H0 H1 locs1 → W p l e R s m args below meth c H1 locs1 (cells + mc) (slots + ms) Q (F0 m (pc + 3) ls (.int r :: rest))) : W p l e R s m args below meth c H locs cells slots Q (F0 m pc ls st0) := by
  intro T hT X
  rcases hr T hT X with ⟨v, st₀, t, T', L, h0, X', hL, e1, e2, ⟨⟨r, hv, hp⟩, hz, hk⟩, st⟩ | ⟨q, st₀, t, T', L, E, ce, h0, X', hL, e1, e2, ⟨hp, hz, hk⟩, hce, hcv, hcl, st⟩
  · cases hv
    rw [h0] at hz hk
    obtain ⟨t2, a1, b1⟩ := kk r T'.heap (locs ++ L) (by rw [e1]; exact hp) (by rw [e1]; exact hz) (fun q h1 h2 => by rw [e1]; exact hk q h1 h2) (kS_call hS (fun q _ h => hA q h) hA hL (by rw [e1]; exact hz) (fun q h1 h2 => by rw [e1]; exact hk q h1 h2)) T' rfl X'
    exact ⟨t2, st t2 a1, b1⟩
  · rw [h0] at hz hk
    obtain ⟨t2, a1, b1⟩ := kx E ce q T'.heap (locs ++ L) hp (by rw [e1]; exact hz) (fun q h1 h2 => by rw [e1]; exact hk q h1 h2) (kS_call (A1 := fun _ => False) hS (fun q _ h => h.elim) hA hL (by rw [e1]; exact hz) (fun q h1 h2 => by rw [e1]; exact hk q h1 h2)) (by rw [e1]; exact hce) hcv hcl T' rfl X'
    exact ⟨t2, st.trans a1, b1⟩
theorem kx_ud {P : UInt64 → Heap → Prop} {pE : String → Prop} {a9 : Array Value} (hr : vx_Run p l e R s m args below meth c H locs cells slots mc ms (F0 m pc ls st0) rest (UQd A1 P a9) (XQ pE) A1) (hS : va_S A0 H0 H locs) (hA : ∀ q, A1 q → A0 q)
    (kx : ∀ (E : String) (ce : Cell) (q9 : Addr) (H1 : Heap) (locs1 : List Loc), pE E → H.size ≤ H1.size → (∀ q : Nat, q < H.size → ¬ (fun _ => False) q → H1[q]? = H[q]?) → va_S A0 H0 H1 locs1 → H1[q9]? = some ce → ce.vm = .none → s.vm.findClass E = some ce.cls → vx_W p l e R s m args below meth c H1 locs1 (cells + mc) (slots + ms) Q (F0 m pc ls rest) q9)
    (kk : ∀ (r : UInt64) (H1 : Heap) (locs1 : List Loc), P r H1 → H.size ≤ H1.size → (∀ q : Nat, q < H.size → ¬ A1 q → H1[q]? = H[q]?) → va_S A0 H0 H1 locs1 → W p l e R s m args below meth c H1 locs1 (cells + mc) (slots + ms) Q (F0 m (pc + 3) ls (.double r :: rest))) : W p l e R s m args below meth c H locs cells slots Q (F0 m pc ls st0) := by
  intro T hT X
  rcases hr T hT X with ⟨v, st₀, t, T', L, h0, X', hL, e1, e2, ⟨⟨r, hv, hp⟩, hz, hk⟩, st⟩ | ⟨q, st₀, t, T', L, E, ce, h0, X', hL, e1, e2, ⟨hp, hz, hk⟩, hce, hcv, hcl, st⟩
  · cases hv
    rw [h0] at hz hk
    obtain ⟨t2, a1, b1⟩ := kk r T'.heap (locs ++ L) (by rw [e1]; exact hp) (by rw [e1]; exact hz) (fun q h1 h2 => by rw [e1]; exact hk q h1 h2) (kS_call hS (fun q _ h => hA q h) hA hL (by rw [e1]; exact hz) (fun q h1 h2 => by rw [e1]; exact hk q h1 h2)) T' rfl X'
    exact ⟨t2, st t2 a1, b1⟩
  · rw [h0] at hz hk
    obtain ⟨t2, a1, b1⟩ := kx E ce q T'.heap (locs ++ L) hp (by rw [e1]; exact hz) (fun q h1 h2 => by rw [e1]; exact hk q h1 h2) (kS_call (A1 := fun _ => False) hS (fun q _ h => h.elim) hA hL (by rw [e1]; exact hz) (fun q h1 h2 => by rw [e1]; exact hk q h1 h2)) (by rw [e1]; exact hce) hcv hcl T' rfl X'
    exact ⟨t2, st.trans a1, b1⟩
/-- caught by the first row -/
theorem k_c1 {s0 e0 h0 t0 : Nat} {tl : List (Nat × Nat × Nat × Nat)} {E : String} {ce : Cell} {q : Addr} (ht : c.exceptionTable.toList = tableOf ((s0, e0, h0, t0) :: tl)) (hcov : covers (⟨s0, e0, h0, t0⟩ : ExceptionTableEntry) pc = true) (ht0 : t0 ≠ 0) (hown : s.vm.findClass own = some m.cls) (hG : GK D cy s) (hX : XWD s) (hcl : Cond.classLink own t0 E ∈ lw_tbl) (hcast : Cond.castable E E ∈ lw_tbl) (hcell : H[q]? = some ce) (hv : ce.vm = .none) (hc : s.vm.findClass E = some ce.cls)
    (kk : W p l e R s m args below meth c H locs cells slots Q (F0 m h0 ls [.ref q])) : vx_W p l e R s m args below meth c H locs cells slots Q (F0 m pc ls rest) q :=
  vx_catch (name := E) hown [] ⟨s0, e0, h0, t0⟩ (tableOf tl) ht (fun z h => nomatch h) hcov ht0 (hG.w hcl rfl) (hX.use hcast rfl) hcell hv hc kk
/-- caught by the second row -/
theorem k_c2 {s0 e0 h0 t0 s1 e1 h1 t1 : Nat} {tl : List (Nat × Nat × Nat × Nat)} {E E1 : String} {ce : Cell} {q : Addr} (ht : c.exceptionTable.toList = tableOf ((s0, e0, h0, t0) :: (s1, e1, h1, t1) :: tl)) (hcov : covers (⟨s1, e1, h1, t1⟩ : ExceptionTableEntry) pc = true) (ht0 : t0 ≠ 0) (ht1 : t1 ≠ 0) (hown : s.vm.findClass own = some m.cls) (hG : GK D cy s) (hX : XWD s) (hcl0 : Cond.classLink own t0 E1 ∈ lw_tbl) (hnc : va_Nc E E1 s) (hcl : Cond.classLink own t1 E ∈ lw_tbl) (hcast : Cond.castable E E ∈ lw_tbl) (hcell : H[q]? = some ce) (hv : ce.vm = .none) (hc : s.vm.findClass E = some ce.cls)
    (kk : W p l e R s m args below meth c H locs cells slots Q (F0 m h1 ls [.ref q])) : vx_W p l e R s m args below meth c H locs cells slots Q (F0 m pc ls rest) q :=
  vx_catch (name := E) hown [⟨s0, e0, h0, t0⟩] ⟨s1, e1, h1, t1⟩ (tableOf tl) ht (fun z h => by rw [List.mem_singleton.mp h]; exact Or.inr ⟨ht0, E1, hG.w hcl0 rfl, hnc⟩) hcov ht1 (hG.w hcl rfl) (hX.use hcast rfl) hcell hv hc kk
theorem k_lastG {o : Nat} {f : Nat → Int64} (hx : p.tables.exec = Jvm.exec) (hb : c.code = cc) (hG : GK D cy s) (hP : oL D cy o f H) (hS : va_S A H0 H locs) (hA : A o) {i : Int32} {x : Int64} (hin : vp_in i 1) (hdg : decode cc pc = .ok (.lastore, 1))
    (kk : ∀ (H1 : Heap) (locs1 : List Loc), oL D cy o (vp_updL f i.toNatClampNeg x) H1 → H1.size = H.size → (∀ q : Nat, q ≠ o → H1[q]? = H[q]?) → va_S A H0 H1 locs1 → W p l e R s m args below meth c H1 locs1 cells slots Q (F0 m (pc + 1) ls rest)) : W p l e R s m args below meth c H locs cells slots Q (F0 m pc ls (.long x :: .int i :: .ref o :: rest)) := by
  refine W.last hx hb (hP 0 _ rfl) ((hG.2.2 7 _ rfl).1 1 (fun j => .long (f j))) (fun q => by cases q) (by show ¬ (i < 0 ∨ (arrV _ _ _).slots.size ≤ _); rw [arrV_size]; exact hin) rfl rfl hdg fun H1 e z oq => ?_
  refine kk H1 _ (k_one ?_) z oq (hS.put z oq hA)
  show H1[o]? = some (vp_cell _ _)
  rw [e]
  rw [vp_cell_l, vp_cell_l, arrV_store]
  congr 2
  funext q
  by_cases hq : q = i.toNatClampNeg
  · subst hq
    simp [updV, vp_updL]
  · simp [updV, vp_updL, hq]
theorem k_last {o : Nat} {f : Nat → Int64} (hx : p.tables.exec = Jvm.exec) (hb : c.code = cc) (hG : GK D cy s) (hP : oL D cy o f H) (hS : va_S A H0 H locs) (hA : A o) {x : Int64} (hdg : decode cc pc = .ok (.lastore, 1))
    (kk : ∀ (H1 : Heap) (locs1 : List Loc) (f' : Nat → Int64), f' 0 = x → oL D cy o f' H1 → H1.size = H.size → (∀ q : Nat, q ≠ o → H1[q]? = H[q]?) → va_S A H0 H1 locs1 → W p l e R s m args below meth c H1 locs1 cells slots Q (F0 m (pc + 1) ls rest)) : W p l e R s m args below meth c H locs cells slots Q (F0 m pc ls (.long x :: .int 0 :: .ref o :: rest)) :=
  k_lastG hx hb hG hP hS hA (show vp_in (nI 0) 1 from vp_in_nI (by decide) (by decide)) hdg (fun H1 locs1 h z oq hS1 => kk H1 locs1 _ (by rw [show Int32.toNatClampNeg 0 = 0 from clI 0 (by decide)]; simp [vp_updL]) h z oq hS1)
theorem k_dastG {o : Nat} {f : Nat → UInt64} (hx : p.tables.exec = Jvm.exec) (hb : c.code = cc) (hG : GK D cy s) (hP : oD D cy o f H) (hS : va_S A H0 H locs) (hA : A o) {i : Int32} {x : UInt64} (hin : vp_in i 1) (hdg : decode cc pc = .ok (.dastore, 1))
    (kk : ∀ (H1 : Heap) (locs1 : List Loc), oD D cy o (vf_upd f i.toNatClampNeg x) H1 → H1.size = H.size → (∀ q : Nat, q ≠ o → H1[q]? = H[q]?) → va_S A H0 H1 locs1 → W p l e R s m args below meth c H1 locs1 cells slots Q (F0 m (pc + 1) ls rest)) : W p l e R s m args below meth c H locs cells slots Q (F0 m pc ls (.double x :: .int i :: .ref o :: rest)) := by
  refine W.dast hx hb (hP 0 _ rfl) ((hG.2.2 8 _ rfl).1 1 (fun j => .double (f j))) (fun q => by cases q) (by show ¬ (i < 0 ∨ (arrV _ _ _).slots.size ≤ _); rw [arrV_size]; exact hin) rfl rfl hdg fun H1 e z oq => ?_
  refine kk H1 _ (k_one ?_) z oq (hS.put z oq hA)
  show H1[o]? = some (vp_cell _ _)
  rw [e]
  rw [vp_cell_d, vp_cell_d, arrV_store]
  congr 2
  funext q
  by_cases hq : q = i.toNatClampNeg
  · subst hq
    simp [updV, vf_upd]
  · simp [updV, vf_upd, hq]
theorem k_dast {o : Nat} {f : Nat → UInt64} (hx : p.tables.exec = Jvm.exec) (hb : c.code = cc) (hG : GK D cy s) (hP : oD D cy o f H) (hS : va_S A H0 H locs) (hA : A o) {x : UInt64} (hdg : decode cc pc = .ok (.dastore, 1))
    (kk : ∀ (H1 : Heap) (locs1 : List Loc) (f' : Nat → UInt64), f' 0 = x → oD D cy o f' H1 → H1.size = H.size → (∀ q : Nat, q ≠ o → H1[q]? = H[q]?) → va_S A H0 H1 locs1 → W p l e R s m args below meth c H1 locs1 cells slots Q (F0 m (pc + 1) ls rest)) : W p l e R s m args below meth c H locs cells slots Q (F0 m pc ls (.double x :: .int 0 :: .ref o :: rest)) :=
  k_dastG hx hb hG hP hS hA (show vp_in (nI 0) 1 from vp_in_nI (by decide) (by decide)) hdg (fun H1 locs1 h z oq hS1 => kk H1 locs1 _ (by rw [show Int32.toNatClampNeg 0 = 0 from clI 0 (by decide)]; simp [vf_upd]) h z oq hS1)
theorem k_lald {o : Nat} {f : Nat → Int64} (hx : p.tables.exec = Jvm.exec) (hb : c.code = cc) (hG : GK D cy s) (hP : oL D cy o f H) (hdg : decode cc pc = .ok (.laload, 1)) (kk : W p l e R s m args below meth c H locs cells slots Q (F0 m (pc + 1) ls (.long (f 0) :: rest))) : W p l e R s m args below meth c H locs cells slots Q (F0 m pc ls (.int 0 :: .ref o :: rest)) :=
  va_lald hx hb hG.2 hP 0 7 rfl rfl (i := 0) (show vp_in (nI 0) 1 from vp_in_nI (by decide) (by decide)) hdg kk
theorem k_dald {o : Nat} {f : Nat → UInt64} (hx : p.tables.exec = Jvm.exec) (hb : c.code = cc) (hG : GK D cy s) (hP : oD D cy o f H) (hdg : decode cc pc = .ok (.daload, 1)) (kk : W p l e R s m args below meth c H locs cells slots Q (F0 m (pc + 1) ls (.double (f 0) :: rest))) : W p l e R s m args below meth c H locs cells slots Q (F0 m pc ls (.int 0 :: .ref o :: rest)) :=
  va_dald hx hb hG.2 hP 0 8 rfl rfl (i := 0) (show vp_in (nI 0) 1 from vp_in_nI (by decide) (by decide)) hdg kk
theorem k_newl (hx : p.tables.exec = Jvm.exec) (hb : c.code = cc) (hG : GK D cy s) (hS : va_S A H0 H locs) {q0 : Nat} (hq0 : H.size = q0) (hcells : cells + 1 ≤ R.cells) (hslots : slots + 1 ≤ R.slots) (hdg : decode cc pc = .ok (.newarray .long, 2))
    (kk : ∀ H1 : Heap, oL D cy q0 (fun _ => 0) H1 → H1.size = q0 + 1 → (∀ q, q < q0 → H1[q]? = H[q]?) → va_S A H0 H1 locs → W p l e R s m args below meth c H1 locs (cells + 1) (slots + 1) Q (F0 m (pc + 2) ls (.ref q0 :: rest))) : W p l e R s m args below meth c H locs cells slots Q (F0 m pc ls (.int 1 :: rest)) := by
  subst hq0
  refine va_newaK (atype := .long) hx hb (hG.w wAC_long rfl) rfl hdg rfl (by decide) (N := 1) (by decide) (Nat.le_of_ble_eq_true rfl) hcells hslots rfl fun H1 cA e1 z1 o1 hAr hNm => ?_
  have hcy : cA = cy 7 := Option.some.inj (hNm.symm.trans (hG.2.2 7 _ rfl).2)
  subst hcy
  refine kk H1 (k_one ?_) z1 o1 (kS_new hS z1 o1)
  show H1[H.size]? = some (vp_cell _ _)
  rw [vp_cell_l]
  exact e1
theorem k_newd (hx : p.tables.exec = Jvm.exec) (hb : c.code = cc) (hG : GK D cy s) (hS : va_S A H0 H locs) {q0 : Nat} (hq0 : H.size = q0) (hcells : cells + 1 ≤ R.cells) (hslots : slots + 1 ≤ R.slots) (hdg : decode cc pc = .ok (.newarray .double, 2))
    (kk : ∀ H1 : Heap, oD D cy q0 (fun _ => 0) H1 → H1.size = q0 + 1 → (∀ q, q < q0 → H1[q]? = H[q]?) → va_S A H0 H1 locs → W p l e R s m args below meth c H1 locs (cells + 1) (slots + 1) Q (F0 m (pc + 2) ls (.ref q0 :: rest))) : W p l e R s m args below meth c H locs cells slots Q (F0 m pc ls (.int 1 :: rest)) := by
  subst hq0
  refine va_newaK (atype := .double) hx hb (hG.w wAC_double rfl) rfl hdg rfl (by decide) (N := 1) (by decide) (Nat.le_of_ble_eq_true rfl) hcells hslots rfl fun H1 cA e1 z1 o1 hAr hNm => ?_
  have hcy : cA = cy 8 := Option.some.inj (hNm.symm.trans (hG.2.2 8 _ rfl).2)
  subst hcy
  refine kk H1 (k_one ?_) z1 o1 (kS_new hS z1 o1)
  show H1[H.size]? = some (vp_cell _ _)
  rw [vp_cell_d]
  exact e1
end LB1
