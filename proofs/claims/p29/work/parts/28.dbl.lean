-- the mean of errors: a quotient of two ints that is a number
def pMean (t : Nat → Int32) : UInt64 := if t 3 = 0 then FP.dconst0 else FP.ddiv (FP.i2d (t 4)) (FP.i2d (t 3))
def RQd (r : UInt64) : Array Value → State → Outcome → State → Prop := fun _ st oc t => oc = .returned (some (.double r)) ∧ t.heap = st.heap
def UQd (A : Nat → Prop) (P : UInt64 → Heap → Prop) : Array Value → State → Outcome → State → Prop := fun _ st oc t => (∃ r : UInt64, oc = .returned (some (.double r)) ∧ P r t.heap) ∧ va_F A st t
section KD
variable {p : Program} {l : Launch} {e : Env} {R : Room} {s : State} {m : MethodId} {args : Array Value} {below : List Frame} {meth : Method} {c : Code} {H : Heap} {locs : List Loc} {cells slots : Nat} {cc : ByteArray} {pc : Nat} {ls : Array Slot} {A : Nat → Prop} {free : Addr → Prop} {Q : State → Prop} {st0 rest : List Value}
theorem ke_d {r v : UInt64} (hx : p.tables.exec = Jvm.exec) (hb : c.code = cc) (hr : meth.sig.returnType = some .double) (hlk : meth.locks = false) (hdg : decode cc pc = .ok (.dreturn, 1)) (hv : v = r) : W p l e R s m args below meth c s.heap [] cells slots (MQ below (RQd r) args s cells slots free) (F0 m pc ls [.double v]) := by
  subst hv
  exact W.dret hx hb hr (fun t ht _ => ⟨rfl, ht⟩) (fun _ h => nomatch h) hdg hlk
theorem ke_ud {P : UInt64 → Heap → Prop} {v : UInt64} (hx : p.tables.exec = Jvm.exec) (hb : c.code = cc) (hr : meth.sig.returnType = some .double) (hlk : meth.locks = false) (hS : va_S A s.heap H locs) (hdg : decode cc pc = .ok (.dreturn, 1)) (hv : P v H) : W p l e R s m args below meth c H locs cells slots (MQ below (UQd A P) args s cells slots A) (F0 m pc ls [.double v]) :=
  W.dret hx hb hr (fun t ht _ => ⟨⟨v, rfl, by rw [ht]; exact hv⟩, hS.F ht⟩) hS.2.2 hdg hlk
theorem kc_d {r : UInt64} {a9 : Array Value} (hr : va_Run p l e R s m args below meth c H locs cells slots 0 0 (F0 m pc ls st0) rest (RQd r a9) (fun _ => False)) (kk : W p l e R s m args below meth c H locs cells slots Q (F0 m (pc + 3) ls (.double r :: rest))) : W p l e R s m args below meth c H locs cells slots Q (F0 m pc ls st0) := by
  intro T hT X
  obtain ⟨v, st₀, t, T', L, h0, X', hL, e1, e2, ⟨hv, hh⟩, st⟩ := hr T hT X
  cases hv
  obtain ⟨t2, a1, b1⟩ := kk T' (by rw [e1, hh, h0]) (Stand.forget X' (fun q h => (hL q h).elim))
  exact ⟨t2, st t2 a1, b1⟩
end KD
