-- the law: a call of a public method that doesn't throw; what is asked, a row each
section LB1
variable {p : Program} {l : Launch} {e : Env} {R : Room} {s : State} {m : MethodId} {args : Array Value} {below : List Frame} {meth : Method} {c : Code} {H : Heap} {locs : List Loc} {cells slots : Nat} {Q : State → Prop}
variable {cc bytes : ByteArray} {pc nL maxL mc ms n index : Nat} {ls : Array Slot} {rest st0 As : List Value} {D : va_G} {cy : Nat → ClassId} {a b ci : Nat} {fs : List Value} {own C host : String} {T : u_T} {N : Nat} {y : MethodName} {ret : Option FieldType} {rm : Room} {I : Heap → Prop} {Qc : Array Value → State → Outcome → State → Prop} {XC : String → State → State → Prop} {free : Addr → Prop} {A A0 A1 : Nat → Prop} {H0 : Heap} {hh : List (Nat × Nat × Nat × Nat)}
theorem PX.preV (hG : GK D cy s) (hX : XWD s) (hZ : GX s H) (hP : va_P D vwCl [(b, .inr (ci, fs))] H) (hc : vwCl[ci]? = some (C, T, N)) (hI : I H) : PreV s H C b (PX D cy (.ref b :: As) I) As :=
  ⟨PX.blind, va_recv hG.2 hP (q := (C, T, N)) (q0 := 0) hc rfl, fun U hU hW => ⟨⟨rfl, hG.warm hW, by rw [hU]; exact hI⟩, hX.warm hW, by rw [hU]; exact GX.moved hW.alike hZ⟩⟩
theorem PX2.preV (hG : GK D cy s) (hX : XWD s) (hZ : GX s H) (hAW : AWD s) (hP : va_P D vwCl [(b, .inr (ci, fs))] H) (hc : vwCl[ci]? = some (C, T, N)) (hI : I H) : PreV s H C b (PX2 D cy (.ref b :: As) I) As :=
  ⟨PX2.blind, va_recv hG.2 hP (q := (C, T, N)) (q0 := 0) hc rfl, fun U hU hW => ⟨⟨⟨rfl, hG.warm hW, by rw [hU]; exact hI⟩, hX.warm hW, by rw [hU]; exact GX.moved hW.alike hZ⟩, hAW.moved hW.alike⟩⟩
theorem kx_V (hx : p.tables.exec = Jvm.exec) (hb : c.code = cc) (hml : c.maxLocals = ls.size) (hown : s.vm.findClass own = some m.cls) (hG : GK D cy s) {Pc : Array Value → State → Prop} (hM : vx_Met l y [.code y bytes maxL ret] rm Pc Qc XC mc ms free) (cf : CFi y bytes maxL ret n) (hl : Cond.methodLink own index y ∈ lw_tbl) (hp : PreV s H y.cls b Pc As) (hroom : rm.cells = mc ∧ rm.slots = ms ∧ rm.frames + 1 ≤ R.frames ∧ 8 + (maxL + 11) + rm.locals ≤ R.locals) (hn : As.length = n) (hst : st0 = As.reverse ++ .ref b :: rest) (hW : (rest.map fun v => v.category).sum ≤ 8) (hf : cells + mc ≤ R.cells ∧ slots + ms ≤ R.slots) (hdg : decode cc pc = .ok (.invokevirtual index, 3)) :
    vx_Run p l e R s m args below meth c H locs cells slots mc ms (F0 m pc ls st0) rest (Qc (Value.ref b :: As).toArray) XC free :=
  vx_runV (Ts := []) ⟨hx, hb, hml, hown, fun _ h => nomatch h⟩ hM ⟨k_cb hG cf.1 hl hroom, hG.w cf.2.1 rfl, hG.w cf.2.2 rfl⟩ hp rfl hn rfl hst (lv_room hW) hdg hf
theorem kx_ui {P : Int32 → Heap → Prop} {pE : String → Prop} {a9 : Array Value} (hr : vx_Run p l e R s m args below meth c H locs cells slots mc ms (F0 m pc ls st0) rest (UQi A1 P a9) (XQ pE) A1) (hS : va_S A0 H0 H locs) (hA : ∀ q, A1 q → A0 q)
    (kx : ∀ (E : String) (ce : Cell) (q9 : Addr) (H1 : Heap) (locs1 : List Loc), pE E → H.size ≤ H1.size → (∀ q : Nat, q < H.size → ¬ (fun _ => False) q → H1[q]? = H[q]?) → va_S A0 H0 H1 locs1 → H1[q9]? = some ce → ce.vm = .none → s.vm.findClass E = some ce.cls → vx_W p l e R s m args below meth c H1 locs1 (cells + mc) (slots + ms) Q (F0 m pc ls rest) q9)
    (kk : ∀ (r : Int32) (H1 : Heap) (locs1 : List Loc), P r H1 → H.size ≤ H1.size → (∀ q : Nat, q < H.size → ¬ A1 q → H1[q]? = H[q]?) → va_S A0 H0 H1 locs1 → W p l e R s m args below meth c H1 locs1 (cells + mc) (slots + ms) Q (F0 m (pc + 3) ls (.int r :: rest))) : W p l e R s m args below meth c H locs cells slots Q (F0 m pc ls st0) := by
  intro T hT X
  rcases hr T hT X with ⟨v, st₀, t, T', L, h0, X', hL, e1, e2, ⟨⟨r, hv, hp⟩, hz, hk⟩, st⟩ | ⟨q, st₀, t, T', L, E, ce, h0, X', hL, e1, e2, ⟨hp, hz, hk⟩, hce, hcv, hcl, st⟩
  · cases hv
    rw [h0] at hz hk
    obtain ⟨t2, a1, b1⟩ := kk r T'.heap (locs ++ L) (by rw [e1]; exact hp) (by rw [e1]; exact hz) (fun q h1 h2 => by rw [e1]; exact hk q h1 h2) (kS_call hS (fun q _ h => hA q h) hA hL (by rw [e1]; exact hz) (fun q h1 h2 => by rw [e1]; exact hk q h1 h2)) T' rfl X'
    exact ⟨t2, st t2 a1, b1⟩
  · rw [h0] at hz hk
    obtain ⟨t2, a1, b1⟩ := kx E ce q T'.heap (locs ++ L) hp (by rw [e1]; exact hz) (fun q h1 h2 => by rw [e1]; exact hk q h1 h2) (kS_call (A1 := fun _ => False) hS (fun q _ h => h.elim) hA hL (by rw [e1]; exact hz) (fun q h1 h2 => by rw [e1]; exact hk q h1 h2)) (by rw [e1]; exact hce) hcv hcl T' rfl X'
    exact ⟨t2, st.trans a1, b1⟩
theorem kx_ud {P : UInt64 → Heap → Prop} {pE : String → Prop} {a9 : Array Value} (hr : vx_Run p l e R s m args below meth c H locs cells slots mc ms (F0 m pc ls st0) rest (UQd A1 P a9) (XQ pE) A1) (hS : va_S A0 H0 H locs) (hA : ∀ q, A1 q → A0 q)
    (kx : ∀ (E : String) (ce : Cell) (q9 : Addr) (H1 : Heap) (locs1 : List Loc), pE E → H.size ≤ H1.size → (∀ q : Nat, q < H.size → ¬ (fun _ => False) q → H1[q]? = H[q]?) → va_S A0 H0 H1 locs1 → H1[q9]? = some ce → ce.vm = .none → s.vm.findClass E = some ce.cls → vx_W p l e R s m args below meth c H1 locs1 (cells + mc) (slots + ms) Q (F0 m pc ls rest) q9)
    (kk : ∀ (r : UInt64) (H1 : Heap) (locs1 : List Loc), P r H1 → H.size ≤ H1.size → (∀ q : Nat, q < H.size → ¬ A1 q → H1[q]? = H[q]?) → va_S A0 H0 H1 locs1 → W p l e R s m args below meth c H1 locs1 (cells + mc) (slots + ms) Q (F0 m (pc + 3) ls (.double r :: rest))) : W p l e R s m args below meth c H locs cells slots Q (F0 m pc ls st0) := by
  intro T hT X
  rcases hr T hT X with ⟨v, st₀, t, T', L, h0, X', hL, e1, e2, ⟨⟨r, hv, hp⟩, hz, hk⟩, st⟩ | ⟨q, st₀, t, T', L, E, ce, h0, X', hL, e1, e2, ⟨hp, hz, hk⟩, hce, hcv, hcl, st⟩
  · cases hv
    rw [h0] at hz hk
    obtain ⟨t2, a1, b1⟩ := kk r T'.heap (locs ++ L) (by rw [e1]; exact hp) (by rw [e1]; exact hz) (fun q h1 h2 => by rw [e1]; exact hk q h1 h2) (kS_call hS (fun q _ h => hA q h) hA hL (by rw [e1]; exact hz) (fun q h1 h2 => by rw [e1]; exact hk q h1 h2)) T' rfl X'
    exact ⟨t2, st t2 a1, b1⟩
  · rw [h0] at hz hk
    obtain ⟨t2, a1, b1⟩ := kx E ce q T'.heap (locs ++ L) hp (by rw [e1]; exact hz) (fun q h1 h2 => by rw [e1]; exact hk q h1 h2) (kS_call (A1 := fun _ => False) hS (fun q _ h => h.elim) hA hL (by rw [e1]; exact hz) (fun q h1 h2 => by rw [e1]; exact hk q h1 h2)) (by rw [e1]; exact hce) hcv hcl T' rfl X'
    exact ⟨t2, st.trans a1, b1⟩
theorem kx_S (hx : p.tables.exec = Jvm.exec) (hb : c.code = cc) (hml : c.maxLocals = ls.size) (hown : s.vm.findClass own = some m.cls) (hG : GK D cy s) {Pc : Array Value → State → Prop} (hM : Met l y [.code y bytes maxL ret] rm Pc Qc mc ms free) (cf : CFs y bytes maxL ret n) (hl : Cond.methodLink own index y ∈ lw_tbl) (hp : PreS s H Pc As) (hroom : rm.cells = mc ∧ rm.slots = ms ∧ rm.frames + 1 ≤ R.frames ∧ 8 + (maxL + 11) + rm.locals ≤ R.locals) (hn : As.length = n) (hst : st0 = As.reverse ++ rest) (hW : (rest.map fun v => v.category).sum ≤ 8) (hf : cells + mc ≤ R.cells ∧ slots + ms ≤ R.slots) (hdg : decode cc pc = .ok (.invokestatic index, 3)) :
    va_Run p l e R s m args below meth c H locs cells slots mc ms (F0 m pc ls st0) rest (Qc As.toArray) free :=
  va_runS (Ts := []) ⟨hx, hb, hml, hown, fun _ h => nomatch h⟩ hM ⟨k_cb hG cf.1 hl hroom, hG.w cf.2 rfl⟩ hp rfl hn rfl hst (lv_room hW) hdg hf
/-- it doesn't throw -/
theorem kn_ui {P : Int32 → Heap → Prop} {k9 : Int32} {e1 e2 : String} {a9 : Array Value} (hk : k9 = 0) (hr : vx_Run p l e R s m args below meth c H locs cells slots mc ms (F0 m pc ls st0) rest (UQi A1 P a9) (XQ (errP k9 e1 e2)) A1) (hS : va_S A0 H0 H locs) (hA : ∀ q, A1 q → A0 q)
    (kk : ∀ (r : Int32) (H1 : Heap) (locs1 : List Loc), P r H1 → H.size ≤ H1.size → (∀ q : Nat, q < H.size → ¬ A1 q → H1[q]? = H[q]?) → va_S A0 H0 H1 locs1 → W p l e R s m args below meth c H1 locs1 (cells + mc) (slots + ms) Q (F0 m (pc + 3) ls (.int r :: rest))) : W p l e R s m args below meth c H locs cells slots Q (F0 m pc ls st0) := by
  refine kx_ui hr hS hA (fun E ce q9 H1 locs1 hE => ?_) kk
  rcases hE with ⟨h, -⟩ | ⟨h, -⟩
  · exact absurd (hk.symm.trans h) (by decide)
  · exact absurd (hk.symm.trans h) (by decide)
theorem kn_ud {P : UInt64 → Heap → Prop} {k9 : Int32} {e1 e2 : String} {a9 : Array Value} (hk : k9 = 0) (hr : vx_Run p l e R s m args below meth c H locs cells slots mc ms (F0 m pc ls st0) rest (UQd A1 P a9) (XQ (errP k9 e1 e2)) A1) (hS : va_S A0 H0 H locs) (hA : ∀ q, A1 q → A0 q)
    (kk : ∀ (r : UInt64) (H1 : Heap) (locs1 : List Loc), P r H1 → H.size ≤ H1.size → (∀ q : Nat, q < H.size → ¬ A1 q → H1[q]? = H[q]?) → va_S A0 H0 H1 locs1 → W p l e R s m args below meth c H1 locs1 (cells + mc) (slots + ms) Q (F0 m (pc + 3) ls (.double r :: rest))) : W p l e R s m args below meth c H locs cells slots Q (F0 m pc ls st0) := by
  refine kx_ud hr hS hA (fun E ce q9 H1 locs1 hE => ?_) kk
  rcases hE with ⟨h, -⟩ | ⟨h, -⟩
  · exact absurd (hk.symm.trans h) (by decide)
  · exact absurd (hk.symm.trans h) (by decide)
end LB1
theorem CA.addSt {ad : Nat → Nat} {ns nt nr q0 q : Nat} (h : CA (adA ad (10 + ns) q0) (ns + 1) nt nr q) : CA ad ns nt nr q ∨ q0 ≤ q := by
  obtain ⟨k, hk, rfl⟩ := h
  by_cases e : k = 10 + ns
  · rw [e, adA_s]; exact Or.inr (Nat.le_refl _)
  · rw [adA_n e]; exact Or.inl (CA.of (by unfold LV at hk ⊢; omega))
theorem CA.addSn {ad : Nat → Nat} {ns nt nr q0 q : Nat} (h : CA (adA ad (20 + nt) q0) ns (nt + 1) nr q) : CA ad ns nt nr q ∨ q0 ≤ q := by
  obtain ⟨k, hk, rfl⟩ := h
  by_cases e : k = 20 + nt
  · rw [e, adA_s]; exact Or.inr (Nat.le_refl _)
  · rw [adA_n e]; exact Or.inl (CA.of (by unfold LV at hk ⊢; omega))
theorem CA.addRc {ad : Nat → Nat} {ns nt nr q0 q : Nat} (h3 : nr < 3) (h : CA (adR ad nr q0) ns nt (nr + 1) q) : CA ad ns nt nr q ∨ q0 ≤ q := by
  obtain ⟨k, hk, rfl⟩ := h
  by_cases e : NK nr k
  · exact Or.inr (adR_k e h3)
  · rw [adR_n e]; exact Or.inl (CA.of (by unfold LV at hk ⊢; unfold NK at e; omega))
theorem CA.lt {D : va_G} {cy : Nat → ClassId} {ad : Nat → Nat} {ns nt nr : Nat} {M : Nat → Nat → Int32} {V : SX} {H : Heap} (h : CW D cy ad ns nt nr M V H) (hb : LB ns nt nr) (q : Nat) (hq : CA ad ns nt nr q) : q < H.size := by
  obtain ⟨k, hk, rfl⟩ := hq
  exact h.lt hb hk
-- an index that is one, and what isn't refused
theorem ix_0 {n j : Nat} (hn : n ≤ 8) (hj : j < n) : bI (pOut (nI j) 0 (nI n - 1)) = 0 := by
  obtain ⟨k, rfl⟩ : ∃ k, n = k + 1 := ⟨n - 1, by omega⟩
  rw [nI_pred]
  exact (IR.of_nI (k := j) (a := 0) (b := k) (by omega) (by omega) (by omega)).out (by decide) (by rw [nI_toInt (by omega)]; exact Int.le_refl _)
theorem kRng_z {n j : Nat} {w lo hi : Int32} (hn : n ≤ 8) (hj : j < n) (hw : bI (pOut w lo hi) = 0) : kRng n (nI j) w lo hi = 0 := by
  unfold kRng
  rw [if_pos (ix_0 hn hj), if_pos hw]
theorem kOne_z {n j : Nat} (hn : n ≤ 8) (hj : j < n) : kOne n (nI j) = 0 := by
  unfold kOne
  rw [if_pos (ix_0 hn hj)]
theorem kTwo_z {n n2 j k : Nat} (hn : n ≤ 8) (hj : j < n) (hn2 : n2 ≤ 8) (hk : k < n2) : kTwo n n2 (nI j) (nI k) = 0 := by
  unfold kTwo
  rw [if_pos (ix_0 hn hj), if_pos (ix_0 hn2 hk)]
theorem kTwoR_z {n n2 j k : Nat} {w hi : Int32} (hn : n ≤ 8) (hj : j < n) (hn2 : n2 ≤ 8) (hk : k < n2) (hw : bI (pOut w 0 hi) = 0) : kTwoR n n2 (nI j) (nI k) w hi = 0 := by
  unfold kTwoR
  rw [if_pos (ix_0 hn hj), if_pos (ix_0 hn2 hk), if_pos hw]
theorem kIn_z {w lo hi : Int32} (hw : bI (pOut w lo hi) = 0) : kIn w lo hi = 0 := by
  unfold kIn
  rw [if_pos hw]
/-- the machine's two statics lie outside of A -/
def GXA (A : Nat → Prop) (U : State) (H : Heap) : Prop := vx_Zq Bundle.tN "UNASSIGNED_STACK" Bundle.steD A U H ∧ vx_Zq Bundle.tN "SUPPRESSED_SENTINEL" Bundle.listD A U H
theorem GXA.at {A : Nat → Prop} {s : State} {H : Heap} {locs : List Loc} (h : GXA A s s.heap) (hS : va_S A s.heap H locs) : GX s H :=
  ⟨(h.1.kept hS.2.1).narrow (fun _ f => f.elim), (h.2.kept hS.2.1).narrow (fun _ f => f.elim)⟩
theorem GXA.sub {A B : Nat → Prop} {s : State} {H : Heap} {locs : List Loc} (h : GXA A s s.heap) (hS : va_S A s.heap H locs) (hB : ∀ q, B q → A q) : GXA B s H :=
  ⟨(h.1.kept hS.2.1).narrow hB, (h.2.kept hS.2.1).narrow hB⟩
theorem GXA.moved {A : Nat → Prop} {u U : State} {H : Heap} (hvm : u.vm.Alike U.vm) (h : GXA A u H) : GXA A U H := ⟨vx_Zq.moved hvm h.1, vx_Zq.moved hvm h.2⟩
/-- what holds in a method of the law, whatever it asks -/
def QX (D : va_G) (cy : Nat → ClassId) (p : Program) (l : Launch) (s : State) (m : MethodId) (c : Code) (cc : ByteArray) (A0 : Nat → Prop) (ad : Nat → Nat) (ns nt nr : Nat) : Prop :=
  (p.tables.exec = Jvm.exec ∧ c.code = cc ∧ s.vm.findClass RL = some m.cls) ∧ (GK D cy s ∧ XWD s ∧ GXA A0 s s.heap) ∧ (LB ns nt nr ∧ AI ad ns nt nr ∧ ∀ q, CA ad ns nt nr q → A0 q) ∧ l.stackTraces = false
section QR
variable {p : Program} {l : Launch} {e : Env} {R : Room} {s : State} {m : MethodId} {args : Array Value} {below : List Frame} {meth : Method} {c : Code} {H : Heap} {locs : List Loc} {cells slots : Nat} {Q : State → Prop}
variable {cc : ByteArray} {pc index : Nat} {ls : Array Slot} {rest : List Value} {D : va_G} {cy : Nat → ClassId} {A0 : Nat → Prop} {ad : Nat → Nat} {ns nt nr : Nat} {M : Nat → Nat → Int32} {V : SX}
def RO (R : Room) (cells slots : Nat) : Prop := (7 ≤ R.frames ∧ 160 ≤ R.locals) ∧ cells + 1 ≤ R.cells ∧ slots + 6 ≤ R.slots
theorem q_ofStar {j : Nat} {w : Int32} {v : Int32} (K : QX D cy p l s m c cc A0 ad ns nt nr) (hml : c.maxLocals = ls.size) (hw : CW D cy ad ns nt nr M V H) (hS : va_S A0 s.heap H locs) (hj : j < ns) (hk : bI (pOut w 0 7) = 0) (hv : pTell (M (10 + j)) w = v) (hlink : Cond.methodLink RL index yX6_ofStar ∈ lw_tbl) (hR : RO R cells slots) (hrest : (rest.map fun v => v.category).sum ≤ 8) (hdg : decode cc pc = .ok (.invokevirtual index, 3))
    (kk : ∀ (H1 : Heap) (locs1 : List Loc), CW D cy ad ns nt nr M V H1 → H.size ≤ H1.size → va_S A0 s.heap H1 locs1 → W p l e R s m args below meth c H1 locs1 (cells + 1) (slots + 6) Q (F0 m (pc + 3) ls (.int v :: rest))) :
    W p l e R s m args below meth c H locs cells slots Q (F0 m pc ls (.int w :: .int (nI j) :: .ref (ad 0) :: rest)) := by
  obtain ⟨⟨hx, hb, hown⟩, ⟨hG, hX, hGx⟩, ⟨hL, hA, hA0⟩, hlf⟩ := K
  obtain ⟨⟨hR1, hR2⟩, hR3, hR4⟩ := hR
  have h1 := hL.1
  have h2 := hL.2.1
  have h3 := hL.2.2
  refine kn_ui (kRng_z (by omega) hj hk) (kx_V (As := [.int (nI j), .int w]) (rest := rest) hx hb hml hown hG (c_X6_ofStar l hlf D cy ad ns nt nr hL M V hA (nI j) w) cf_X6_ofStar hlink (PX.preV hG hX (hGx.at hS) hw.o rfl hw) ⟨rfl, rfl, Nat.le_trans (Nat.le_of_ble_eq_true rfl) hR1, Nat.le_trans (Nat.le_of_ble_eq_true rfl) hR2⟩ rfl rfl hrest ⟨hR3, hR4⟩ hdg) hS hA0 (fun r H1 locs1 hp z1 oq1 hS1 => ?_)
  obtain ⟨-, j2, hj2, ej2, er, hw1⟩ := hp
  obtain rfl : j2 = j := (nI_eq (by omega) (by omega)).mp ej2.symm
  rw [er, hv]
  exact kk H1 locs1 hw1 z1 hS1
theorem q_message {j : Nat} {w : Int32} {v : Int32} (K : QX D cy p l s m c cc A0 ad ns nt nr) (hml : c.maxLocals = ls.size) (hw : CW D cy ad ns nt nr M V H) (hS : va_S A0 s.heap H locs) (hj : j < ns) (hk : bI (pOut w 0 7) = 0) (hv : pTellM (M (10 + j)) w (M 0 0) = v) (hlink : Cond.methodLink RL index yX6_message ∈ lw_tbl) (hR : RO R cells slots) (hrest : (rest.map fun v => v.category).sum ≤ 8) (hdg : decode cc pc = .ok (.invokevirtual index, 3))
    (kk : ∀ (H1 : Heap) (locs1 : List Loc), CW D cy ad ns nt nr M V H1 → H.size ≤ H1.size → va_S A0 s.heap H1 locs1 → W p l e R s m args below meth c H1 locs1 (cells + 1) (slots + 6) Q (F0 m (pc + 3) ls (.int v :: rest))) :
    W p l e R s m args below meth c H locs cells slots Q (F0 m pc ls (.int w :: .int (nI j) :: .ref (ad 0) :: rest)) := by
  obtain ⟨⟨hx, hb, hown⟩, ⟨hG, hX, hGx⟩, ⟨hL, hA, hA0⟩, hlf⟩ := K
  obtain ⟨⟨hR1, hR2⟩, hR3, hR4⟩ := hR
  have h1 := hL.1
  have h2 := hL.2.1
  have h3 := hL.2.2
  refine kn_ui (kRng_z (by omega) hj hk) (kx_V (As := [.int (nI j), .int w]) (rest := rest) hx hb hml hown hG (c_X6_message l hlf D cy ad ns nt nr hL M V hA (nI j) w) cf_X6_message hlink (PX.preV hG hX (hGx.at hS) hw.o rfl hw) ⟨rfl, rfl, Nat.le_trans (Nat.le_of_ble_eq_true rfl) hR1, Nat.le_trans (Nat.le_of_ble_eq_true rfl) hR2⟩ rfl rfl hrest ⟨hR3, hR4⟩ hdg) hS hA0 (fun r H1 locs1 hp z1 oq1 hS1 => ?_)
  obtain ⟨-, j2, hj2, ej2, er, hw1⟩ := hp
  obtain rfl : j2 = j := (nI_eq (by omega) (by omega)).mp ej2.symm
  rw [er, hv]
  exact kk H1 locs1 hw1 z1 hS1
theorem q_seen {i j : Nat} {w : Int32} {v : Int32} (K : QX D cy p l s m c cc A0 ad ns nt nr) (hml : c.maxLocals = ls.size) (hw : CW D cy ad ns nt nr M V H) (hS : va_S A0 s.heap H locs) (hi : i < nr) (hj : j < ns) (hk : bI (pOut w 0 7) = 0) (hv : pTellG (M (60 + 8 * i + j)) w = v) (hlink : Cond.methodLink RL index yX6_seen ∈ lw_tbl) (hR : RO R cells slots) (hrest : (rest.map fun v => v.category).sum ≤ 8) (hdg : decode cc pc = .ok (.invokevirtual index, 3))
    (kk : ∀ (H1 : Heap) (locs1 : List Loc), CW D cy ad ns nt nr M V H1 → H.size ≤ H1.size → va_S A0 s.heap H1 locs1 → W p l e R s m args below meth c H1 locs1 (cells + 1) (slots + 6) Q (F0 m (pc + 3) ls (.int v :: rest))) :
    W p l e R s m args below meth c H locs cells slots Q (F0 m pc ls (.int w :: .int (nI j) :: .int (nI i) :: .ref (ad 0) :: rest)) := by
  obtain ⟨⟨hx, hb, hown⟩, ⟨hG, hX, hGx⟩, ⟨hL, hA, hA0⟩, hlf⟩ := K
  obtain ⟨⟨hR1, hR2⟩, hR3, hR4⟩ := hR
  have h1 := hL.1
  have h2 := hL.2.1
  have h3 := hL.2.2
  refine kn_ui (kTwoR_z (by omega) hi (by omega) hj hk) (kx_V (As := [.int (nI i), .int (nI j), .int w]) (rest := rest) hx hb hml hown hG (c_X6_seen l hlf D cy ad ns nt nr hL M V hA (nI i) (nI j) w) cf_X6_seen hlink (PX.preV hG hX (hGx.at hS) hw.o rfl hw) ⟨rfl, rfl, Nat.le_trans (Nat.le_of_ble_eq_true rfl) hR1, Nat.le_trans (Nat.le_of_ble_eq_true rfl) hR2⟩ rfl rfl hrest ⟨hR3, hR4⟩ hdg) hS hA0 (fun r H1 locs1 hp z1 oq1 hS1 => ?_)
  obtain ⟨-, i2, j2, hi2, hj2, ei2, ej2, er, hw1⟩ := hp
  obtain rfl : i2 = i := (nI_eq (by omega) (by omega)).mp ei2.symm
  obtain rfl : j2 = j := (nI_eq (by omega) (by omega)).mp ej2.symm
  rw [er, hv]
  exact kk H1 locs1 hw1 z1 hS1
theorem q_ofReceiver {i : Nat} {w : Int32} {v : Int32} (K : QX D cy p l s m c cc A0 ad ns nt nr) (hml : c.maxLocals = ls.size) (hw : CW D cy ad ns nt nr M V H) (hS : va_S A0 s.heap H locs) (hi : i < nr) (hk : bI (pOut w 0 13) = 0) (hv : pTellR M ns i w = v) (hlink : Cond.methodLink RL index yX6_ofReceiver ∈ lw_tbl) (hR : RO R cells slots) (hrest : (rest.map fun v => v.category).sum ≤ 8) (hdg : decode cc pc = .ok (.invokevirtual index, 3))
    (kk : ∀ (H1 : Heap) (locs1 : List Loc), CW D cy ad ns nt nr M V H1 → H.size ≤ H1.size → va_S A0 s.heap H1 locs1 → W p l e R s m args below meth c H1 locs1 (cells + 1) (slots + 6) Q (F0 m (pc + 3) ls (.int v :: rest))) :
    W p l e R s m args below meth c H locs cells slots Q (F0 m pc ls (.int w :: .int (nI i) :: .ref (ad 0) :: rest)) := by
  obtain ⟨⟨hx, hb, hown⟩, ⟨hG, hX, hGx⟩, ⟨hL, hA, hA0⟩, hlf⟩ := K
  obtain ⟨⟨hR1, hR2⟩, hR3, hR4⟩ := hR
  have h1 := hL.1
  have h2 := hL.2.1
  have h3 := hL.2.2
  refine kn_ui (kRng_z (by omega) hi hk) (kx_V (As := [.int (nI i), .int w]) (rest := rest) hx hb hml hown hG (c_X6_ofReceiver l hlf D cy ad ns nt nr hL M V hA (nI i) w) cf_X6_ofReceiver hlink (PX.preV hG hX (hGx.at hS) hw.o rfl hw) ⟨rfl, rfl, Nat.le_trans (Nat.le_of_ble_eq_true rfl) hR1, Nat.le_trans (Nat.le_of_ble_eq_true rfl) hR2⟩ rfl rfl hrest ⟨hR3, hR4⟩ hdg) hS hA0 (fun r H1 locs1 hp z1 oq1 hS1 => ?_)
  obtain ⟨-, i2, hi2, ei2, er, hw1⟩ := hp
  obtain rfl : i2 = i := (nI_eq (by omega) (by omega)).mp ei2.symm
  rw [er, hv]
  exact kk H1 locs1 hw1 z1 hS1
theorem q_many {w : Int32} {v : Int32} (K : QX D cy p l s m c cc A0 ad ns nt nr) (hml : c.maxLocals = ls.size) (hw : CW D cy ad ns nt nr M V H) (hS : va_S A0 s.heap H locs) (hk : bI (pOut w 0 8) = 0) (hv : pCount M ns nt nr w = v) (hlink : Cond.methodLink RL index yX6_many ∈ lw_tbl) (hR : RO R cells slots) (hrest : (rest.map fun v => v.category).sum ≤ 8) (hdg : decode cc pc = .ok (.invokevirtual index, 3))
    (kk : ∀ (H1 : Heap) (locs1 : List Loc), CW D cy ad ns nt nr M V H1 → H.size ≤ H1.size → va_S A0 s.heap H1 locs1 → W p l e R s m args below meth c H1 locs1 (cells + 1) (slots + 6) Q (F0 m (pc + 3) ls (.int v :: rest))) :
    W p l e R s m args below meth c H locs cells slots Q (F0 m pc ls (.int w :: .ref (ad 0) :: rest)) := by
  obtain ⟨⟨hx, hb, hown⟩, ⟨hG, hX, hGx⟩, ⟨hL, hA, hA0⟩, hlf⟩ := K
  obtain ⟨⟨hR1, hR2⟩, hR3, hR4⟩ := hR
  have h1 := hL.1
  have h2 := hL.2.1
  have h3 := hL.2.2
  refine kn_ui (kIn_z hk) (kx_V (As := [.int w]) (rest := rest) hx hb hml hown hG (c_X6_many l hlf D cy ad ns nt nr hL M V hA w) cf_X6_many hlink (PX.preV hG hX (hGx.at hS) hw.o rfl hw) ⟨rfl, rfl, Nat.le_trans (Nat.le_of_ble_eq_true rfl) hR1, Nat.le_trans (Nat.le_of_ble_eq_true rfl) hR2⟩ rfl rfl hrest ⟨hR3, hR4⟩ hdg) hS hA0 (fun r H1 locs1 hp z1 oq1 hS1 => ?_)
  obtain ⟨-, er, hw1⟩ := hp
  rw [er, hv]
  exact kk H1 locs1 hw1 z1 hS1
theorem q_wouldSee {i : Nat} {w : Int32} {v : Int32} (K : QX D cy p l s m c cc A0 ad ns nt nr) (hml : c.maxLocals = ls.size) (hw : CW D cy ad ns nt nr M V H) (hS : va_S A0 s.heap H locs) (hi : i < nr) (hk : bI (pOut w 0 48) = 0) (hv : pSet (M (30 + i)) M w ns = v) (hlink : Cond.methodLink RL index yX6_wouldSee ∈ lw_tbl) (hR : RO R cells slots) (hrest : (rest.map fun v => v.category).sum ≤ 8) (hdg : decode cc pc = .ok (.invokevirtual index, 3))
    (kk : ∀ (H1 : Heap) (locs1 : List Loc), CW D cy ad ns nt nr M V H1 → H.size ≤ H1.size → va_S A0 s.heap H1 locs1 → W p l e R s m args below meth c H1 locs1 (cells + 1) (slots + 6) Q (F0 m (pc + 3) ls (.int v :: rest))) :
    W p l e R s m args below meth c H locs cells slots Q (F0 m pc ls (.int w :: .int (nI i) :: .ref (ad 0) :: rest)) := by
  obtain ⟨⟨hx, hb, hown⟩, ⟨hG, hX, hGx⟩, ⟨hL, hA, hA0⟩, hlf⟩ := K
  obtain ⟨⟨hR1, hR2⟩, hR3, hR4⟩ := hR
  have h1 := hL.1
  have h2 := hL.2.1
  have h3 := hL.2.2
  refine kn_ui (kRng_z (by omega) hi hk) (kx_V (As := [.int (nI i), .int w]) (rest := rest) hx hb hml hown hG (c_X6_wouldSee l hlf D cy ad ns nt nr hL M V hA (nI i) w) cf_X6_wouldSee hlink (PX.preV hG hX (hGx.at hS) hw.o rfl hw) ⟨rfl, rfl, Nat.le_trans (Nat.le_of_ble_eq_true rfl) hR1, Nat.le_trans (Nat.le_of_ble_eq_true rfl) hR2⟩ rfl rfl hrest ⟨hR3, hR4⟩ hdg) hS hA0 (fun r H1 locs1 hp z1 oq1 hS1 => ?_)
  obtain ⟨-, i2, hi2, ei2, er, hw1⟩ := hp
  obtain rfl : i2 = i := (nI_eq (by omega) (by omega)).mp ei2.symm
  rw [er, hv]
  exact kk H1 locs1 hw1 z1 hS1
theorem q_heardIn {i j : Nat} {v : Int32} (K : QX D cy p l s m c cc A0 ad ns nt nr) (hml : c.maxLocals = ls.size) (hw : CW D cy ad ns nt nr M V H) (hS : va_S A0 s.heap H locs) (hj : j < ns) (hi : i < nt) (hv : pFs (M (20 + i)) (M (10 + j)) 49 0 = v) (hlink : Cond.methodLink RL index yX6_heardIn ∈ lw_tbl) (hR : RO R cells slots) (hrest : (rest.map fun v => v.category).sum ≤ 8) (hdg : decode cc pc = .ok (.invokevirtual index, 3))
    (kk : ∀ (H1 : Heap) (locs1 : List Loc), CW D cy ad ns nt nr M V H1 → H.size ≤ H1.size → va_S A0 s.heap H1 locs1 → W p l e R s m args below meth c H1 locs1 (cells + 1) (slots + 6) Q (F0 m (pc + 3) ls (.int v :: rest))) :
    W p l e R s m args below meth c H locs cells slots Q (F0 m pc ls (.int (nI i) :: .int (nI j) :: .ref (ad 0) :: rest)) := by
  obtain ⟨⟨hx, hb, hown⟩, ⟨hG, hX, hGx⟩, ⟨hL, hA, hA0⟩, hlf⟩ := K
  obtain ⟨⟨hR1, hR2⟩, hR3, hR4⟩ := hR
  have h1 := hL.1
  have h2 := hL.2.1
  have h3 := hL.2.2
  refine kn_ui (kTwo_z (by omega) hj (by omega) hi) (kx_V (As := [.int (nI j), .int (nI i)]) (rest := rest) hx hb hml hown hG (c_X6_heardIn l hlf D cy ad ns nt nr hL M V hA (nI j) (nI i)) cf_X6_heardIn hlink (PX.preV hG hX (hGx.at hS) hw.o rfl hw) ⟨rfl, rfl, Nat.le_trans (Nat.le_of_ble_eq_true rfl) hR1, Nat.le_trans (Nat.le_of_ble_eq_true rfl) hR2⟩ rfl rfl hrest ⟨hR3, hR4⟩ hdg) hS hA0 (fun r H1 locs1 hp z1 oq1 hS1 => ?_)
  obtain ⟨-, j2, i2, hj2, hi2, ej2, ei2, er, hw1⟩ := hp
  obtain rfl : i2 = i := (nI_eq (by omega) (by omega)).mp ei2.symm
  obtain rfl : j2 = j := (nI_eq (by omega) (by omega)).mp ej2.symm
  rw [er, hv]
  exact kk H1 locs1 hw1 z1 hS1
theorem q_meanError {i : Nat} {v : UInt64} (K : QX D cy p l s m c cc A0 ad ns nt nr) (hml : c.maxLocals = ls.size) (hw : CW D cy ad ns nt nr M V H) (hS : va_S A0 s.heap H locs) (hi : i < nr) (hv : pMean (M (50 + i)) = v) (hlink : Cond.methodLink RL index yX6_meanError ∈ lw_tbl) (hR : RO R cells slots) (hrest : (rest.map fun v => v.category).sum ≤ 8) (hdg : decode cc pc = .ok (.invokevirtual index, 3))
    (kk : ∀ (H1 : Heap) (locs1 : List Loc), CW D cy ad ns nt nr M V H1 → H.size ≤ H1.size → va_S A0 s.heap H1 locs1 → W p l e R s m args below meth c H1 locs1 (cells + 1) (slots + 6) Q (F0 m (pc + 3) ls (.double v :: rest))) :
    W p l e R s m args below meth c H locs cells slots Q (F0 m pc ls (.int (nI i) :: .ref (ad 0) :: rest)) := by
  obtain ⟨⟨hx, hb, hown⟩, ⟨hG, hX, hGx⟩, ⟨hL, hA, hA0⟩, hlf⟩ := K
  obtain ⟨⟨hR1, hR2⟩, hR3, hR4⟩ := hR
  have h1 := hL.1
  have h2 := hL.2.1
  have h3 := hL.2.2
  refine kn_ud (kOne_z (by omega) hi) (kx_V (As := [.int (nI i)]) (rest := rest) hx hb hml hown hG (c_X6_meanError l hlf D cy ad ns nt nr hL M V hA (nI i)) cf_X6_meanError hlink (PX.preV hG hX (hGx.at hS) hw.o rfl hw) ⟨rfl, rfl, Nat.le_trans (Nat.le_of_ble_eq_true rfl) hR1, Nat.le_trans (Nat.le_of_ble_eq_true rfl) hR2⟩ rfl rfl hrest ⟨hR3, hR4⟩ hdg) hS hA0 (fun r H1 locs1 hp z1 oq1 hS1 => ?_)
  obtain ⟨-, i2, hi2, ei2, er, hw1⟩ := hp
  obtain rfl : i2 = i := (nI_eq (by omega) (by omega)).mp ei2.symm
  rw [er, hv]
  exact kk H1 locs1 hw1 z1 hS1
end QR
