-- the law's below and cell; the calls that change the world, a row each
def lBel (v n : Int32) : Int32 := pRem (v &&& 2147483647) n
def lCell (xs : Nat → Int32) (L k : Nat) : Int32 := if nI L ≤ nI k then 790386105 * (nI k + 3) else xs k
theorem and_nn (v : Int32) : 0 ≤ v &&& 2147483647 := by
  rw [nn_msb, Int32.toBitVec_and, BitVec.msb_and, show (2147483647 : Int32).toBitVec.msb = false by decide, Bool.and_false]
theorem bel_IR (v : Int32) {n : Int32} (hn : 0 < n.toInt) : IR (lBel v n) 0 (n.toInt - 1) := pRem_IR hn (and_nn v)
theorem bel_lt (v : Int32) {n : Nat} (h0 : 0 < n) (hn : n < 2 ^ 31) : ∃ k, k < n ∧ lBel v (nI n) = nI k := by
  have h := bel_IR v (n := nI n) (by rw [nI_toInt hn]; omega)
  rw [nI_toInt hn] at h
  obtain ⟨k, hk, e⟩ := IR.nat (b := n - 1) (h.mono (Int.le_refl _) (by omega))
  exact ⟨k, by omega, e⟩
theorem c_L_below (l : Launch) (D : va_G) (cy : Nat → ClassId) (v n : Int32) (hn : n ≠ 0) : Met l yL_below [.code yL_below cL_below 2 (some .int)] ({ frames := 0, cells := 0, slots := 0, locals := 0 } : Room) (PC D cy [.int v, .int n] (fun _ => True)) (RQi (lBel v n)) 0 0 (fun _ => False) := by
  refine k_body (by decide +kernel) (Nat.le_of_ble_eq_true rfl) ?_
  intro p e s m below meth c ls hx hb hml hown hr hlk hmn hl hG hI
  have hl : lv_has ls 2 [(0, .int v), (1, .int n)] := hl
  refine lv_iload_n hx hb dL_below_0 rfl (lv_at hl 0 rfl) ?_
  refine lv_ldc hx hb hown (hG.w wK_L_7 rfl) dL_below_1 ?_
  refine lv_iand hx hb dL_below_3 ?_
  refine lv_iload_n hx hb dL_below_4 rfl (lv_at hl 1 rfl) ?_
  refine lv_irem hx hb dL_below_5 hn ?_
  exact ke_i hx hb hr hlk dL_below_6 rfl
/-- a start of cell: the script lies there -/
def PY (D : va_G) (cy : Nat → ClassId) (av : List Value) (b L : Nat) (xs : Nat → Int32) : Array Value → State → Prop := fun v U => PC D cy av (fun _ => True) v U ∧ va_X b L xs U U.heap
theorem PY.blind {D : va_G} {cy : Nat → ClassId} {av : List Value} {b L : Nat} {xs : Nat → Int32} : FrameBlind (PY D cy av b L xs) := fun a U g mk h => ⟨PC.blind a U g mk h.1, va_X.moved (u := U) (Vm.Alike.refl U.vm) h.2⟩
theorem PY.preS {D : va_G} {cy : Nat → ClassId} {As : List Value} {b L : Nat} {xs : Nat → Int32} {s : State} {H : Heap} (hG : GK D cy s) (hX : va_X b L xs s H) : PreS s H (PY D cy As b L xs) As :=
  ⟨PY.blind, fun U hU hW => ⟨⟨rfl, hG.warm hW, trivial⟩, by rw [hU]; exact va_X.moved hW.alike hX⟩⟩
theorem va_X.lt {b L : Nat} {xs : Nat → Int32} {U : State} {H : Heap} (h : va_X b L xs U H) : b < H.size := by
  obtain ⟨scr, h1, -⟩ := h
  exact (Array.getElem?_eq_some_iff.mp h1).1
theorem c_L_cell (l : Launch) (D : va_G) (cy : Nat → ClassId) (b L : Nat) (xs : Nat → Int32) (hL : L < 2 ^ 31) (k : Nat) (hk : k < 2 ^ 31) : Met l yL_cell [.code yL_cell cL_cell 2 (some .int)] ({ frames := 0, cells := 0, slots := 0, locals := 0 } : Room) (PY D cy [.ref b, .int (nI k)] b L xs) (RQi (lCell xs L k)) 0 0 (fun _ => False) := by
  refine Met.ofW (cc := cL_cell) (maxL := 2) (ret := some .int) (by decide +kernel) rfl ?_
  intro p e s m args below meth c s₁ B hml hv
  obtain ⟨⟨rfl, hG, hI⟩, hXs⟩ := hv
  have hl := lv_entry [.ref b, .int (nI k)] (n := 2) (Nat.le_of_ble_eq_true rfl)
  rw [lg_entry_eq]
  generalize (lg_sl [.ref b, .int (nI k)] ++ List.replicate (2 - (lg_sl [.ref b, .int (nI k)]).length) Slot.unset).toArray = ls at hl ⊢
  have hx := B.exec
  have hb := B.bytes
  have hown : s.vm.findClass RL = some m.cls := findClass_of_methodNamed B.named
  have hl : lv_has ls 2 [(0, .ref b), (1, .int (nI k))] := hl
  have hbl := hXs.lt
  have hS : va_S (fun _ => False) s.heap s.heap [] := va_S.rf
  refine lv_iload_n hx hb dL_cell_0 rfl (lv_at hl 1 rfl) ?_
  refine lv_aload_n hx hb dL_cell_1 rfl (lv_at hl 0 rfl) ?_
  refine va_slen hx hb hXs hbl (fun h => h) hS dL_cell_2 ?_
  refine lv_icmp_ge (tgt := 12) hx hb dL_cell_3 (by decide) (fun c_3 => ?_) (fun c_3 => ?_)
  · refine lv_ldc hx hb hown (hG.w wK_L_8 rfl) dL_cell_12 ?_
    refine lv_iload_n hx hb dL_cell_14 rfl (lv_at hl 1 rfl) ?_
    refine lv_iconst (v := 3) hx hb dL_cell_15 (by decide) ?_
    refine lv_iadd hx hb dL_cell_16 ?_
    refine lv_imul hx hb dL_cell_17 ?_
    exact ke_i hx hb B.returns B.notSynchronized dL_cell_18 (if_pos c_3).symm
  · have hlt : k < L := by
      rcases Nat.lt_or_ge k L with q | q
      · exact q
      · exact absurd ((nI_leI hL hk).mpr q) c_3
    refine lv_aload_n hx hb dL_cell_6 rfl (lv_at hl 0 rfl) ?_
    refine lv_iload_n hx hb dL_cell_7 rfl (lv_at hl 1 rfl) ?_
    refine va_sld hx hb hXs hbl (fun h => h) hS (vp_in_nI hlt hL) dL_cell_8 ?_
    rw [nI_clamp hk]
    refine lv_goto (tgt := 18) hx hb dL_cell_9 (by decide) ?_
    exact ke_i hx hb B.returns B.notSynchronized dL_cell_18 (if_neg c_3).symm
section QM
variable {p : Program} {l : Launch} {e : Env} {R : Room} {s : State} {m : MethodId} {args : Array Value} {below : List Frame} {meth : Method} {c : Code} {H : Heap} {locs : List Loc} {cells slots : Nat} {Q : State → Prop}
variable {cc : ByteArray} {pc index : Nat} {ls : Array Slot} {rest : List Value} {D : va_G} {cy : Nat → ClassId} {A0 : Nat → Prop} {ad : Nat → Nat} {ns nt nr : Nat} {M : Nat → Nat → Int32} {V : SX} {b L : Nat} {xs : Nat → Int32}
/-- below, called out of the law -/
theorem r_below {v n : Int32} (hx : p.tables.exec = Jvm.exec) (hb : c.code = cc) (hml : c.maxLocals = ls.size) (hown : s.vm.findClass RL = some m.cls) (hG : GK D cy s) (hn : n ≠ 0) (hlink : Cond.methodLink RL index yL_below ∈ lw_tbl) (hR : (7 ≤ R.frames ∧ 160 ≤ R.locals) ∧ cells ≤ R.cells ∧ slots ≤ R.slots) (hrest : (rest.map fun v => v.category).sum ≤ 8) (hdg : decode cc pc = .ok (.invokestatic index, 3))
    (kk : W p l e R s m args below meth c H locs cells slots Q (F0 m (pc + 3) ls (.int (lBel v n) :: rest))) : W p l e R s m args below meth c H locs cells slots Q (F0 m pc ls (.int n :: .int v :: rest)) := by
  obtain ⟨⟨hR1, hR2⟩, hR3, hR4⟩ := hR
  exact kc_i (kr_S (As := [.int v, .int n]) (rest := rest) hx hb hml hown hG (c_L_below l D cy v n hn) cf_L_below hlink trivial ⟨rfl, rfl, Nat.le_trans (Nat.le_of_ble_eq_true rfl) hR1, Nat.le_trans (Nat.le_of_ble_eq_true rfl) hR2⟩ rfl rfl hrest ⟨hR3, hR4⟩ hdg) kk
theorem r_belowN {v nv : Int32} {n : Nat} (hx : p.tables.exec = Jvm.exec) (hb : c.code = cc) (hml : c.maxLocals = ls.size) (hown : s.vm.findClass RL = some m.cls) (hG : GK D cy s) (en : nv = nI n) (h0 : 0 < n) (hn : n < 2 ^ 31) (hlink : Cond.methodLink RL index yL_below ∈ lw_tbl) (hR : (7 ≤ R.frames ∧ 160 ≤ R.locals) ∧ cells ≤ R.cells ∧ slots ≤ R.slots) (hrest : (rest.map fun v => v.category).sum ≤ 8) (hdg : decode cc pc = .ok (.invokestatic index, 3))
    (kk : ∀ q : Nat, q < n → W p l e R s m args below meth c H locs cells slots Q (F0 m (pc + 3) ls (.int (nI q) :: rest))) : W p l e R s m args below meth c H locs cells slots Q (F0 m pc ls (.int nv :: .int v :: rest)) := by
  obtain ⟨q, hq, eq⟩ := bel_lt v h0 hn
  refine r_below hx hb hml hown hG (by rw [en]; exact nI_ne0 h0 hn) hlink hR hrest hdg ?_
  rw [en, eq]
  exact kk q hq
/-- cell, called out of the law -/
theorem r_cell {k : Nat} {kv : Int32} (hx : p.tables.exec = Jvm.exec) (hb : c.code = cc) (hml : c.maxLocals = ls.size) (hown : s.vm.findClass RL = some m.cls) (hG : GK D cy s) (hXs : va_X b L xs s s.heap) (hbA : ¬ A0 b) (hS : va_S A0 s.heap H locs) (hL : L < 2 ^ 31) (hk : k < 2 ^ 31) (ek : kv = nI k) (hlink : Cond.methodLink RL index yL_cell ∈ lw_tbl) (hR : (7 ≤ R.frames ∧ 160 ≤ R.locals) ∧ cells ≤ R.cells ∧ slots ≤ R.slots) (hrest : (rest.map fun v => v.category).sum ≤ 8) (hdg : decode cc pc = .ok (.invokestatic index, 3))
    (kk : W p l e R s m args below meth c H locs cells slots Q (F0 m (pc + 3) ls (.int (lCell xs L k) :: rest))) : W p l e R s m args below meth c H locs cells slots Q (F0 m pc ls (.int kv :: .ref b :: rest)) := by
  obtain ⟨⟨hR1, hR2⟩, hR3, hR4⟩ := hR
  subst ek
  exact kc_i (kx_S (As := [.ref b, .int (nI k)]) (rest := rest) hx hb hml hown hG (c_L_cell l D cy b L xs hL k hk) cf_L_cell hlink (PY.preS hG (hXs.kept (hS.2.1 b hXs.lt hbA))) ⟨rfl, rfl, Nat.le_trans (Nat.le_of_ble_eq_true rfl) hR1, Nat.le_trans (Nat.le_of_ble_eq_true rfl) hR2⟩ rfl rfl hrest ⟨hR3, hR4⟩ hdg) kk
-- what isn't refused
theorem noPlace_z {u v : Int32} (hu : bI (pOut u (-12) 12) = 0) (hv : bI (pOut v 0 12) = 0) : bI (pNoPlace u v) = 0 := by
  unfold pNoPlace
  rw [if_pos hu, if_pos hv]
  rfl
theorem q_push {j : Nat} {w : Int32} {v9 : Int32} (K : QX D cy p l s m c cc A0 ad ns nt nr) (hml : c.maxLocals = ls.size) (hw : CW D cy ad ns nt nr M V H) (hS : va_S A0 s.heap H locs) (hj : j < ns) (hk : bI (pOut w (-5) 5) = 0) (hv9 : pFMod (M (10 + j) 2 + w) 48 = v9) (hlink : Cond.methodLink RL index yX6_push ∈ lw_tbl) (hR : RO R cells slots) (hrest : (rest.map fun v => v.category).sum ≤ 8) (hdg : decode cc pc = .ok (.invokevirtual index, 3))
    (kk : ∀ (H1 : Heap) (locs1 : List Loc), CW D cy ad ns nt nr (mset M (10 + j) (upd (M (10 + j)) 2 (pFMod (M (10 + j) 2 + w) 48))) V H1 → H.size ≤ H1.size → va_S A0 s.heap H1 locs1 → W p l e R s m args below meth c H1 locs1 (cells + 1) (slots + 6) Q (F0 m (pc + 3) ls (.int v9 :: rest))) :
    W p l e R s m args below meth c H locs cells slots Q (F0 m pc ls (.int w :: .int (nI j) :: .ref (ad 0) :: rest)) := by
  obtain ⟨⟨hx, hb, hown⟩, ⟨hG, hX, hGx⟩, ⟨hL, hA, hA0⟩, hlf⟩ := K
  obtain ⟨⟨hR1, hR2⟩, hR3, hR4⟩ := hR
  have h1 := hL.1
  have h2 := hL.2.1
  have h3 := hL.2.2
  refine kn_ui (by unfold kPush; rw [if_pos (ix_0 (by omega) hj), if_pos hk]) (kx_V (As := [.int (nI j), .int w]) (rest := rest) hx hb hml hown hG (c_X6_push l hlf D cy ad ns nt nr hL M V hA (nI j) w) cf_X6_push hlink (PX.preV hG hX (hGx.at hS) hw.o rfl hw) ⟨rfl, rfl, Nat.le_trans (Nat.le_of_ble_eq_true rfl) hR1, Nat.le_trans (Nat.le_of_ble_eq_true rfl) hR2⟩ rfl rfl hrest ⟨hR3, hR4⟩ hdg) hS hA0 (fun r H1 locs1 hp z1 oq1 hS1 => ?_)
  obtain ⟨-, j2, hj2, ej2, er, hw1⟩ := hp
  obtain rfl : j2 = j := (nI_eq (by omega) (by omega)).mp ej2.symm
  rw [er, hv9]
  exact kk H1 locs1 hw1 z1 hS1
theorem q_jump {j : Nat} {w d : Int32} {v9 : Int32} (K : QX D cy p l s m c cc A0 ad ns nt nr) (hml : c.maxLocals = ls.size) (hw : CW D cy ad ns nt nr M V H) (hS : va_S A0 s.heap H locs) (hj : j < ns) (hk : bI (pOut w (-99) 99) = 0) (hd : bI (pOut d (-3) 3) = 0) (hv9 : rClock (M (10 + j)) w 3 = v9) (hlink : Cond.methodLink RL index yX6_jump ∈ lw_tbl) (hR : RO R cells slots) (hrest : (rest.map fun v => v.category).sum ≤ 8) (hdg : decode cc pc = .ok (.invokevirtual index, 3))
    (kk : ∀ (H1 : Heap) (locs1 : List Loc), CW D cy ad ns nt nr (mset M (10 + j) (upd (rClock (M (10 + j)) w) 4 d)) V H1 → H.size ≤ H1.size → va_S A0 s.heap H1 locs1 → W p l e R s m args below meth c H1 locs1 (cells + 1) (slots + 6) Q (F0 m (pc + 3) ls (.int v9 :: rest))) :
    W p l e R s m args below meth c H locs cells slots Q (F0 m pc ls (.int d :: .int w :: .int (nI j) :: .ref (ad 0) :: rest)) := by
  obtain ⟨⟨hx, hb, hown⟩, ⟨hG, hX, hGx⟩, ⟨hL, hA, hA0⟩, hlf⟩ := K
  obtain ⟨⟨hR1, hR2⟩, hR3, hR4⟩ := hR
  have h1 := hL.1
  have h2 := hL.2.1
  have h3 := hL.2.2
  refine kn_ui (by unfold kJump; rw [if_pos (ix_0 (by omega) hj), if_pos hk, if_pos hd]) (kx_V (As := [.int (nI j), .int w, .int d]) (rest := rest) hx hb hml hown hG (c_X6_jump l hlf D cy ad ns nt nr hL M V hA (nI j) w d) cf_X6_jump hlink (PX.preV hG hX (hGx.at hS) hw.o rfl hw) ⟨rfl, rfl, Nat.le_trans (Nat.le_of_ble_eq_true rfl) hR1, Nat.le_trans (Nat.le_of_ble_eq_true rfl) hR2⟩ rfl rfl hrest ⟨hR3, hR4⟩ hdg) hS hA0 (fun r H1 locs1 hp z1 oq1 hS1 => ?_)
  obtain ⟨-, j2, hj2, ej2, er, hw1⟩ := hp
  obtain rfl : j2 = j := (nI_eq (by omega) (by omega)).mp ej2.symm
  rw [er, hv9]
  exact kk H1 locs1 hw1 z1 hS1
theorem q_health {j : Nat} (b : Bool) {v9 : Int32} (K : QX D cy p l s m c cc A0 ad ns nt nr) (hml : c.maxLocals = ls.size) (hw : CW D cy ad ns nt nr M V H) (hS : va_S A0 s.heap H locs) (hj : j < ns) (h01 : ∀ i, i < ns → ∃ b, M (10 + i) 5 = bI b) (hv9 : M (10 + j) 5 = v9) (hlink : Cond.methodLink RL index yX6_health ∈ lw_tbl) (hR : RO R cells slots) (hrest : (rest.map fun v => v.category).sum ≤ 8) (hdg : decode cc pc = .ok (.invokevirtual index, 3))
    (kk : ∀ (H1 : Heap) (locs1 : List Loc), CW D cy ad ns nt nr (mset M (10 + j) (upd (M (10 + j)) 5 (bI b))) V H1 → H.size ≤ H1.size → va_S A0 s.heap H1 locs1 → W p l e R s m args below meth c H1 locs1 (cells + 1) (slots + 6) Q (F0 m (pc + 3) ls (.int v9 :: rest))) :
    W p l e R s m args below meth c H locs cells slots Q (F0 m pc ls (.int (bI b) :: .int (nI j) :: .ref (ad 0) :: rest)) := by
  obtain ⟨⟨hx, hb, hown⟩, ⟨hG, hX, hGx⟩, ⟨hL, hA, hA0⟩, hlf⟩ := K
  obtain ⟨⟨hR1, hR2⟩, hR3, hR4⟩ := hR
  have h1 := hL.1
  have h2 := hL.2.1
  have h3 := hL.2.2
  refine kn_ui (kOne_z (by omega) hj) (kx_V (As := [.int (nI j), .int (bI b)]) (rest := rest) hx hb hml hown hG (c_X6_health l hlf D cy ad ns nt nr hL M V hA (nI j) b h01) cf_X6_health hlink (PX.preV hG hX (hGx.at hS) hw.o rfl hw) ⟨rfl, rfl, Nat.le_trans (Nat.le_of_ble_eq_true rfl) hR1, Nat.le_trans (Nat.le_of_ble_eq_true rfl) hR2⟩ rfl rfl hrest ⟨hR3, hR4⟩ hdg) hS hA0 (fun r H1 locs1 hp z1 oq1 hS1 => ?_)
  obtain ⟨-, j2, hj2, ej2, er, hw1⟩ := hp
  obtain rfl : j2 = j := (nI_eq (by omega) (by omega)).mp ej2.symm
  rw [er, hv9]
  exact kk H1 locs1 hw1 z1 hS1
theorem q_listen {i j : Nat} {v9 : Int32} (K : QX D cy p l s m c cc A0 ad ns nt nr) (hml : c.maxLocals = ls.size) (hw : CW D cy ad ns nt nr M V H) (hS : va_S A0 s.heap H locs) (hi : i < nt) (hj : j < ns) (hh : ¬ bI (pHear (M (20 + i)) (M (10 + j)) 0) = 0) (hv9 : rTake (M (10 + j)) (M 0 0) (M (20 + i) 1) 6 = v9) (hlink : Cond.methodLink RL index yX6_listen ∈ lw_tbl) (hR : RO R cells slots) (hrest : (rest.map fun v => v.category).sum ≤ 8) (hdg : decode cc pc = .ok (.invokevirtual index, 3))
    (kk : ∀ (H1 : Heap) (locs1 : List Loc), CW D cy ad ns nt nr (mset M (10 + j) (rTake (M (10 + j)) (M 0 0) (M (20 + i) 1))) V H1 → H.size ≤ H1.size → va_S A0 s.heap H1 locs1 → W p l e R s m args below meth c H1 locs1 (cells + 1) (slots + 6) Q (F0 m (pc + 3) ls (.int v9 :: rest))) :
    W p l e R s m args below meth c H locs cells slots Q (F0 m pc ls (.int (nI j) :: .int (nI i) :: .ref (ad 0) :: rest)) := by
  obtain ⟨⟨hx, hb, hown⟩, ⟨hG, hX, hGx⟩, ⟨hL, hA, hA0⟩, hlf⟩ := K
  obtain ⟨⟨hR1, hR2⟩, hR3, hR4⟩ := hR
  have h1 := hL.1
  have h2 := hL.2.1
  have h3 := hL.2.2
  refine kn_ui (by unfold kListen; rw [if_pos (ix_0 (by omega) hi), if_pos (ix_0 (by omega) hj), nI_clamp (by omega), nI_clamp (by omega), if_neg hh]) (kx_V (As := [.int (nI i), .int (nI j)]) (rest := rest) hx hb hml hown hG (c_X6_listen l hlf D cy ad ns nt nr hL M V hA (nI i) (nI j)) cf_X6_listen hlink (PX.preV hG hX (hGx.at hS) hw.o rfl hw) ⟨rfl, rfl, Nat.le_trans (Nat.le_of_ble_eq_true rfl) hR1, Nat.le_trans (Nat.le_of_ble_eq_true rfl) hR2⟩ rfl rfl hrest ⟨hR3, hR4⟩ hdg) hS hA0 (fun r H1 locs1 hp z1 oq1 hS1 => ?_)
  obtain ⟨-, i2, j2, hi2, hj2, ei2, ej2, er, hw1⟩ := hp
  obtain rfl : i2 = i := (nI_eq (by omega) (by omega)).mp ei2.symm
  obtain rfl : j2 = j := (nI_eq (by omega) (by omega)).mp ej2.symm
  rw [er, hv9]
  exact kk H1 locs1 hw1 z1 hS1
theorem q_go {i : Nat} {u w : Int32} {v9 : Int32} (K : QX D cy p l s m c cc A0 ad ns nt nr) (hml : c.maxLocals = ls.size) (hw : CW D cy ad ns nt nr M V H) (hS : va_S A0 s.heap H locs) (hi : i < nr) (hu : bI (pOut u (-12) 12) = 0) (hk : bI (pOut w 0 12) = 0) (hv9 : pRange (M (30 + i) 4) (M (30 + i) 5) u w = v9) (hlink : Cond.methodLink RL index yX6_go ∈ lw_tbl) (hR : RO R cells slots) (hrest : (rest.map fun v => v.category).sum ≤ 8) (hdg : decode cc pc = .ok (.invokevirtual index, 3))
    (kk : ∀ (H1 : Heap) (locs1 : List Loc), CW D cy ad ns nt nr (mset M (30 + i) (upd (upd (M (30 + i)) 4 u) 5 w)) V H1 → H.size ≤ H1.size → va_S A0 s.heap H1 locs1 → W p l e R s m args below meth c H1 locs1 (cells + 1) (slots + 6) Q (F0 m (pc + 3) ls (.int v9 :: rest))) :
    W p l e R s m args below meth c H locs cells slots Q (F0 m pc ls (.int w :: .int u :: .int (nI i) :: .ref (ad 0) :: rest)) := by
  obtain ⟨⟨hx, hb, hown⟩, ⟨hG, hX, hGx⟩, ⟨hL, hA, hA0⟩, hlf⟩ := K
  obtain ⟨⟨hR1, hR2⟩, hR3, hR4⟩ := hR
  have h1 := hL.1
  have h2 := hL.2.1
  have h3 := hL.2.2
  refine kn_ui (by unfold kGo; rw [if_pos (ix_0 (by omega) hi), if_pos (noPlace_z hu hk)]) (kx_V (As := [.int (nI i), .int u, .int w]) (rest := rest) hx hb hml hown hG (c_X6_go l hlf D cy ad ns nt nr hL M V hA (nI i) u w) cf_X6_go hlink (PX.preV hG hX (hGx.at hS) hw.o rfl hw) ⟨rfl, rfl, Nat.le_trans (Nat.le_of_ble_eq_true rfl) hR1, Nat.le_trans (Nat.le_of_ble_eq_true rfl) hR2⟩ rfl rfl hrest ⟨hR3, hR4⟩ hdg) hS hA0 (fun r H1 locs1 hp z1 oq1 hS1 => ?_)
  obtain ⟨-, i2, hi2, ei2, er, hw1⟩ := hp
  obtain rfl : i2 = i := (nI_eq (by omega) (by omega)).mp ei2.symm
  rw [er, hv9]
  exact kk H1 locs1 hw1 z1 hS1
theorem q_hills {i : Nat} {u w : Int32} {v9 : Int32} (K : QX D cy p l s m c cc A0 ad ns nt nr) (hml : c.maxLocals = ls.size) (hw : CW D cy ad ns nt nr M V H) (hS : va_S A0 s.heap H locs) (hi : i < nr) (hu : bI (pOut u 0 60) = 0) (hk : bI (pOut w 0 60) = 0) (hv9 : pBits (pSet (upd (upd (M (30 + i)) 6 u) 7 w) M 0 ns) = v9) (hlink : Cond.methodLink RL index yX6_hills ∈ lw_tbl) (hR : RO R cells slots) (hrest : (rest.map fun v => v.category).sum ≤ 8) (hdg : decode cc pc = .ok (.invokevirtual index, 3))
    (kk : ∀ (H1 : Heap) (locs1 : List Loc), CW D cy ad ns nt nr (mset M (30 + i) (upd (upd (M (30 + i)) 6 u) 7 w)) V H1 → H.size ≤ H1.size → va_S A0 s.heap H1 locs1 → W p l e R s m args below meth c H1 locs1 (cells + 1) (slots + 6) Q (F0 m (pc + 3) ls (.int v9 :: rest))) :
    W p l e R s m args below meth c H locs cells slots Q (F0 m pc ls (.int w :: .int u :: .int (nI i) :: .ref (ad 0) :: rest)) := by
  obtain ⟨⟨hx, hb, hown⟩, ⟨hG, hX, hGx⟩, ⟨hL, hA, hA0⟩, hlf⟩ := K
  obtain ⟨⟨hR1, hR2⟩, hR3, hR4⟩ := hR
  have h1 := hL.1
  have h2 := hL.2.1
  have h3 := hL.2.2
  refine kn_ui (by unfold kHills; rw [if_pos (ix_0 (by omega) hi), if_pos hu, if_pos hk]) (kx_V (As := [.int (nI i), .int u, .int w]) (rest := rest) hx hb hml hown hG (c_X6_hills l hlf D cy ad ns nt nr hL M V hA (nI i) u w) cf_X6_hills hlink (PX.preV hG hX (hGx.at hS) hw.o rfl hw) ⟨rfl, rfl, Nat.le_trans (Nat.le_of_ble_eq_true rfl) hR1, Nat.le_trans (Nat.le_of_ble_eq_true rfl) hR2⟩ rfl rfl hrest ⟨hR3, hR4⟩ hdg) hS hA0 (fun r H1 locs1 hp z1 oq1 hS1 => ?_)
  obtain ⟨-, i2, hi2, ei2, er, hw1⟩ := hp
  obtain rfl : i2 = i := (nI_eq (by omega) (by omega)).mp ei2.symm
  rw [er, hv9]
  exact kk H1 locs1 hw1 z1 hS1
theorem q_air {i : Nat} {u : Int32} (b : Bool) {v9 : Int32} (K : QX D cy p l s m c cc A0 ad ns nt nr) (hml : c.maxLocals = ls.size) (hw : CW D cy ad ns nt nr M V H) (hS : va_S A0 s.heap H locs) (hi : i < nr) (hu : bI (pOut u 0 9) = 0) (hv9 : M (30 + i) 8 = v9) (hlink : Cond.methodLink RL index yX6_air ∈ lw_tbl) (hR : RO R cells slots) (hrest : (rest.map fun v => v.category).sum ≤ 8) (hdg : decode cc pc = .ok (.invokevirtual index, 3))
    (kk : ∀ (H1 : Heap) (locs1 : List Loc), CW D cy ad ns nt nr (mset M (30 + i) (upd (upd (M (30 + i)) 8 u) 9 (bI b))) V H1 → H.size ≤ H1.size → va_S A0 s.heap H1 locs1 → W p l e R s m args below meth c H1 locs1 (cells + 1) (slots + 6) Q (F0 m (pc + 3) ls (.int v9 :: rest))) :
    W p l e R s m args below meth c H locs cells slots Q (F0 m pc ls (.int (bI b) :: .int u :: .int (nI i) :: .ref (ad 0) :: rest)) := by
  obtain ⟨⟨hx, hb, hown⟩, ⟨hG, hX, hGx⟩, ⟨hL, hA, hA0⟩, hlf⟩ := K
  obtain ⟨⟨hR1, hR2⟩, hR3, hR4⟩ := hR
  have h1 := hL.1
  have h2 := hL.2.1
  have h3 := hL.2.2
  refine kn_ui (kRng_z (by omega) hi hu) (kx_V (As := [.int (nI i), .int u, .int (bI b)]) (rest := rest) hx hb hml hown hG (c_X6_air l hlf D cy ad ns nt nr hL M V hA (nI i) u b) cf_X6_air hlink (PX.preV hG hX (hGx.at hS) hw.o rfl hw) ⟨rfl, rfl, Nat.le_trans (Nat.le_of_ble_eq_true rfl) hR1, Nat.le_trans (Nat.le_of_ble_eq_true rfl) hR2⟩ rfl rfl hrest ⟨hR3, hR4⟩ hdg) hS hA0 (fun r H1 locs1 hp z1 oq1 hS1 => ?_)
  obtain ⟨-, i2, hi2, ei2, er, hw1⟩ := hp
  obtain rfl : i2 = i := (nI_eq (by omega) (by omega)).mp ei2.symm
  rw [er, hv9]
  exact kk H1 locs1 hw1 z1 hS1
theorem q_alert {i : Nat} {u : Int32} {v9 : Int32} (K : QX D cy p l s m c cc A0 ad ns nt nr) (hml : c.maxLocals = ls.size) (hw : CW D cy ad ns nt nr M V H) (hS : va_S A0 s.heap H locs) (hi : i < nr) (hu : bI (pOut u 1 24) = 0) (hv9 : M (30 + i) 10 = v9) (hlink : Cond.methodLink RL index yX6_alert ∈ lw_tbl) (hR : RO R cells slots) (hrest : (rest.map fun v => v.category).sum ≤ 8) (hdg : decode cc pc = .ok (.invokevirtual index, 3))
    (kk : ∀ (H1 : Heap) (locs1 : List Loc), CW D cy ad ns nt nr (mset M (30 + i) (upd (M (30 + i)) 10 u)) V H1 → H.size ≤ H1.size → va_S A0 s.heap H1 locs1 → W p l e R s m args below meth c H1 locs1 (cells + 1) (slots + 6) Q (F0 m (pc + 3) ls (.int v9 :: rest))) :
    W p l e R s m args below meth c H locs cells slots Q (F0 m pc ls (.int u :: .int (nI i) :: .ref (ad 0) :: rest)) := by
  obtain ⟨⟨hx, hb, hown⟩, ⟨hG, hX, hGx⟩, ⟨hL, hA, hA0⟩, hlf⟩ := K
  obtain ⟨⟨hR1, hR2⟩, hR3, hR4⟩ := hR
  have h1 := hL.1
  have h2 := hL.2.1
  have h3 := hL.2.2
  refine kn_ui (kRng_z (by omega) hi hu) (kx_V (As := [.int (nI i), .int u]) (rest := rest) hx hb hml hown hG (c_X6_alert l hlf D cy ad ns nt nr hL M V hA (nI i) u) cf_X6_alert hlink (PX.preV hG hX (hGx.at hS) hw.o rfl hw) ⟨rfl, rfl, Nat.le_trans (Nat.le_of_ble_eq_true rfl) hR1, Nat.le_trans (Nat.le_of_ble_eq_true rfl) hR2⟩ rfl rfl hrest ⟨hR3, hR4⟩ hdg) hS hA0 (fun r H1 locs1 hp z1 oq1 hS1 => ?_)
  obtain ⟨-, i2, hi2, ei2, er, hw1⟩ := hp
  obtain rfl : i2 = i := (nI_eq (by omega) (by omega)).mp ei2.symm
  rw [er, hv9]
  exact kk H1 locs1 hw1 z1 hS1
theorem q_spoof {i : Nat} {u : Int32} {v9 : Int32} (K : QX D cy p l s m c cc A0 ad ns nt nr) (hml : c.maxLocals = ls.size) (hw : CW D cy ad ns nt nr M V H) (hS : va_S A0 s.heap H locs) (hi : i < nr) (hu : bI (pOut u (-30) 30) = 0) (hv9 : M (30 + i) 11 = v9) (hlink : Cond.methodLink RL index yX6_spoof ∈ lw_tbl) (hR : RO R cells slots) (hrest : (rest.map fun v => v.category).sum ≤ 8) (hdg : decode cc pc = .ok (.invokevirtual index, 3))
    (kk : ∀ (H1 : Heap) (locs1 : List Loc), CW D cy ad ns nt nr (mset M (30 + i) (upd (M (30 + i)) 11 u)) V H1 → H.size ≤ H1.size → va_S A0 s.heap H1 locs1 → W p l e R s m args below meth c H1 locs1 (cells + 1) (slots + 6) Q (F0 m (pc + 3) ls (.int v9 :: rest))) :
    W p l e R s m args below meth c H locs cells slots Q (F0 m pc ls (.int u :: .int (nI i) :: .ref (ad 0) :: rest)) := by
  obtain ⟨⟨hx, hb, hown⟩, ⟨hG, hX, hGx⟩, ⟨hL, hA, hA0⟩, hlf⟩ := K
  obtain ⟨⟨hR1, hR2⟩, hR3, hR4⟩ := hR
  have h1 := hL.1
  have h2 := hL.2.1
  have h3 := hL.2.2
  refine kn_ui (kRng_z (by omega) hi hu) (kx_V (As := [.int (nI i), .int u]) (rest := rest) hx hb hml hown hG (c_X6_spoof l hlf D cy ad ns nt nr hL M V hA (nI i) u) cf_X6_spoof hlink (PX.preV hG hX (hGx.at hS) hw.o rfl hw) ⟨rfl, rfl, Nat.le_trans (Nat.le_of_ble_eq_true rfl) hR1, Nat.le_trans (Nat.le_of_ble_eq_true rfl) hR2⟩ rfl rfl hrest ⟨hR3, hR4⟩ hdg) hS hA0 (fun r H1 locs1 hp z1 oq1 hS1 => ?_)
  obtain ⟨-, i2, hi2, ei2, er, hw1⟩ := hp
  obtain rfl : i2 = i := (nI_eq (by omega) (by omega)).mp ei2.symm
  rw [er, hv9]
  exact kk H1 locs1 hw1 z1 hS1
theorem q_refer {i : Nat} {u : Int32} {v9 : Int32} (K : QX D cy p l s m c cc A0 ad ns nt nr) (hml : c.maxLocals = ls.size) (hw : CW D cy ad ns nt nr M V H) (hS : va_S A0 s.heap H locs) (hi : i < nr) (hu : u = -1 ∨ ∃ q, q < nr ∧ u = nI q) (hne : ¬ u = nI i) (hv9 : M (30 + i) 12 = v9) (hlink : Cond.methodLink RL index yX6_refer ∈ lw_tbl) (hR : RO R cells slots) (hrest : (rest.map fun v => v.category).sum ≤ 8) (hdg : decode cc pc = .ok (.invokevirtual index, 3))
    (kk : ∀ (H1 : Heap) (locs1 : List Loc), CW D cy ad ns nt nr (mset M (30 + i) (upd (M (30 + i)) 12 u)) V H1 → H.size ≤ H1.size → va_S A0 s.heap H1 locs1 → W p l e R s m args below meth c H1 locs1 (cells + 1) (slots + 6) Q (F0 m (pc + 3) ls (.int v9 :: rest))) :
    W p l e R s m args below meth c H locs cells slots Q (F0 m pc ls (.int u :: .int (nI i) :: .ref (ad 0) :: rest)) := by
  obtain ⟨⟨hx, hb, hown⟩, ⟨hG, hX, hGx⟩, ⟨hL, hA, hA0⟩, hlf⟩ := K
  obtain ⟨⟨hR1, hR2⟩, hR3, hR4⟩ := hR
  have h1 := hL.1
  have h2 := hL.2.1
  have h3 := hL.2.2
  refine kn_ui (by
    unfold kRefer
    rw [if_pos (ix_0 (by omega) hi)]
    rcases hu with hu | ⟨q, hq, hu⟩
    · rw [if_pos hu, if_neg (fun h => hne h.symm)]
    · by_cases h : u = -1
      · rw [if_pos h, if_neg (fun h => hne h.symm)]
      · rw [if_neg h, if_pos (by rw [hu]; exact ix_0 (by omega) hq), if_neg (fun h => hne h.symm)]) (kx_V (As := [.int (nI i), .int u]) (rest := rest) hx hb hml hown hG (c_X6_refer l hlf D cy ad ns nt nr hL M V hA (nI i) u) cf_X6_refer hlink (PX.preV hG hX (hGx.at hS) hw.o rfl hw) ⟨rfl, rfl, Nat.le_trans (Nat.le_of_ble_eq_true rfl) hR1, Nat.le_trans (Nat.le_of_ble_eq_true rfl) hR2⟩ rfl rfl hrest ⟨hR3, hR4⟩ hdg) hS hA0 (fun r H1 locs1 hp z1 oq1 hS1 => ?_)
  obtain ⟨-, i2, hi2, ei2, er, hw1⟩ := hp
  obtain rfl : i2 = i := (nI_eq (by omega) (by omega)).mp ei2.symm
  rw [er, hv9]
  exact kk H1 locs1 hw1 z1 hS1
theorem q_pass {k : Nat} {u : Int32} {v9 : Int32} (K : QX D cy p l s m c cc A0 ad ns nt nr) (hml : c.maxLocals = ls.size) (hw : CW D cy ad ns nt nr M V H) (hS : va_S A0 s.heap H locs) (eu : u = nI k) (hk0 : 1 ≤ k) (hk : k ≤ 48) (hv9 : pPassN M ns k 0 0 = v9) (hlink : Cond.methodLink RL index yX6_pass ∈ lw_tbl) (hR : RO R cells slots) (hrest : (rest.map fun v => v.category).sum ≤ 8) (hdg : decode cc pc = .ok (.invokevirtual index, 3))
    (kk : ∀ (H1 : Heap) (locs1 : List Loc), CW D cy ad ns nt nr (pPassN M ns k) V H1 → H.size ≤ H1.size → va_S A0 s.heap H1 locs1 → W p l e R s m args below meth c H1 locs1 (cells + 1) (slots + 6) Q (F0 m (pc + 3) ls (.int v9 :: rest))) :
    W p l e R s m args below meth c H locs cells slots Q (F0 m pc ls (.int u :: .ref (ad 0) :: rest)) := by
  obtain ⟨⟨hx, hb, hown⟩, ⟨hG, hX, hGx⟩, ⟨hL, hA, hA0⟩, hlf⟩ := K
  obtain ⟨⟨hR1, hR2⟩, hR3, hR4⟩ := hR
  have h1 := hL.1
  have h2 := hL.2.1
  have h3 := hL.2.2
  refine kn_ui (kIn_z (by rw [eu]; exact (IR.of_nI (k := k) (a := 1) (b := 48) (by omega) (by omega) (by omega)).out (by decide) (by decide))) (kx_V (As := [.int u]) (rest := rest) hx hb hml hown hG (c_X6_pass l hlf D cy ad ns nt nr hL M V hA u) cf_X6_pass hlink (PX.preV hG hX (hGx.at hS) hw.o rfl hw) ⟨rfl, rfl, Nat.le_trans (Nat.le_of_ble_eq_true rfl) hR1, Nat.le_trans (Nat.le_of_ble_eq_true rfl) hR2⟩ rfl rfl hrest ⟨hR3, hR4⟩ hdg) hS hA0 (fun r H1 locs1 hp z1 oq1 hS1 => ?_)
  obtain ⟨-, k2, hk2, ek2, er, hw1⟩ := hp
  obtain rfl : k2 = k := (nI_eq (by omega) (by omega)).mp (ek2.symm.trans eu)
  rw [er, hv9]
  exact kk H1 locs1 hw1 z1 hS1
theorem q_observe {i : Nat} {v9 : Int32} (K : QX D cy p l s m c cc A0 ad ns nt nr) (hml : c.maxLocals = ls.size) (hw : CW D cy ad ns nt nr M V H) (hS : va_S A0 s.heap H locs) (hi : i < nr) (hne : ∀ i, i < nr → M (30 + i) 12 ≠ nI i) (ho : bI (pObsIn (M (50 + i)) (M 0 0)) = 0) (hv9 : obT M ns nr i V 10 = v9) (hlink : Cond.methodLink RL index yX6_observe ∈ lw_tbl) (hR : RO R cells slots) (hrest : (rest.map fun v => v.category).sum ≤ 8) (hdg : decode cc pc = .ok (.invokevirtual index, 3))
    (kk : ∀ (V2 : SX) (H1 : Heap) (locs1 : List Loc), CW D cy ad ns nt nr (mset (obM M ns nr i) (50 + i) (obT M ns nr i V)) V2 H1 → H.size ≤ H1.size → va_S A0 s.heap H1 locs1 → W p l e R s m args below meth c H1 locs1 (cells + 1) (slots + 6) Q (F0 m (pc + 3) ls (.int v9 :: rest))) :
    W p l e R s m args below meth c H locs cells slots Q (F0 m pc ls (.int (nI i) :: .ref (ad 0) :: rest)) := by
  obtain ⟨⟨hx, hb, hown⟩, ⟨hG, hX, hGx⟩, ⟨hL, hA, hA0⟩, hlf⟩ := K
  obtain ⟨⟨hR1, hR2⟩, hR3, hR4⟩ := hR
  have h1 := hL.1
  have h2 := hL.2.1
  have h3 := hL.2.2
  refine kn_ui (by unfold kObs; rw [if_pos (ix_0 (by omega) hi), nI_clamp (by omega), if_pos ho]) (kx_V (As := [.int (nI i)]) (rest := rest) hx hb hml hown hG (c_X6_observe l hlf D cy ad ns nt nr hL M V hA (nI i) hne) cf_X6_observe hlink (PX.preV hG hX (hGx.at hS) hw.o rfl hw) ⟨rfl, rfl, Nat.le_trans (Nat.le_of_ble_eq_true rfl) hR1, Nat.le_trans (Nat.le_of_ble_eq_true rfl) hR2⟩ rfl rfl hrest ⟨hR3, hR4⟩ hdg) hS hA0 (fun r H1 locs1 hp z1 oq1 hS1 => ?_)
  obtain ⟨-, i2, hi2, ei2, er, V2, hw1⟩ := hp
  obtain rfl : i2 = i := (nI_eq (by omega) (by omega)).mp ei2.symm
  rw [er, hv9]
  exact kk V2 H1 locs1 hw1 z1 hS1
end QM
