-- what isSo's walk stands on
theorem wKD_L_110 : Cond.constantDouble RL 110 (4627448617123184640 : UInt64) ∈ lw_tbl := List.mem_of_getElem? (i := 912) (by decide +kernel)
/-- a start of a method of the law's own: the machine's two statics lie outside of what it may write -/
def PI (D : va_G) (cy : Nat → ClassId) (av : List Value) (A : Nat → Prop) (I : Heap → Prop) : Array Value → State → Prop := fun v U => PC D cy av I v U ∧ XWD U ∧ GXA A U U.heap
theorem PI.blind {D : va_G} {cy : Nat → ClassId} {av : List Value} {A : Nat → Prop} {I : Heap → Prop} : FrameBlind (PI D cy av A I) := fun a U g mk h => ⟨PC.blind a U g mk h.1, XWD.vm (u := U) rfl h.2.1, GXA.moved (u := U) (Vm.Alike.refl U.vm) h.2.2⟩
theorem PI.preS {D : va_G} {cy : Nat → ClassId} {As : List Value} {A : Nat → Prop} {I : Heap → Prop} {s : State} {H : Heap} (hG : GK D cy s) (hX : XWD s) (hZ : GXA A s H) (hI : I H) : PreS s H (PI D cy As A I) As :=
  ⟨PI.blind, fun U hU hW => ⟨⟨rfl, hG.warm hW, by rw [hU]; exact hI⟩, hX.warm hW, by rw [hU]; exact GXA.moved hW.alike hZ⟩⟩
section KI
variable {l : Launch} {bytes : ByteArray} {maxL mc ms : Nat} {As : List Value} {D : va_G} {cy : Nat → ClassId} {y : MethodName} {ret : Option FieldType} {rm : Room} {A : Nat → Prop} {I : Heap → Prop} {Qc : Array Value → State → Outcome → State → Prop} {free : Addr → Prop}
theorem k_bodyI (hy : plainName y.cls = true) (hlen : (lg_sl As).length ≤ maxL)
    (body : ∀ (p : Program) (e : Env) (s : State) (m : MethodId) (below : List Frame) (meth : Method) (c : Code) (ls : Array Slot), p.tables.exec = Jvm.exec → c.code = bytes → c.maxLocals = ls.size → s.vm.findClass y.cls = some m.cls → meth.sig.returnType = ret → meth.locks = false → lv_has ls maxL (lv_args 0 As) → GK D cy s → I s.heap → XWD s → GXA A s s.heap →
      W p l e rm s m As.toArray below meth c s.heap [] 0 0 (MQ below Qc As.toArray s mc ms free) (F0 m 0 ls [])) : Met l y [.code y bytes maxL ret] rm (PI D cy As A I) Qc mc ms free := by
  refine Met.ofW (cc := bytes) (maxL := maxL) (ret := ret) hy rfl ?_
  intro p e s m args below meth c s₁ B hml hv
  obtain ⟨⟨rfl, hG, hI⟩, hX, hZ⟩ := hv
  have hl := lv_entry As hlen
  rw [lg_entry_eq]
  generalize (lg_sl As ++ List.replicate (maxL - (lg_sl As).length) Slot.unset).toArray = ls at hl ⊢
  exact body p e s m below meth c ls B.exec B.bytes (hml.trans hl.1.symm) (findClass_of_methodNamed B.named) B.returns B.notSynchronized hl hG hI hX hZ
end KI
section FI
variable {e n ns nt nr i : Nat} {M : Nat → Nat → Int32} {r g v t : Nat → Int32}
theorem f_r1 (h : JS e n r) : (r 0 - 1).toInt ≤ (r 0).toInt - 1 := by
  obtain ⟨p, q⟩ := h.1.1
  rw [i_sub (by rw [tI_1]; omega) (by rw [tI_1]; omega), tI_1]
  exact Int.le_refl _
theorem f_t0 (h : JS e n r) (hn : n < 2 ^ 31) (c : r 6 ≤ 0) : r 6 = 0 ∧ r 7 = -1 ∧ r 8 = -1 := by
  obtain ⟨-, ⟨k, hk, ek⟩, h3, -⟩ := h
  rcases h3 with h3 | ⟨h3, -⟩
  · exact h3
  · rw [ek] at c h3
    have : k ≤ 0 := (nI_leI (a := k) (b := 0) (by omega) (by decide)).mp c
    exact absurd (show nI k = 0 by rw [show k = 0 by omega]; exact nI_0) h3
theorem f_t1 (h : JS e n r) (hn : n < 2 ^ 31) (c : ¬ r 6 ≤ 0) : ¬ r 6 = 0 ∧ (∃ q, q ≤ e ∧ r 7 = nI q) ∧ IR (r 8) 0 47 := by
  obtain ⟨-, -, h3, -⟩ := h
  rcases h3 with h3 | h3
  · exact absurd (by rw [h3.1]; decide) c
  · exact h3
theorem f_nh {ep : Int32} (h : r 6 = 0) : ¬ (if bI (pHolds r ep) = 0 then (0 : Int32) else 1) = 1 := by
  have h1 : pHolds r ep = false := by
    unfold pHolds
    rw [if_pos (by rw [h]; decide)]
  rw [h1]
  decide
theorem f_1h {b : Bool} (h : (if bI b = 0 then (0 : Int32) else 1) = 1) : ¬ bI b = 0 := fun q => by
  rw [if_pos q] at h
  exact absurd h (by decide)
theorem f_age {ep : Int32} (h : JS e n r) (he : e ≤ 2000) (hep : ep = nI e) (hh : ¬ bI (pHolds r ep) = 0) : ep - r 7 ≤ 12 := by
  rw [hep] at hh ⊢
  obtain ⟨-, q, hq, eq, h12⟩ := f_holds h he hh
  have e12 : (12 : Int32).toInt = 12 := by decide
  rw [eq, Int32.le_iff_toInt_le, i_sub (by rw [nI_toInt (by omega), nI_toInt (by omega)]; omega) (by rw [nI_toInt (by omega), nI_toInt (by omega)]; omega), nI_toInt (by omega), nI_toInt (by omega), e12]
  omega
theorem f_hl {k : Nat} (h8 : ns ≤ 8) (hk : k < ns) (h : pSet v M 0 ns >>> (nI k &&& 31) &&& 1 = 1) : ¬ (if M (10 + k) 5 = 0 then (0 : Int32) else 1) = 0 := by
  have h1 : lBit (pSet v M 0 ns) k = 1 := h
  rw [pSet_bit h8 hk] at h1
  have h2 : ¬ M (10 + k) 5 = 0 := fun q => by
    have h3 : pSee v (M (10 + k)) 0 = false := by
      unfold pSee
      rw [if_pos q]
    rw [h3] at h1
    exact absurd h1 (by decide)
  rw [if_neg h2]
  decide
theorem f_w0 (h : JG n g) (hn : n ≤ 60) (c : (if g 0 = 0 then -1 else g 7) ≤ 0) : g 0 = 0 := by
  rcases h.1.1 with q | q
  · exact q
  · obtain ⟨-, -, -, a, b, a1, a2, -, e7, -⟩ := h.2.2.1 q
    rw [if_neg (by rw [q]; decide), e7] at c
    have := (nI_leI (a := a) (b := 0) (by omega) (by decide)).mp c
    omega
theorem f_w1 (h : JG n g) (c : ¬ (if g 0 = 0 then -1 else g 7) ≤ 0) : g 0 = 1 := by
  rcases h.1.1 with q | q
  · rw [if_pos q] at c
    exact absurd (by decide) c
  · exact q
theorem f_0of {x : Int32} (c : (if x = 0 then (0 : Int32) else 1) = 0) : x = 0 := by
  by_cases q : x = 0
  · exact q
  · rw [if_neg q] at c
    exact absurd c (by decide)
theorem f_1of {x : Int32} (h : x = 0 ∨ x = 1) (c : (if x = 0 then (0 : Int32) else 1) = 1) : x = 1 := by
  rcases h with q | q
  · rw [if_pos q] at c
    exact absurd c (by decide)
  · exact q
theorem tg_m (h : g 0 = 0) : pTellG g 0 = -1 := by
  show (if g 0 = 0 then -1 else pTellS g 0) = -1
  rw [if_pos h]
theorem tg_0 (h : ¬ g 0 = 0) : pTellG g 0 = g 3 := by
  show (if g 0 = 0 then -1 else pTellS g 0) = g 3
  rw [if_neg h]
  rfl
theorem tg_1 (h : ¬ g 0 = 0) : pTellG g 1 = g 4 := by
  show (if g 0 = 0 then -1 else pTellS g 1) = g 4
  rw [if_neg h]
  rfl
theorem tg_2 (h : ¬ g 0 = 0) : pTellG g 2 = g 5 := by
  show (if g 0 = 0 then -1 else pTellS g 2) = g 5
  rw [if_neg h]
  rfl
theorem tg_3 (h : ¬ g 0 = 0) : pTellG g 3 = g 6 := by
  show (if g 0 = 0 then -1 else pTellS g 3) = g 6
  rw [if_neg h]
  rfl
theorem tg_4 (h : ¬ g 0 = 0) : pTellG g 4 = g 7 := by
  show (if g 0 = 0 then -1 else pTellS g 4) = g 7
  rw [if_neg h]
  rfl
theorem tg_7 (h : ¬ g 0 = 0) : pTellG g 7 = g 9 := by
  show (if g 0 = 0 then -1 else pTellS g 7) = g 9
  rw [if_neg h]
  rfl
theorem f_sum {a b c d : Int32} (h : d = a - b - 10 * c) : a = b + 10 * c + d := by
  rw [h, Int32.sub_eq_add_neg, Int32.sub_eq_add_neg]
  rw [show b + 10 * c + (a + -b + -(10 * c)) = a + (b + -b) + (10 * c + -(10 * c)) by ac_rfl, Int32.add_right_neg, Int32.add_right_neg, Int32.add_zero, Int32.add_zero]
theorem f_nn {x : Int32} (h : 0 ≤ x.toInt) : ¬ x < 0 := by
  rw [Int32.lt_iff_toInt_lt, tI_0]
  omega
theorem f_far (hv : JR nr i v) (ht : JT e n t) : IR (pErrAt t (v 4) (v 5)) 0 24 := by
  obtain ⟨-, -, -, -, v4, v5, -⟩ := hv
  obtain ⟨-, -, -, ⟨t5, t6⟩, -⟩ := ht
  unfold pErrAt
  split
  · exact IR.lit (by decide)
  · exact pRange_IR t5 (t6.bd (by omega) (by omega)) v4 (v5.bd (by omega) (by omega)) (by decide) (by decide)
end FI
-- isSo answers true where all holds
set_option maxHeartbeats 8000000 in
set_option maxRecDepth 100000 in
theorem c_L_isSo (l : Launch) (hlf : l.stackTraces = false) (D : va_G) (cy : Nat → ClassId) (ad : Nat → Nat) (ns nt nr : Nat) (M : Nat → Nat → Int32) (V : SX) (hA : AI ad ns nt nr) {eW nW : Nat} (hW : JW eW nW ns nt nr M) : Met l yL_isSo [.code yL_isSo cL_isSo 11 (some .boolean)] ({ frames := 7, cells := 800, slots := 4800, locals := 200 } : Room) (PI D cy [.ref (ad 0), .int (nI ns), .int (nI nr)] (CA ad ns nt nr) (fun H => CW D cy ad ns nt nr M V H)) (UQi (CA ad ns nt nr) (fun r H => r = 1 ∧ CW D cy ad ns nt nr M V H)) 800 4800 (CA ad ns nt nr) := by
  refine k_bodyI (by decide +kernel) (Nat.le_of_ble_eq_true rfl) ?_
  intro p e s m below meth c ls hx hb hml hown hr hlk hl hG hI hX hGx
  have hml9 : c.maxLocals = 11 := hml.trans hl.1
  have hl : lv_has ls 11 [(0, .ref (ad 0)), (1, .int (nI ns)), (2, .int (nI nr))] := hl
  have hL := hW.1.1
  have hL8 := hL.1
  have hL3 := hL.2.2
  have heW := hW.1.2.1
  have hnW := hW.1.2.2
  have hS : va_S (CA ad ns nt nr) s.heap s.heap [] := va_S.rf
  have hw := hI
  have hK : QX D cy p l s m c cL_isSo (CA ad ns nt nr) ad ns nt nr := ⟨⟨hx, hb, hown⟩, ⟨hG, hX, hGx⟩, ⟨hL, hA, fun _ h => h⟩, hlf⟩
  have hR1 : 7 ≤ (7 : Nat) := Nat.le_refl _
  have hR2 : 160 ≤ (200 : Nat) := by decide
  refine lv_iconst (v := 0) hx hb dL_isSo_0 (by decide) ?_
  refine lv_istore_n (lv' := [(3, .int 0), (0, .ref (ad 0)), (1, .int (nI ns)), (2, .int (nI nr))]) hx hb dL_isSo_1 rfl hl (by decide) rfl (fun ls hl => ?_)
  have hml : c.maxLocals = ls.size := hml9.trans hl.1.symm
  refine lv_iconst (v := 0) hx hb dL_isSo_2 (by decide) ?_
  refine lv_istore (lv' := [(4, .int 0), (3, .int 0), (0, .ref (ad 0)), (1, .int (nI ns)), (2, .int (nI nr))]) hx hb dL_isSo_3 hl (by decide) rfl (fun ls hl => ?_)
  have hml : c.maxLocals = ls.size := hml9.trans hl.1.symm
  refine lv_iconst (v := 0) hx hb dL_isSo_5 (by decide) ?_
  refine lv_istore (lv' := [(5, .int 0), (4, .int 0), (3, .int 0), (0, .ref (ad 0)), (1, .int (nI ns)), (2, .int (nI nr))]) hx hb dL_isSo_6 hl (by decide) rfl (fun ls hl => ?_)
  have hml : c.maxLocals = ls.size := hml9.trans hl.1.symm
  refine lv_iconst (v := 0) hx hb dL_isSo_8 (by decide) ?_
  refine lv_istore (lv' := [(6, .int 0), (5, .int 0), (4, .int 0), (3, .int 0), (0, .ref (ad 0)), (1, .int (nI ns)), (2, .int (nI nr))]) hx hb dL_isSo_9 hl (by decide) rfl (fun ls hl => ?_)
  have hml : c.maxLocals = ls.size := hml9.trans hl.1.symm
  have lp11_1 : ∀ (n9 : Nat) (k : Nat) (a3 a4 a5 : Int32) (H : Heap) (locs : List Loc) (cs sl : Nat), ns + 1 - k ≤ n9 → k ≤ ns → a3 = pSumS M 4 k → a4 = pSumS M 5 k → a5 = pSumS M 6 k → cs = 20 * k → sl = 120 * k → CW D cy ad ns nt nr M V H → va_S (CA ad ns nt nr) s.heap H locs →  ∀ ls : Array Slot, lv_has ls 11 [(6, .int (nI k)), (5, .int a5), (4, .int a4), (3, .int a3), (0, .ref (ad 0)), (1, .int (nI ns)), (2, .int (nI nr))] → W p l e ({ frames := 7, cells := 800, slots := 4800, locals := 200 } : Room) s m ([.ref (ad 0), .int (nI ns), .int (nI nr)] : List Value).toArray below meth c H locs cs sl (MQ below (UQi (CA ad ns nt nr) (fun r H => r = 1 ∧ CW D cy ad ns nt nr M V H)) ([.ref (ad 0), .int (nI ns), .int (nI nr)] : List Value).toArray s 800 4800 (CA ad ns nt nr)) (F0 m 11 ls []) := by
    intro n9
    induction n9 with
    | zero =>
      intro k a3 a4 a5 H locs cs sl h9
      intro hk; exact absurd h9 (by omega)
    | succ n9 ih9 =>
      intro k a3 a4 a5 H locs cs sl hn9 hk e3 e4 e5 ecs esl hw hS ls hl
      have hml : c.maxLocals = ls.size := hml9.trans hl.1.symm
      refine lv_iload hx hb dL_isSo_11 (lv_at hl 0 rfl) ?_
      refine lv_iload_n hx hb dL_isSo_13 rfl (lv_at hl 5 rfl) ?_
      refine lv_icmp_ge (tgt := 255) hx hb dL_isSo_14 (by decide) (fun c_14 => ?_) (fun c_14 => ?_)
      · have ek : k = ns := Nat.le_antisymm hk ((nI_leI (by omega) (by omega)).mp c_14)
        rw [ek] at e3 e4 e5 ecs esl
        refine lv_iconst (v := 0) hx hb dL_isSo_255 (by decide) ?_
        refine lv_istore (lv' := [(6, .int 0), (5, .int a5), (4, .int a4), (3, .int a3), (0, .ref (ad 0)), (1, .int (nI ns)), (2, .int (nI nr))]) hx hb dL_isSo_256 hl (by decide) rfl (fun ls hl => ?_)
        have hml : c.maxLocals = ls.size := hml9.trans hl.1.symm
        refine lv_iconst (v := 0) hx hb dL_isSo_258 (by decide) ?_
        refine lv_istore (lv' := [(7, .int 0), (6, .int 0), (5, .int a5), (4, .int a4), (3, .int a3), (0, .ref (ad 0)), (1, .int (nI ns)), (2, .int (nI nr))]) hx hb dL_isSo_259 hl (by decide) rfl (fun ls hl => ?_)
        have hml : c.maxLocals = ls.size := hml9.trans hl.1.symm
        have lp261_2 : ∀ (n9 : Nat) (ar : Nat) (a6 : Int32) (H : Heap) (locs : List Loc) (cs sl : Nat), nr + 1 - ar ≤ n9 → ar ≤ nr → a6 = pSumR M 8 ar → cs = 160 + 210 * ar → sl = 960 + 1260 * ar → CW D cy ad ns nt nr M V H → va_S (CA ad ns nt nr) s.heap H locs →  ∀ ls : Array Slot, lv_has ls 11 [(7, .int (nI ar)), (6, .int a6), (5, .int a5), (4, .int a4), (3, .int a3), (0, .ref (ad 0)), (1, .int (nI ns)), (2, .int (nI nr))] → W p l e ({ frames := 7, cells := 800, slots := 4800, locals := 200 } : Room) s m ([.ref (ad 0), .int (nI ns), .int (nI nr)] : List Value).toArray below meth c H locs cs sl (MQ below (UQi (CA ad ns nt nr) (fun r H => r = 1 ∧ CW D cy ad ns nt nr M V H)) ([.ref (ad 0), .int (nI ns), .int (nI nr)] : List Value).toArray s 800 4800 (CA ad ns nt nr)) (F0 m 261 ls []) := by
          intro n9
          induction n9 with
          | zero =>
            intro ar a6 H locs cs sl h9
            intro hk; exact absurd h9 (by omega)
          | succ n9 ih9 =>
            intro ar a6 H locs cs sl hn9 har e6 ecs2 esl2 hw hS ls hl
            have hml : c.maxLocals = ls.size := hml9.trans hl.1.symm
            have ihr9 := ih9
            refine lv_iload hx hb dL_isSo_261 (lv_at hl 0 rfl) ?_
            refine lv_iload_n hx hb dL_isSo_263 rfl (lv_at hl 7 rfl) ?_
            refine lv_icmp_ge (tgt := 686) hx hb dL_isSo_264 (by decide) (fun c_264 => ?_) (fun c_264 => ?_)
            · have ek : ar = nr := Nat.le_antisymm har ((nI_leI (by omega) (by omega)).mp c_264)
              rw [ek] at e6
              refine lv_aload_n hx hb dL_isSo_686 rfl (lv_at hl 5 rfl) ?_
              refine lv_iconst (v := 4) hx hb dL_isSo_687 (by decide) ?_
              refine q_many (v := pSumS M 4 ns) hK hml hw hS  (by decide) rfl wM_L_33 ⟨⟨hR1, hR2⟩, show cs + 1 ≤ 800 by omega, show sl + 6 ≤ 4800 by omega⟩ (Nat.le_of_ble_eq_true rfl) dL_isSo_688 (fun H locs hw z1 hS => ?_)
              refine lv_iload_n hx hb dL_isSo_691 rfl (lv_at hl 4 rfl) ?_
              refine lv_icmp_ne (tgt := 731) hx hb dL_isSo_692 (by decide) (fun q9 => absurd e3.symm q9) (fun _ => ?_)
              refine lv_aload_n hx hb dL_isSo_695 rfl (lv_at hl 5 rfl) ?_
              refine lv_iconst (v := 5) hx hb dL_isSo_696 (by decide) ?_
              refine q_many (v := pSumS M 5 ns) hK hml hw hS  (by decide) rfl wM_L_33 ⟨⟨hR1, hR2⟩, show (cs + 1) + 1 ≤ 800 by omega, show (sl + 6) + 6 ≤ 4800 by omega⟩ (Nat.le_of_ble_eq_true rfl) dL_isSo_697 (fun H locs hw z1 hS => ?_)
              refine lv_iload hx hb dL_isSo_700 (lv_at hl 3 rfl) ?_
              refine lv_icmp_ne (tgt := 731) hx hb dL_isSo_702 (by decide) (fun q9 => absurd e4.symm q9) (fun _ => ?_)
              refine lv_aload_n hx hb dL_isSo_705 rfl (lv_at hl 5 rfl) ?_
              refine lv_bipush (v := 6) hx hb dL_isSo_706 (by decide) ?_
              refine q_many (v := pSumS M 6 ns) hK hml hw hS  (by decide) rfl wM_L_33 ⟨⟨hR1, hR2⟩, show (cs + 2) + 1 ≤ 800 by omega, show (sl + 12) + 6 ≤ 4800 by omega⟩ (Nat.le_of_ble_eq_true rfl) dL_isSo_708 (fun H locs hw z1 hS => ?_)
              refine lv_iload hx hb dL_isSo_711 (lv_at hl 2 rfl) ?_
              refine lv_icmp_ne (tgt := 731) hx hb dL_isSo_713 (by decide) (fun q9 => absurd e5.symm q9) (fun _ => ?_)
              refine lv_aload_n hx hb dL_isSo_716 rfl (lv_at hl 5 rfl) ?_
              refine lv_bipush (v := 8) hx hb dL_isSo_717 (by decide) ?_
              refine q_many (v := pSumR M 8 nr) hK hml hw hS  (by decide) rfl wM_L_33 ⟨⟨hR1, hR2⟩, show (cs + 3) + 1 ≤ 800 by omega, show (sl + 18) + 6 ≤ 4800 by omega⟩ (Nat.le_of_ble_eq_true rfl) dL_isSo_719 (fun H locs hw z1 hS => ?_)
              refine lv_iload hx hb dL_isSo_722 (lv_at hl 1 rfl) ?_
              refine lv_icmp_ne (tgt := 731) hx hb dL_isSo_724 (by decide) (fun q9 => absurd e6.symm q9) (fun _ => ?_)
              refine lv_iconst (v := 1) hx hb dL_isSo_727 (by decide) ?_
              refine lv_goto (tgt := 732) hx hb dL_isSo_728 (by decide) ?_
              refine W.widen (k := 800) (n := 4800) (by omega) (by omega) ?_
              exact ke_uz (b := true) hx hb hr hlk hS dL_isSo_732 rfl ⟨rfl, hw⟩
            · have hlar : ar < nr := by
                rcases Nat.lt_or_ge ar nr with q9 | q9
                · exact q9
                · exact absurd ((nI_leI (by omega) (by omega)).mpr q9) c_264
              obtain ⟨hv, ht, hgg⟩ := hW.2.2.2.2 ar hlar
              refine lv_iload hx hb dL_isSo_267 (lv_at hl 1 rfl) ?_
              refine lv_aload_n hx hb dL_isSo_269 rfl (lv_at hl 5 rfl) ?_
              refine lv_iload hx hb dL_isSo_270 (lv_at hl 0 rfl) ?_
              refine lv_bipush (v := 11) hx hb dL_isSo_272 (by decide) ?_
              refine q_ofReceiver (v := M (50 + ar) 11) hK hml hw hS hlar (by decide) rfl wM_L_65 ⟨⟨hR1, hR2⟩, show cs + 1 ≤ 800 by omega, show sl + 6 ≤ 4800 by omega⟩ (Nat.le_of_ble_eq_true rfl) dL_isSo_274 (fun H locs hw z1 hS => ?_)
              refine lv_iadd hx hb dL_isSo_277 ?_
              refine lv_istore (lv' := [(6, .int (a6 + (M (50 + ar) 11))), (7, .int (nI ar)), (5, .int a5), (4, .int a4), (3, .int a3), (0, .ref (ad 0)), (1, .int (nI ns)), (2, .int (nI nr))]) hx hb dL_isSo_278 hl (by decide) rfl (fun ls hl => ?_)
              have hml : c.maxLocals = ls.size := hml9.trans hl.1.symm
              refine lv_iconst (v := 0) hx hb dL_isSo_280 (by decide) ?_
              refine lv_istore (lv' := [(8, .int 0), (6, .int (a6 + (M (50 + ar) 11))), (7, .int (nI ar)), (5, .int a5), (4, .int a4), (3, .int a3), (0, .ref (ad 0)), (1, .int (nI ns)), (2, .int (nI nr))]) hx hb dL_isSo_281 hl (by decide) rfl (fun ls hl => ?_)
              have hml : c.maxLocals = ls.size := hml9.trans hl.1.symm
              refine lv_iconst (v := 0) hx hb dL_isSo_283 (by decide) ?_
              refine lv_istore (lv' := [(9, .int 0), (8, .int 0), (6, .int (a6 + (M (50 + ar) 11))), (7, .int (nI ar)), (5, .int a5), (4, .int a4), (3, .int a3), (0, .ref (ad 0)), (1, .int (nI ns)), (2, .int (nI nr))]) hx hb dL_isSo_284 hl (by decide) rfl (fun ls hl => ?_)
              have hml : c.maxLocals = ls.size := hml9.trans hl.1.symm
              have lp286_3 : ∀ (n9 : Nat) (k : Nat) (a8 : Int32) (H : Heap) (locs : List Loc) (cs3 sl3 : Nat), ns + 1 - k ≤ n9 → k ≤ ns → a8 = lSum (pSet (M (30 + ar)) M 0 ns) k → cs3 = cs + 1 + 24 * k → sl3 = sl + 6 + 144 * k → CW D cy ad ns nt nr M V H → va_S (CA ad ns nt nr) s.heap H locs →  ∀ ls : Array Slot, lv_has ls 11 [(9, .int (nI k)), (8, .int a8), (6, .int (a6 + (M (50 + ar) 11))), (7, .int (nI ar)), (5, .int a5), (4, .int a4), (3, .int a3), (0, .ref (ad 0)), (1, .int (nI ns)), (2, .int (nI nr))] → W p l e ({ frames := 7, cells := 800, slots := 4800, locals := 200 } : Room) s m ([.ref (ad 0), .int (nI ns), .int (nI nr)] : List Value).toArray below meth c H locs cs3 sl3 (MQ below (UQi (CA ad ns nt nr) (fun r H => r = 1 ∧ CW D cy ad ns nt nr M V H)) ([.ref (ad 0), .int (nI ns), .int (nI nr)] : List Value).toArray s 800 4800 (CA ad ns nt nr)) (F0 m 286 ls []) := by
                intro n9
                induction n9 with
                | zero =>
                  intro k a8 H locs cs3 sl3 h9
                  intro hk; exact absurd h9 (by omega)
                | succ n9 ih9 =>
                  intro k a8 H locs cs3 sl3 hn9 hk e8 ecs3 esl3 hw hS ls hl
                  have hml : c.maxLocals = ls.size := hml9.trans hl.1.symm
                  refine lv_iload hx hb dL_isSo_286 (lv_at hl 0 rfl) ?_
                  refine lv_iload_n hx hb dL_isSo_288 rfl (lv_at hl 8 rfl) ?_
                  refine lv_icmp_ge (tgt := 579) hx hb dL_isSo_289 (by decide) (fun c_289 => ?_) (fun c_289 => ?_)
                  · have ek : k = ns := Nat.le_antisymm hk ((nI_leI (by omega) (by omega)).mp c_289)
                    rw [ek] at e8
                    refine lv_aload_n hx hb dL_isSo_579 rfl (lv_at hl 7 rfl) ?_
                    refine lv_iload hx hb dL_isSo_580 (lv_at hl 3 rfl) ?_
                    refine lv_iconst (v := 2) hx hb dL_isSo_582 (by decide) ?_
                    refine q_ofReceiver (v := pBits (pSet (M (30 + ar)) M 0 ns)) hK hml hw hS hlar (by decide) rfl wM_L_65 ⟨⟨hR1, hR2⟩, show cs3 + 1 ≤ 800 by omega, show sl3 + 6 ≤ 4800 by omega⟩ (Nat.le_of_ble_eq_true rfl) dL_isSo_583 (fun H locs hw z1 hS => ?_)
                    refine lv_iload hx hb dL_isSo_586 (lv_at hl 1 rfl) ?_
                    refine lv_icmp_ne (tgt := 678) hx hb dL_isSo_588 (by decide) (fun q9 => absurd ((pSet_sum hL8).trans e8.symm) q9) (fun _ => ?_)
                    refine lv_aload_n hx hb dL_isSo_591 rfl (lv_at hl 7 rfl) ?_
                    refine lv_iload hx hb dL_isSo_592 (lv_at hl 3 rfl) ?_
                    refine lv_iconst (v := 5) hx hb dL_isSo_594 (by decide) ?_
                    refine q_ofReceiver (v := M (50 + ar) 5) hK hml hw hS hlar (by decide) rfl wM_L_65 ⟨⟨hR1, hR2⟩, show (cs3 + 1) + 1 ≤ 800 by omega, show (sl3 + 6) + 6 ≤ 4800 by omega⟩ (Nat.le_of_ble_eq_true rfl) dL_isSo_595 (fun H locs hw z1 hS => ?_)
                    refine k_mabs hx hb hml hown hG wM_L_78 (Nat.le_of_ble_eq_true rfl) (Nat.le_of_ble_eq_true rfl) (show (cs3 + 2) ≤ 800 by omega) (show (sl3 + 12) ≤ 4800 by omega) dL_isSo_598 ?_
                    refine lv_bipush (v := 12) hx hb dL_isSo_601 (by decide) ?_
                    refine lv_icmp_gt (tgt := 678) hx hb dL_isSo_603 (by decide) (fun q9 => absurd q9 ((pAbs_IR ht.2.2.2.1.1 (by decide)).ngt (by decide))) (fun _ => ?_)
                    refine lv_aload_n hx hb dL_isSo_606 rfl (lv_at hl 7 rfl) ?_
                    refine lv_iload hx hb dL_isSo_607 (lv_at hl 3 rfl) ?_
                    refine lv_bipush (v := 6) hx hb dL_isSo_609 (by decide) ?_
                    refine q_ofReceiver (v := M (50 + ar) 6) hK hml hw hS hlar (by decide) rfl wM_L_65 ⟨⟨hR1, hR2⟩, show (cs3 + 2) + 1 ≤ 800 by omega, show (sl3 + 12) + 6 ≤ 4800 by omega⟩ (Nat.le_of_ble_eq_true rfl) dL_isSo_611 (fun H locs hw z1 hS => ?_)
                    refine lv_if_lt (tgt := 678) hx hb dL_isSo_614 (by decide) (fun q9 => absurd q9 (ht.2.2.2.1.2.nlt (by decide))) (fun _ => ?_)
                    refine lv_aload_n hx hb dL_isSo_617 rfl (lv_at hl 7 rfl) ?_
                    refine lv_iload hx hb dL_isSo_618 (lv_at hl 3 rfl) ?_
                    refine lv_bipush (v := 6) hx hb dL_isSo_620 (by decide) ?_
                    refine q_ofReceiver (v := M (50 + ar) 6) hK hml hw hS hlar (by decide) rfl wM_L_65 ⟨⟨hR1, hR2⟩, show (cs3 + 3) + 1 ≤ 800 by omega, show (sl3 + 18) + 6 ≤ 4800 by omega⟩ (Nat.le_of_ble_eq_true rfl) dL_isSo_622 (fun H locs hw z1 hS => ?_)
                    refine lv_bipush (v := 12) hx hb dL_isSo_625 (by decide) ?_
                    refine lv_icmp_gt (tgt := 678) hx hb dL_isSo_627 (by decide) (fun q9 => absurd q9 (ht.2.2.2.1.2.ngt (by decide))) (fun _ => ?_)
                    refine lv_aload_n hx hb dL_isSo_630 rfl (lv_at hl 7 rfl) ?_
                    refine lv_iload hx hb dL_isSo_631 (lv_at hl 3 rfl) ?_
                    refine lv_bipush (v := 8) hx hb dL_isSo_633 (by decide) ?_
                    refine q_ofReceiver (v := M (50 + ar) 8) hK hml hw hS hlar (by decide) rfl wM_L_65 ⟨⟨hR1, hR2⟩, show (cs3 + 4) + 1 ≤ 800 by omega, show (sl3 + 24) + 6 ≤ 4800 by omega⟩ (Nat.le_of_ble_eq_true rfl) dL_isSo_635 (fun H locs hw z1 hS => ?_)
                    refine lv_if_lt (tgt := 678) hx hb dL_isSo_638 (by decide) (fun q9 => absurd q9 (f_nn ht.2.2.2.2.1)) (fun _ => ?_)
                    refine lv_aload_n hx hb dL_isSo_641 rfl (lv_at hl 7 rfl) ?_
                    refine lv_iload hx hb dL_isSo_642 (lv_at hl 3 rfl) ?_
                    refine lv_bipush (v := 13) hx hb dL_isSo_644 (by decide) ?_
                    refine q_ofReceiver (v := pErrAt (M (50 + ar)) (M (30 + ar) 4) (M (30 + ar) 5)) hK hml hw hS hlar (by decide) rfl wM_L_65 ⟨⟨hR1, hR2⟩, show (cs3 + 5) + 1 ≤ 800 by omega, show (sl3 + 30) + 6 ≤ 4800 by omega⟩ (Nat.le_of_ble_eq_true rfl) dL_isSo_646 (fun H locs hw z1 hS => ?_)
                    refine lv_bipush (v := 24) hx hb dL_isSo_649 (by decide) ?_
                    refine lv_icmp_gt (tgt := 678) hx hb dL_isSo_651 (by decide) (fun q9 => absurd q9 ((f_far hv ht).ngt (by decide))) (fun _ => ?_)
                    refine lv_aload_n hx hb dL_isSo_654 rfl (lv_at hl 7 rfl) ?_
                    refine lv_iload hx hb dL_isSo_655 (lv_at hl 3 rfl) ?_
                    refine q_meanError (v := pMean (M (50 + ar))) hK hml hw hS hlar rfl wM_L_106 ⟨⟨hR1, hR2⟩, show (cs3 + 6) + 1 ≤ 800 by omega, show (sl3 + 36) + 6 ≤ 4800 by omega⟩ (Nat.le_of_ble_eq_true rfl) dL_isSo_657 (fun H locs hw z1 hS => ?_)
                    refine lv_dconst0 hx hb dL_isSo_660 ?_
                    refine lv_dcmp hx hb dL_isSo_661 ?_
                    refine lv_if_lt (tgt := 678) hx hb dL_isSo_662 (by decide) (fun q9 => absurd q9 (mean_f ht hW.1.2.2).1) (fun _ => ?_)
                    refine lv_aload_n hx hb dL_isSo_665 rfl (lv_at hl 7 rfl) ?_
                    refine lv_iload hx hb dL_isSo_666 (lv_at hl 3 rfl) ?_
                    refine q_meanError (v := pMean (M (50 + ar))) hK hml hw hS hlar rfl wM_L_106 ⟨⟨hR1, hR2⟩, show (cs3 + 7) + 1 ≤ 800 by omega, show (sl3 + 42) + 6 ≤ 4800 by omega⟩ (Nat.le_of_ble_eq_true rfl) dL_isSo_668 (fun H locs hw z1 hS => ?_)
                    refine lv_ldc2d hx hb hown (hG.w wKD_L_110 rfl) dL_isSo_671 ?_
                    refine lv_dcmp hx hb dL_isSo_674 ?_
                    refine lv_if_le (tgt := 680) hx hb dL_isSo_675 (by decide) (fun _ => ?_) (fun q9 => absurd (mean_f ht hW.1.2.2).2 q9)
                    refine lv_iinc (v := (nI (ar + 1))) (lv' := [(7, .int (nI (ar + 1))), (9, .int (nI k)), (8, .int a8), (6, .int (a6 + (M (50 + ar) 11))), (5, .int a5), (4, .int a4), (3, .int a3), (0, .ref (ad 0)), (1, .int (nI ns)), (2, .int (nI nr))]) hx hb dL_isSo_680 hl (k := 3) rfl ((nI_succ ar).symm) (by decide) rfl (fun ls hl => ?_)
                    have hml : c.maxLocals = ls.size := hml9.trans hl.1.symm
                    refine lv_goto (tgt := 261) hx hb dL_isSo_683 (by decide) ?_
                    refine W.widen (k := 160 + 210 * (ar + 1)) (n := 960 + 1260 * (ar + 1)) (by omega) (by omega) ?_
                    exact ihr9 (ar + 1) (a6 + (M (50 + ar) 11)) _ _ (160 + 210 * (ar + 1)) (960 + 1260 * (ar + 1)) (by omega) hlar (by rw [e6, pSumR_s]; rfl) rfl rfl hw hS ls (lv_sub hl [0, 3, 4, 5, 6, 7, 8, 9] rfl)
                  · have hlk : k < ns := by
                      rcases Nat.lt_or_ge k ns with q9 | q9
                      · exact q9
                      · exact absurd ((nI_leI (by omega) (by omega)).mpr q9) c_289
                    have hg := hgg k (by omega)
                    refine lv_iload hx hb dL_isSo_292 (lv_at hl 1 rfl) ?_
                    refine lv_aload_n hx hb dL_isSo_294 rfl (lv_at hl 7 rfl) ?_
                    refine lv_iload hx hb dL_isSo_295 (lv_at hl 3 rfl) ?_
                    refine lv_iconst (v := 0) hx hb dL_isSo_297 (by decide) ?_
                    refine q_wouldSee (v := pSet (M (30 + ar)) M 0 ns) hK hml hw hS hlar (by decide) rfl wM_L_95 ⟨⟨hR1, hR2⟩, show cs3 + 1 ≤ 800 by omega, show sl3 + 6 ≤ 4800 by omega⟩ (Nat.le_of_ble_eq_true rfl) dL_isSo_298 (fun H locs hw z1 hS => ?_)
                    refine lv_iload hx hb dL_isSo_301 (lv_at hl 0 rfl) ?_
                    refine lv_ishr hx hb dL_isSo_303 ?_
                    refine lv_iconst (v := 1) hx hb dL_isSo_304 (by decide) ?_
                    refine lv_iand hx hb dL_isSo_305 ?_
                    refine lv_iadd hx hb dL_isSo_306 ?_
                    refine lv_istore (lv' := [(8, .int (a8 + (((pSet (M (30 + ar)) M 0 ns) >>> ((nI k) &&& 31)) &&& 1))), (9, .int (nI k)), (6, .int (a6 + (M (50 + ar) 11))), (7, .int (nI ar)), (5, .int a5), (4, .int a4), (3, .int a3), (0, .ref (ad 0)), (1, .int (nI ns)), (2, .int (nI nr))]) hx hb dL_isSo_307 hl (by decide) rfl (fun ls hl => ?_)
                    have hml : c.maxLocals = ls.size := hml9.trans hl.1.symm
                    refine lv_aload_n hx hb dL_isSo_309 rfl (lv_at hl 7 rfl) ?_
                    refine lv_iload hx hb dL_isSo_310 (lv_at hl 3 rfl) ?_
                    refine lv_iconst (v := 0) hx hb dL_isSo_312 (by decide) ?_
                    refine q_wouldSee (v := pSet (M (30 + ar)) M 0 ns) hK hml hw hS hlar (by decide) rfl wM_L_95 ⟨⟨hR1, hR2⟩, show (cs3 + 1) + 1 ≤ 800 by omega, show (sl3 + 6) + 6 ≤ 4800 by omega⟩ (Nat.le_of_ble_eq_true rfl) dL_isSo_313 (fun H locs hw z1 hS => ?_)
                    refine lv_iload hx hb dL_isSo_316 (lv_at hl 1 rfl) ?_
                    refine lv_ishr hx hb dL_isSo_318 ?_
                    refine lv_iconst (v := 1) hx hb dL_isSo_319 (by decide) ?_
                    refine lv_iand hx hb dL_isSo_320 ?_
                    refine lv_iconst (v := 1) hx hb dL_isSo_321 (by decide) ?_
                    have jn337_4 : ∀ (H : Heap) (locs : List Loc), CW D cy ad ns nt nr M V H → va_S (CA ad ns nt nr) s.heap H locs → ∀ ls : Array Slot, lv_has ls 11 [(8, .int (a8 + (((pSet (M (30 + ar)) M 0 ns) >>> ((nI k) &&& 31)) &&& 1))), (9, .int (nI k)), (6, .int (a6 + (M (50 + ar) 11))), (7, .int (nI ar)), (5, .int a5), (4, .int a4), (3, .int a3), (0, .ref (ad 0)), (1, .int (nI ns)), (2, .int (nI nr))] → W p l e ({ frames := 7, cells := 800, slots := 4800, locals := 200 } : Room) s m ([.ref (ad 0), .int (nI ns), .int (nI nr)] : List Value).toArray below meth c H locs (cs3 + 3) (sl3 + 18) (MQ below (UQi (CA ad ns nt nr) (fun r H => r = 1 ∧ CW D cy ad ns nt nr M V H)) ([.ref (ad 0), .int (nI ns), .int (nI nr)] : List Value).toArray s 800 4800 (CA ad ns nt nr)) (F0 m 337 ls []) := by
                      intro H locs hw hS ls hl
                      have hml : c.maxLocals = ls.size := hml9.trans hl.1.symm
                      refine lv_aload_n hx hb dL_isSo_337 rfl (lv_at hl 7 rfl) ?_
                      refine lv_iload hx hb dL_isSo_338 (lv_at hl 3 rfl) ?_
                      refine lv_iload hx hb dL_isSo_340 (lv_at hl 1 rfl) ?_
                      refine lv_iconst (v := 4) hx hb dL_isSo_342 (by decide) ?_
                      refine q_seen (v := if M (60 + 8 * ar + k) 0 = 0 then -1 else M (60 + 8 * ar + k) 7) hK hml hw hS hlar hlk (by decide) rfl wM_L_92 ⟨⟨hR1, hR2⟩, show (cs3 + 3) + 1 ≤ 800 by omega, show (sl3 + 18) + 6 ≤ 4800 by omega⟩ (Nat.le_of_ble_eq_true rfl) dL_isSo_343 (fun H locs hw z1 hS => ?_)
                      refine lv_if_le (tgt := 353) hx hb dL_isSo_346 (by decide) (fun c_346 => ?_) (fun c_346 => ?_)
                      · have g0 := f_w0 hg hnW c_346
                        obtain ⟨g1, g2⟩ := hg.2.1 g0
                        refine lv_iconst (v := 0) hx hb dL_isSo_353 (by decide) ?_
                        refine lv_istore (lv' := [(10, .int 0), (8, .int (a8 + (((pSet (M (30 + ar)) M 0 ns) >>> ((nI k) &&& 31)) &&& 1))), (9, .int (nI k)), (6, .int (a6 + (M (50 + ar) 11))), (7, .int (nI ar)), (5, .int a5), (4, .int a4), (3, .int a3), (0, .ref (ad 0)), (1, .int (nI ns)), (2, .int (nI nr))]) hx hb dL_isSo_354 hl (by decide) rfl (fun ls hl => ?_)
                        have hml : c.maxLocals = ls.size := hml9.trans hl.1.symm
                        refine lv_iload hx hb dL_isSo_356 (lv_at hl 0 rfl) ?_
                        refine lv_if_ne (tgt := 401) hx hb dL_isSo_358 (by decide) (fun q9 => absurd rfl q9) (fun _ => ?_)
                        refine lv_aload_n hx hb dL_isSo_361 rfl (lv_at hl 8 rfl) ?_
                        refine lv_iload hx hb dL_isSo_362 (lv_at hl 4 rfl) ?_
                        refine lv_iload hx hb dL_isSo_364 (lv_at hl 2 rfl) ?_
                        refine lv_iconst (v := 0) hx hb dL_isSo_366 (by decide) ?_
                        refine q_seen (v := -1) hK hml hw hS hlar hlk (by decide) (tg_m g0) wM_L_92 ⟨⟨hR1, hR2⟩, show (cs3 + 4) + 1 ≤ 800 by omega, show (sl3 + 24) + 6 ≤ 4800 by omega⟩ (Nat.le_of_ble_eq_true rfl) dL_isSo_367 (fun H locs hw z1 hS => ?_)
                        refine lv_iconst (v := (-1)) hx hb dL_isSo_370 (by decide) ?_
                        refine lv_icmp_ne (tgt := 399) hx hb dL_isSo_371 (by decide) (fun q9 => absurd rfl q9) (fun _ => ?_)
                        refine lv_aload_n hx hb dL_isSo_374 rfl (lv_at hl 8 rfl) ?_
                        refine lv_iload hx hb dL_isSo_375 (lv_at hl 4 rfl) ?_
                        refine lv_iload hx hb dL_isSo_377 (lv_at hl 2 rfl) ?_
                        refine lv_iconst (v := 5) hx hb dL_isSo_379 (by decide) ?_
                        refine q_seen (v := if M (60 + 8 * ar + k) 1 = 0 then 0 else 1) hK hml hw hS hlar hlk (by decide) rfl wM_L_92 ⟨⟨hR1, hR2⟩, show (cs3 + 5) + 1 ≤ 800 by omega, show (sl3 + 30) + 6 ≤ 4800 by omega⟩ (Nat.le_of_ble_eq_true rfl) dL_isSo_380 (fun H locs hw z1 hS => ?_)
                        refine lv_if_ne (tgt := 399) hx hb dL_isSo_383 (by decide) (fun q9 => absurd (if_pos g1) q9) (fun _ => ?_)
                        refine lv_aload_n hx hb dL_isSo_386 rfl (lv_at hl 8 rfl) ?_
                        refine lv_iload hx hb dL_isSo_387 (lv_at hl 4 rfl) ?_
                        refine lv_iload hx hb dL_isSo_389 (lv_at hl 2 rfl) ?_
                        refine lv_bipush (v := 6) hx hb dL_isSo_391 (by decide) ?_
                        refine q_seen (v := if M (60 + 8 * ar + k) 2 = 0 then 0 else 1) hK hml hw hS hlar hlk (by decide) rfl wM_L_92 ⟨⟨hR1, hR2⟩, show (cs3 + 6) + 1 ≤ 800 by omega, show (sl3 + 36) + 6 ≤ 4800 by omega⟩ (Nat.le_of_ble_eq_true rfl) dL_isSo_393 (fun H locs hw z1 hS => ?_)
                        refine lv_if_eq (tgt := 401) hx hb dL_isSo_396 (by decide) (fun _ => ?_) (fun q9 => absurd (if_pos g2) q9)
                        refine lv_iload hx hb dL_isSo_401 (lv_at hl 0 rfl) ?_
                        refine lv_if_eq (tgt := 573) hx hb dL_isSo_403 (by decide) (fun _ => ?_) (fun q9 => absurd rfl q9)
                        refine lv_iinc (v := (nI (k + 1))) (lv' := [(9, .int (nI (k + 1))), (10, .int 0), (8, .int (a8 + (((pSet (M (30 + ar)) M 0 ns) >>> ((nI k) &&& 31)) &&& 1))), (6, .int (a6 + (M (50 + ar) 11))), (7, .int (nI ar)), (5, .int a5), (4, .int a4), (3, .int a3), (0, .ref (ad 0)), (1, .int (nI ns)), (2, .int (nI nr))]) hx hb dL_isSo_573 hl (k := 2) rfl ((nI_succ k).symm) (by decide) rfl (fun ls hl => ?_)
                        have hml : c.maxLocals = ls.size := hml9.trans hl.1.symm
                        refine lv_goto (tgt := 286) hx hb dL_isSo_576 (by decide) ?_
                        refine W.widen (k := cs + 1 + 24 * (k + 1)) (n := sl + 6 + 144 * (k + 1)) (by omega) (by omega) ?_
                        exact ih9 (k + 1) (a8 + (((pSet (M (30 + ar)) M 0 ns) >>> ((nI k) &&& 31)) &&& 1)) _ _ (cs + 1 + 24 * (k + 1)) (sl + 6 + 144 * (k + 1)) (by omega) hlk (by rw [e8, lSum_s]; rfl) rfl rfl hw hS ls (lv_sub hl [0, 2, 3, 4, 5, 6, 7, 8, 9, 10] rfl)
                      · have g0 := f_w1 hg c_346
                        have gn : ¬ M (60 + 8 * ar + k) 0 = 0 := by rw [g0]; decide
                        obtain ⟨x4, x6, x3, a, b, a1, a2, b1, e7, eb, b3, b4⟩ := hg.2.2.1 g0
                        refine lv_iconst (v := 1) hx hb dL_isSo_349 (by decide) ?_
                        refine lv_goto (tgt := 354) hx hb dL_isSo_350 (by decide) ?_
                        refine lv_istore (lv' := [(10, .int 1), (8, .int (a8 + (((pSet (M (30 + ar)) M 0 ns) >>> ((nI k) &&& 31)) &&& 1))), (9, .int (nI k)), (6, .int (a6 + (M (50 + ar) 11))), (7, .int (nI ar)), (5, .int a5), (4, .int a4), (3, .int a3), (0, .ref (ad 0)), (1, .int (nI ns)), (2, .int (nI nr))]) hx hb dL_isSo_354 hl (by decide) rfl (fun ls hl => ?_)
                        have hml : c.maxLocals = ls.size := hml9.trans hl.1.symm
                        refine lv_iload hx hb dL_isSo_356 (lv_at hl 0 rfl) ?_
                        refine lv_if_ne (tgt := 401) hx hb dL_isSo_358 (by decide) (fun _ => ?_) (fun q9 => absurd q9 (by decide))
                        refine lv_iload hx hb dL_isSo_401 (lv_at hl 0 rfl) ?_
                        refine lv_if_eq (tgt := 573) hx hb dL_isSo_403 (by decide) (fun q9 => absurd q9 (by decide)) (fun _ => ?_)
                        refine lv_aload_n hx hb dL_isSo_406 rfl (lv_at hl 8 rfl) ?_
                        refine lv_iload hx hb dL_isSo_407 (lv_at hl 4 rfl) ?_
                        refine lv_iload hx hb dL_isSo_409 (lv_at hl 2 rfl) ?_
                        refine lv_iconst (v := 1) hx hb dL_isSo_411 (by decide) ?_
                        refine q_seen (v := M (60 + 8 * ar + k) 4) hK hml hw hS hlar hlk (by decide) (tg_1 gn) wM_L_92 ⟨⟨hR1, hR2⟩, show (cs3 + 4) + 1 ≤ 800 by omega, show (sl3 + 24) + 6 ≤ 4800 by omega⟩ (Nat.le_of_ble_eq_true rfl) dL_isSo_412 (fun H locs hw z1 hS => ?_)
                        refine lv_if_lt (tgt := 571) hx hb dL_isSo_415 (by decide) (fun q9 => absurd q9 (x4.nlt (by decide))) (fun _ => ?_)
                        refine lv_aload_n hx hb dL_isSo_418 rfl (lv_at hl 8 rfl) ?_
                        refine lv_iload hx hb dL_isSo_419 (lv_at hl 4 rfl) ?_
                        refine lv_iload hx hb dL_isSo_421 (lv_at hl 2 rfl) ?_
                        refine lv_iconst (v := 1) hx hb dL_isSo_423 (by decide) ?_
                        refine q_seen (v := M (60 + 8 * ar + k) 4) hK hml hw hS hlar hlk (by decide) (tg_1 gn) wM_L_92 ⟨⟨hR1, hR2⟩, show (cs3 + 5) + 1 ≤ 800 by omega, show (sl3 + 30) + 6 ≤ 4800 by omega⟩ (Nat.le_of_ble_eq_true rfl) dL_isSo_424 (fun H locs hw z1 hS => ?_)
                        refine lv_bipush (v := 9) hx hb dL_isSo_427 (by decide) ?_
                        refine lv_icmp_gt (tgt := 571) hx hb dL_isSo_429 (by decide) (fun q9 => absurd q9 (x4.ngt (by decide))) (fun _ => ?_)
                        refine lv_aload_n hx hb dL_isSo_432 rfl (lv_at hl 8 rfl) ?_
                        refine lv_iload hx hb dL_isSo_433 (lv_at hl 4 rfl) ?_
                        refine lv_iload hx hb dL_isSo_435 (lv_at hl 2 rfl) ?_
                        refine lv_iconst (v := 3) hx hb dL_isSo_437 (by decide) ?_
                        refine q_seen (v := M (60 + 8 * ar + k) 6) hK hml hw hS hlar hlk (by decide) (tg_3 gn) wM_L_92 ⟨⟨hR1, hR2⟩, show (cs3 + 6) + 1 ≤ 800 by omega, show (sl3 + 36) + 6 ≤ 4800 by omega⟩ (Nat.le_of_ble_eq_true rfl) dL_isSo_438 (fun H locs hw z1 hS => ?_)
                        refine lv_bipush (v := (-5)) hx hb dL_isSo_441 (by decide) ?_
                        refine lv_icmp_lt (tgt := 571) hx hb dL_isSo_443 (by decide) (fun q9 => absurd q9 (x6.nlt (by decide))) (fun _ => ?_)
                        refine lv_aload_n hx hb dL_isSo_446 rfl (lv_at hl 8 rfl) ?_
                        refine lv_iload hx hb dL_isSo_447 (lv_at hl 4 rfl) ?_
                        refine lv_iload hx hb dL_isSo_449 (lv_at hl 2 rfl) ?_
                        refine lv_iconst (v := 3) hx hb dL_isSo_451 (by decide) ?_
                        refine q_seen (v := M (60 + 8 * ar + k) 6) hK hml hw hS hlar hlk (by decide) (tg_3 gn) wM_L_92 ⟨⟨hR1, hR2⟩, show (cs3 + 7) + 1 ≤ 800 by omega, show (sl3 + 42) + 6 ≤ 4800 by omega⟩ (Nat.le_of_ble_eq_true rfl) dL_isSo_452 (fun H locs hw z1 hS => ?_)
                        refine lv_iconst (v := 4) hx hb dL_isSo_455 (by decide) ?_
                        refine lv_icmp_gt (tgt := 571) hx hb dL_isSo_456 (by decide) (fun q9 => absurd q9 (x6.ngt (by decide))) (fun _ => ?_)
                        refine lv_aload_n hx hb dL_isSo_459 rfl (lv_at hl 8 rfl) ?_
                        refine lv_iload hx hb dL_isSo_460 (lv_at hl 4 rfl) ?_
                        refine lv_iload hx hb dL_isSo_462 (lv_at hl 2 rfl) ?_
                        refine lv_iconst (v := 0) hx hb dL_isSo_464 (by decide) ?_
                        refine q_seen (v := M (60 + 8 * ar + k) 3) hK hml hw hS hlar hlk (by decide) (tg_0 gn) wM_L_92 ⟨⟨hR1, hR2⟩, show (cs3 + 8) + 1 ≤ 800 by omega, show (sl3 + 48) + 6 ≤ 4800 by omega⟩ (Nat.le_of_ble_eq_true rfl) dL_isSo_465 (fun H locs hw z1 hS => ?_)
                        refine lv_aload_n hx hb dL_isSo_468 rfl (lv_at hl 8 rfl) ?_
                        refine lv_iload hx hb dL_isSo_469 (lv_at hl 4 rfl) ?_
                        refine lv_iload hx hb dL_isSo_471 (lv_at hl 2 rfl) ?_
                        refine lv_iconst (v := 1) hx hb dL_isSo_473 (by decide) ?_
                        refine q_seen (v := M (60 + 8 * ar + k) 4) hK hml hw hS hlar hlk (by decide) (tg_1 gn) wM_L_92 ⟨⟨hR1, hR2⟩, show (cs3 + 9) + 1 ≤ 800 by omega, show (sl3 + 54) + 6 ≤ 4800 by omega⟩ (Nat.le_of_ble_eq_true rfl) dL_isSo_474 (fun H locs hw z1 hS => ?_)
                        refine lv_bipush (v := 10) hx hb dL_isSo_477 (by decide) ?_
                        refine lv_aload_n hx hb dL_isSo_479 rfl (lv_at hl 8 rfl) ?_
                        refine lv_iload hx hb dL_isSo_480 (lv_at hl 4 rfl) ?_
                        refine lv_iload hx hb dL_isSo_482 (lv_at hl 2 rfl) ?_
                        refine lv_iconst (v := 2) hx hb dL_isSo_484 (by decide) ?_
                        refine q_seen (v := M (60 + 8 * ar + k) 5) hK hml hw hS hlar hlk (by decide) (tg_2 gn) wM_L_92 ⟨⟨hR1, hR2⟩, show (cs3 + 10) + 1 ≤ 800 by omega, show (sl3 + 60) + 6 ≤ 4800 by omega⟩ (Nat.le_of_ble_eq_true rfl) dL_isSo_485 (fun H locs hw z1 hS => ?_)
                        refine lv_imul hx hb dL_isSo_488 ?_
                        refine lv_iadd hx hb dL_isSo_489 ?_
                        refine lv_aload_n hx hb dL_isSo_490 rfl (lv_at hl 8 rfl) ?_
                        refine lv_iload hx hb dL_isSo_491 (lv_at hl 4 rfl) ?_
                        refine lv_iload hx hb dL_isSo_493 (lv_at hl 2 rfl) ?_
                        refine lv_iconst (v := 3) hx hb dL_isSo_495 (by decide) ?_
                        refine q_seen (v := M (60 + 8 * ar + k) 6) hK hml hw hS hlar hlk (by decide) (tg_3 gn) wM_L_92 ⟨⟨hR1, hR2⟩, show (cs3 + 11) + 1 ≤ 800 by omega, show (sl3 + 66) + 6 ≤ 4800 by omega⟩ (Nat.le_of_ble_eq_true rfl) dL_isSo_496 (fun H locs hw z1 hS => ?_)
                        refine lv_iadd hx hb dL_isSo_499 ?_
                        refine lv_icmp_ne (tgt := 571) hx hb dL_isSo_500 (by decide) (fun q9 => absurd (f_sum x3) q9) (fun _ => ?_)
                        refine lv_aload_n hx hb dL_isSo_503 rfl (lv_at hl 8 rfl) ?_
                        refine lv_iload hx hb dL_isSo_504 (lv_at hl 4 rfl) ?_
                        refine lv_iload hx hb dL_isSo_506 (lv_at hl 2 rfl) ?_
                        refine lv_iconst (v := 5) hx hb dL_isSo_508 (by decide) ?_
                        refine q_seen (v := if M (60 + 8 * ar + k) 1 = 0 then 0 else 1) hK hml hw hS hlar hlk (by decide) rfl wM_L_92 ⟨⟨hR1, hR2⟩, show (cs3 + 12) + 1 ≤ 800 by omega, show (sl3 + 72) + 6 ≤ 4800 by omega⟩ (Nat.le_of_ble_eq_true rfl) dL_isSo_509 (fun H locs hw z1 hS => ?_)
                        refine lv_iconst (v := 1) hx hb dL_isSo_512 (by decide) ?_
                        refine lv_icmp_ne (tgt := 545) hx hb dL_isSo_513 (by decide) (fun c_513 => ?_) (fun c_513 => ?_)
                        · refine lv_aload_n hx hb dL_isSo_545 rfl (lv_at hl 8 rfl) ?_
                          refine lv_iload hx hb dL_isSo_546 (lv_at hl 4 rfl) ?_
                          refine lv_iload hx hb dL_isSo_548 (lv_at hl 2 rfl) ?_
                          refine lv_bipush (v := 6) hx hb dL_isSo_550 (by decide) ?_
                          refine q_seen (v := if M (60 + 8 * ar + k) 2 = 0 then 0 else 1) hK hml hw hS hlar hlk (by decide) rfl wM_L_92 ⟨⟨hR1, hR2⟩, show (cs3 + 13) + 1 ≤ 800 by omega, show (sl3 + 78) + 6 ≤ 4800 by omega⟩ (Nat.le_of_ble_eq_true rfl) dL_isSo_552 (fun H locs hw z1 hS => ?_)
                          refine lv_if_ne (tgt := 573) hx hb dL_isSo_555 (by decide) (fun c_555 => ?_) (fun c_555 => ?_)
                          · refine lv_iinc (v := (nI (k + 1))) (lv' := [(9, .int (nI (k + 1))), (10, .int 1), (8, .int (a8 + (((pSet (M (30 + ar)) M 0 ns) >>> ((nI k) &&& 31)) &&& 1))), (6, .int (a6 + (M (50 + ar) 11))), (7, .int (nI ar)), (5, .int a5), (4, .int a4), (3, .int a3), (0, .ref (ad 0)), (1, .int (nI ns)), (2, .int (nI nr))]) hx hb dL_isSo_573 hl (k := 2) rfl ((nI_succ k).symm) (by decide) rfl (fun ls hl => ?_)
                            have hml : c.maxLocals = ls.size := hml9.trans hl.1.symm
                            refine lv_goto (tgt := 286) hx hb dL_isSo_576 (by decide) ?_
                            refine W.widen (k := cs + 1 + 24 * (k + 1)) (n := sl + 6 + 144 * (k + 1)) (by omega) (by omega) ?_
                            exact ih9 (k + 1) (a8 + (((pSet (M (30 + ar)) M 0 ns) >>> ((nI k) &&& 31)) &&& 1)) _ _ (cs + 1 + 24 * (k + 1)) (sl + 6 + 144 * (k + 1)) (by omega) hlk (by rw [e8, lSum_s]; rfl) rfl rfl hw hS ls (lv_sub hl [0, 2, 3, 4, 5, 6, 7, 8, 9, 10] rfl)
                          · have u2 := f_0of c_555
                            refine lv_aload_n hx hb dL_isSo_558 rfl (lv_at hl 8 rfl) ?_
                            refine lv_iload hx hb dL_isSo_559 (lv_at hl 4 rfl) ?_
                            refine lv_iload hx hb dL_isSo_561 (lv_at hl 2 rfl) ?_
                            refine lv_bipush (v := 7) hx hb dL_isSo_563 (by decide) ?_
                            refine q_seen (v := M (60 + 8 * ar + k) 9) hK hml hw hS hlar hlk (by decide) (tg_7 gn) wM_L_92 ⟨⟨hR1, hR2⟩, show (cs3 + 14) + 1 ≤ 800 by omega, show (sl3 + 84) + 6 ≤ 4800 by omega⟩ (Nat.le_of_ble_eq_true rfl) dL_isSo_565 (fun H locs hw z1 hS => ?_)
                            refine lv_if_eq (tgt := 573) hx hb dL_isSo_568 (by decide) (fun _ => ?_) (fun q9 => absurd (hg.2.2.2.1 u2) q9)
                            refine lv_iinc (v := (nI (k + 1))) (lv' := [(9, .int (nI (k + 1))), (10, .int 1), (8, .int (a8 + (((pSet (M (30 + ar)) M 0 ns) >>> ((nI k) &&& 31)) &&& 1))), (6, .int (a6 + (M (50 + ar) 11))), (7, .int (nI ar)), (5, .int a5), (4, .int a4), (3, .int a3), (0, .ref (ad 0)), (1, .int (nI ns)), (2, .int (nI nr))]) hx hb dL_isSo_573 hl (k := 2) rfl ((nI_succ k).symm) (by decide) rfl (fun ls hl => ?_)
                            have hml : c.maxLocals = ls.size := hml9.trans hl.1.symm
                            refine lv_goto (tgt := 286) hx hb dL_isSo_576 (by decide) ?_
                            refine W.widen (k := cs + 1 + 24 * (k + 1)) (n := sl + 6 + 144 * (k + 1)) (by omega) (by omega) ?_
                            exact ih9 (k + 1) (a8 + (((pSet (M (30 + ar)) M 0 ns) >>> ((nI k) &&& 31)) &&& 1)) _ _ (cs + 1 + 24 * (k + 1)) (sl + 6 + 144 * (k + 1)) (by omega) hlk (by rw [e8, lSum_s]; rfl) rfl rfl hw hS ls (lv_sub hl [0, 2, 3, 4, 5, 6, 7, 8, 9, 10] rfl)
                        · obtain ⟨a39, b9⟩ := b4 (f_1of hg.1.2.1 c_513)
                          refine lv_aload_n hx hb dL_isSo_516 rfl (lv_at hl 8 rfl) ?_
                          refine lv_iload hx hb dL_isSo_517 (lv_at hl 4 rfl) ?_
                          refine lv_iload hx hb dL_isSo_519 (lv_at hl 2 rfl) ?_
                          refine lv_iconst (v := 4) hx hb dL_isSo_521 (by decide) ?_
                          refine q_seen (v := M (60 + 8 * ar + k) 7) hK hml hw hS hlar hlk (by decide) (tg_4 gn) wM_L_92 ⟨⟨hR1, hR2⟩, show (cs3 + 13) + 1 ≤ 800 by omega, show (sl3 + 78) + 6 ≤ 4800 by omega⟩ (Nat.le_of_ble_eq_true rfl) dL_isSo_522 (fun H locs hw z1 hS => ?_)
                          refine lv_iconst (v := 3) hx hb dL_isSo_525 (by decide) ?_
                          refine lv_icmp_lt (tgt := 571) hx hb dL_isSo_526 (by decide) (fun q9 => absurd q9 (by rw [e7]; exact nI_nlt (b := 3) a39 (by omega))) (fun _ => ?_)
                          refine lv_aload_n hx hb dL_isSo_529 rfl (lv_at hl 8 rfl) ?_
                          refine lv_iload hx hb dL_isSo_530 (lv_at hl 4 rfl) ?_
                          refine lv_iload hx hb dL_isSo_532 (lv_at hl 2 rfl) ?_
                          refine lv_iconst (v := 3) hx hb dL_isSo_534 (by decide) ?_
                          refine q_seen (v := M (60 + 8 * ar + k) 6) hK hml hw hS hlar hlk (by decide) (tg_3 gn) wM_L_92 ⟨⟨hR1, hR2⟩, show (cs3 + 14) + 1 ≤ 800 by omega, show (sl3 + 84) + 6 ≤ 4800 by omega⟩ (Nat.le_of_ble_eq_true rfl) dL_isSo_535 (fun H locs hw z1 hS => ?_)
                          refine k_mabs hx hb hml hown hG wM_L_78 (Nat.le_of_ble_eq_true rfl) (Nat.le_of_ble_eq_true rfl) (show (cs3 + 15) ≤ 800 by omega) (show (sl3 + 90) ≤ 4800 by omega) dL_isSo_538 ?_
                          refine lv_iconst (v := 2) hx hb dL_isSo_541 (by decide) ?_
                          refine lv_icmp_gt (tgt := 571) hx hb dL_isSo_542 (by decide) (fun q9 => absurd q9 ((pAbs_IR (K := 2) ((b3 (by omega)).bd (by decide) (by decide)) (by decide)).ngt (by decide))) (fun _ => ?_)
                          refine lv_aload_n hx hb dL_isSo_545 rfl (lv_at hl 8 rfl) ?_
                          refine lv_iload hx hb dL_isSo_546 (lv_at hl 4 rfl) ?_
                          refine lv_iload hx hb dL_isSo_548 (lv_at hl 2 rfl) ?_
                          refine lv_bipush (v := 6) hx hb dL_isSo_550 (by decide) ?_
                          refine q_seen (v := if M (60 + 8 * ar + k) 2 = 0 then 0 else 1) hK hml hw hS hlar hlk (by decide) rfl wM_L_92 ⟨⟨hR1, hR2⟩, show (cs3 + 15) + 1 ≤ 800 by omega, show (sl3 + 90) + 6 ≤ 4800 by omega⟩ (Nat.le_of_ble_eq_true rfl) dL_isSo_552 (fun H locs hw z1 hS => ?_)
                          refine lv_if_ne (tgt := 573) hx hb dL_isSo_555 (by decide) (fun c_555 => ?_) (fun c_555 => ?_)
                          · refine lv_iinc (v := (nI (k + 1))) (lv' := [(9, .int (nI (k + 1))), (10, .int 1), (8, .int (a8 + (((pSet (M (30 + ar)) M 0 ns) >>> ((nI k) &&& 31)) &&& 1))), (6, .int (a6 + (M (50 + ar) 11))), (7, .int (nI ar)), (5, .int a5), (4, .int a4), (3, .int a3), (0, .ref (ad 0)), (1, .int (nI ns)), (2, .int (nI nr))]) hx hb dL_isSo_573 hl (k := 2) rfl ((nI_succ k).symm) (by decide) rfl (fun ls hl => ?_)
                            have hml : c.maxLocals = ls.size := hml9.trans hl.1.symm
                            refine lv_goto (tgt := 286) hx hb dL_isSo_576 (by decide) ?_
                            refine W.widen (k := cs + 1 + 24 * (k + 1)) (n := sl + 6 + 144 * (k + 1)) (by omega) (by omega) ?_
                            exact ih9 (k + 1) (a8 + (((pSet (M (30 + ar)) M 0 ns) >>> ((nI k) &&& 31)) &&& 1)) _ _ (cs + 1 + 24 * (k + 1)) (sl + 6 + 144 * (k + 1)) (by omega) hlk (by rw [e8, lSum_s]; rfl) rfl rfl hw hS ls (lv_sub hl [0, 2, 3, 4, 5, 6, 7, 8, 9, 10] rfl)
                          · have u2 := f_0of c_555
                            refine lv_aload_n hx hb dL_isSo_558 rfl (lv_at hl 8 rfl) ?_
                            refine lv_iload hx hb dL_isSo_559 (lv_at hl 4 rfl) ?_
                            refine lv_iload hx hb dL_isSo_561 (lv_at hl 2 rfl) ?_
                            refine lv_bipush (v := 7) hx hb dL_isSo_563 (by decide) ?_
                            refine q_seen (v := M (60 + 8 * ar + k) 9) hK hml hw hS hlar hlk (by decide) (tg_7 gn) wM_L_92 ⟨⟨hR1, hR2⟩, show (cs3 + 16) + 1 ≤ 800 by omega, show (sl3 + 96) + 6 ≤ 4800 by omega⟩ (Nat.le_of_ble_eq_true rfl) dL_isSo_565 (fun H locs hw z1 hS => ?_)
                            refine lv_if_eq (tgt := 573) hx hb dL_isSo_568 (by decide) (fun _ => ?_) (fun q9 => absurd (hg.2.2.2.1 u2) q9)
                            refine lv_iinc (v := (nI (k + 1))) (lv' := [(9, .int (nI (k + 1))), (10, .int 1), (8, .int (a8 + (((pSet (M (30 + ar)) M 0 ns) >>> ((nI k) &&& 31)) &&& 1))), (6, .int (a6 + (M (50 + ar) 11))), (7, .int (nI ar)), (5, .int a5), (4, .int a4), (3, .int a3), (0, .ref (ad 0)), (1, .int (nI ns)), (2, .int (nI nr))]) hx hb dL_isSo_573 hl (k := 2) rfl ((nI_succ k).symm) (by decide) rfl (fun ls hl => ?_)
                            have hml : c.maxLocals = ls.size := hml9.trans hl.1.symm
                            refine lv_goto (tgt := 286) hx hb dL_isSo_576 (by decide) ?_
                            refine W.widen (k := cs + 1 + 24 * (k + 1)) (n := sl + 6 + 144 * (k + 1)) (by omega) (by omega) ?_
                            exact ih9 (k + 1) (a8 + (((pSet (M (30 + ar)) M 0 ns) >>> ((nI k) &&& 31)) &&& 1)) _ _ (cs + 1 + 24 * (k + 1)) (sl + 6 + 144 * (k + 1)) (by omega) hlk (by rw [e8, lSum_s]; rfl) rfl rfl hw hS ls (lv_sub hl [0, 2, 3, 4, 5, 6, 7, 8, 9, 10] rfl)
                    refine lv_icmp_ne (tgt := 337) hx hb dL_isSo_322 (by decide) (fun c_322 => ?_) (fun c_322 => ?_)
                    · refine W.widen (k := cs3 + 3) (n := sl3 + 18) (by omega) (by omega) ?_
                      exact jn337_4 _ _ hw hS ls (lv_sub hl [0, 1, 2, 3, 4, 5, 6, 7, 8, 9] rfl)
                    · refine lv_aload_n hx hb dL_isSo_325 rfl (lv_at hl 7 rfl) ?_
                      refine lv_iload hx hb dL_isSo_326 (lv_at hl 1 rfl) ?_
                      refine lv_iconst (v := 5) hx hb dL_isSo_328 (by decide) ?_
                      refine q_ofStar (v := if M (10 + k) 5 = 0 then 0 else 1) hK hml hw hS hlk (by decide) rfl wM_L_49 ⟨⟨hR1, hR2⟩, show (cs3 + 2) + 1 ≤ 800 by omega, show (sl3 + 12) + 6 ≤ 4800 by omega⟩ (Nat.le_of_ble_eq_true rfl) dL_isSo_329 (fun H locs hw z1 hS => ?_)
                      refine lv_if_ne (tgt := 337) hx hb dL_isSo_332 (by decide) (fun _ => ?_) (fun q9 => absurd q9 (f_hl (ns := ns) hL8 hlk c_322))
                      refine W.widen (k := cs3 + 3) (n := sl3 + 18) (by omega) (by omega) ?_
                      exact jn337_4 _ _ hw hS ls (lv_sub hl [0, 1, 2, 3, 4, 5, 6, 7, 8, 9] rfl)
              refine W.widen (k := cs + 1 + 24 * 0) (n := sl + 6 + 144 * 0) (by omega) (by omega) ?_
              exact lp286_3 (ns + 1) 0 0 _ _ (cs + 1 + 24 * 0) (sl + 6 + 144 * 0) (Nat.le_refl _) (Nat.zero_le _) (lSum_0 _).symm rfl rfl hw hS ls (lv_sub hl [0, 1, 2, 3, 4, 5, 6, 7, 8, 9] rfl)
        refine W.widen (k := 160 + 210 * 0) (n := 960 + 1260 * 0) (by omega) (by omega) ?_
        exact lp261_2 (nr + 1) 0 0 _ _ (160 + 210 * 0) (960 + 1260 * 0) (Nat.le_refl _) (Nat.zero_le _) (by rw [pSumR]) rfl rfl hw hS ls (lv_sub hl [0, 1, 2, 3, 4, 5, 6, 7] rfl)
      · have hlk : k < ns := by
          rcases Nat.lt_or_ge k ns with q9 | q9
          · exact q9
          · exact absurd ((nI_leI (by omega) (by omega)).mpr q9) c_14
        have hJ := hW.2.2.1 k hlk
        have hB := f_both hJ
        refine lv_aload_n hx hb dL_isSo_17 rfl (lv_at hl 4 rfl) ?_
        refine lv_iload hx hb dL_isSo_18 (lv_at hl 0 rfl) ?_
        refine lv_iconst (v := 0) hx hb dL_isSo_20 (by decide) ?_
        refine q_ofStar (v := M (10 + k) 0) hK hml hw hS hlk (by decide) rfl wM_L_49 ⟨⟨hR1, hR2⟩, show cs + 1 ≤ 800 by omega, show sl + 6 ≤ 4800 by omega⟩ (Nat.le_of_ble_eq_true rfl) dL_isSo_21 (fun H locs hw z1 hS => ?_)
        refine lv_istore (lv' := [(7, .int (M (10 + k) 0)), (6, .int (nI k)), (5, .int a5), (4, .int a4), (3, .int a3), (0, .ref (ad 0)), (1, .int (nI ns)), (2, .int (nI nr))]) hx hb dL_isSo_24 hl (by decide) rfl (fun ls hl => ?_)
        have hml : c.maxLocals = ls.size := hml9.trans hl.1.symm
        refine lv_aload_n hx hb dL_isSo_26 rfl (lv_at hl 5 rfl) ?_
        refine lv_iload hx hb dL_isSo_27 (lv_at hl 1 rfl) ?_
        refine lv_bipush (v := 6) hx hb dL_isSo_29 (by decide) ?_
        refine q_ofStar (v := pX (M (10 + k)) 0) hK hml hw hS hlk (by decide) rfl wM_L_49 ⟨⟨hR1, hR2⟩, show (cs + 1) + 1 ≤ 800 by omega, show (sl + 6) + 6 ≤ 4800 by omega⟩ (Nat.le_of_ble_eq_true rfl) dL_isSo_31 (fun H locs hw z1 hS => ?_)
        refine k_mabs hx hb hml hown hG wM_L_78 (Nat.le_of_ble_eq_true rfl) (Nat.le_of_ble_eq_true rfl) (show (cs + 2) ≤ 800 by omega) (show (sl + 12) ≤ 4800 by omega) dL_isSo_34 ?_
        refine lv_aload_n hx hb dL_isSo_37 rfl (lv_at hl 5 rfl) ?_
        refine lv_iload hx hb dL_isSo_38 (lv_at hl 1 rfl) ?_
        refine lv_bipush (v := 7) hx hb dL_isSo_40 (by decide) ?_
        refine q_ofStar (v := pY (M (10 + k)) 0) hK hml hw hS hlk (by decide) rfl wM_L_49 ⟨⟨hR1, hR2⟩, show (cs + 2) + 1 ≤ 800 by omega, show (sl + 12) + 6 ≤ 4800 by omega⟩ (Nat.le_of_ble_eq_true rfl) dL_isSo_42 (fun H locs hw z1 hS => ?_)
        refine k_mabs hx hb hml hown hG wM_L_78 (Nat.le_of_ble_eq_true rfl) (Nat.le_of_ble_eq_true rfl) (show (cs + 3) ≤ 800 by omega) (show (sl + 18) ≤ 4800 by omega) dL_isSo_45 ?_
        refine lv_iadd hx hb dL_isSo_48 ?_
        refine lv_istore (lv' := [(8, .int ((pAbs (pX (M (10 + k)) 0)) + (pAbs (pY (M (10 + k)) 0)))), (7, .int (M (10 + k) 0)), (6, .int (nI k)), (5, .int a5), (4, .int a4), (3, .int a3), (0, .ref (ad 0)), (1, .int (nI ns)), (2, .int (nI nr))]) hx hb dL_isSo_49 hl (by decide) rfl (fun ls hl => ?_)
        have hml : c.maxLocals = ls.size := hml9.trans hl.1.symm
        refine lv_iload_n hx hb dL_isSo_51 rfl (lv_at hl 5 rfl) ?_
        refine lv_aload_n hx hb dL_isSo_52 rfl (lv_at hl 6 rfl) ?_
        refine lv_iload hx hb dL_isSo_53 (lv_at hl 2 rfl) ?_
        refine lv_iconst (v := 5) hx hb dL_isSo_55 (by decide) ?_
        refine q_ofStar (v := if M (10 + k) 5 = 0 then 0 else 1) hK hml hw hS hlk (by decide) rfl wM_L_49 ⟨⟨hR1, hR2⟩, show (cs + 3) + 1 ≤ 800 by omega, show (sl + 18) + 6 ≤ 4800 by omega⟩ (Nat.le_of_ble_eq_true rfl) dL_isSo_56 (fun H locs hw z1 hS => ?_)
        refine lv_iadd hx hb dL_isSo_59 ?_
        refine lv_istore_n (lv' := [(3, .int (a3 + (if M (10 + k) 5 = 0 then 0 else 1))), (8, .int ((pAbs (pX (M (10 + k)) 0)) + (pAbs (pY (M (10 + k)) 0)))), (7, .int (M (10 + k) 0)), (6, .int (nI k)), (5, .int a5), (4, .int a4), (0, .ref (ad 0)), (1, .int (nI ns)), (2, .int (nI nr))]) hx hb dL_isSo_60 rfl hl (by decide) rfl (fun ls hl => ?_)
        have hml : c.maxLocals = ls.size := hml9.trans hl.1.symm
        refine lv_iload hx hb dL_isSo_61 (lv_at hl 5 rfl) ?_
        refine lv_aload_n hx hb dL_isSo_63 rfl (lv_at hl 6 rfl) ?_
        refine lv_iload hx hb dL_isSo_64 (lv_at hl 3 rfl) ?_
        refine lv_iconst (v := 5) hx hb dL_isSo_66 (by decide) ?_
        refine q_message (v := if bI (pHolds (M (10 + k)) (M 0 0)) = 0 then 0 else 1) hK hml hw hS hlk (by decide) rfl wM_L_40 ⟨⟨hR1, hR2⟩, show (cs + 4) + 1 ≤ 800 by omega, show (sl + 24) + 6 ≤ 4800 by omega⟩ (Nat.le_of_ble_eq_true rfl) dL_isSo_67 (fun H locs hw z1 hS => ?_)
        refine lv_iadd hx hb dL_isSo_70 ?_
        refine lv_istore (lv' := [(4, .int (a4 + (if bI (pHolds (M (10 + k)) (M 0 0)) = 0 then 0 else 1))), (3, .int (a3 + (if M (10 + k) 5 = 0 then 0 else 1))), (8, .int ((pAbs (pX (M (10 + k)) 0)) + (pAbs (pY (M (10 + k)) 0)))), (7, .int (M (10 + k) 0)), (6, .int (nI k)), (5, .int a5), (0, .ref (ad 0)), (1, .int (nI ns)), (2, .int (nI nr))]) hx hb dL_isSo_71 hl (by decide) rfl (fun ls hl => ?_)
        have hml : c.maxLocals = ls.size := hml9.trans hl.1.symm
        refine lv_iload hx hb dL_isSo_73 (lv_at hl 5 rfl) ?_
        refine lv_aload_n hx hb dL_isSo_75 rfl (lv_at hl 6 rfl) ?_
        refine lv_iload hx hb dL_isSo_76 (lv_at hl 4 rfl) ?_
        refine lv_iconst (v := 0) hx hb dL_isSo_78 (by decide) ?_
        refine q_message (v := M (10 + k) 6) hK hml hw hS hlk (by decide) rfl wM_L_40 ⟨⟨hR1, hR2⟩, show (cs + 5) + 1 ≤ 800 by omega, show (sl + 30) + 6 ≤ 4800 by omega⟩ (Nat.le_of_ble_eq_true rfl) dL_isSo_79 (fun H locs hw z1 hS => ?_)
        refine lv_iadd hx hb dL_isSo_82 ?_
        refine lv_istore (lv' := [(5, .int (a5 + (M (10 + k) 6))), (4, .int (a4 + (if bI (pHolds (M (10 + k)) (M 0 0)) = 0 then 0 else 1))), (3, .int (a3 + (if M (10 + k) 5 = 0 then 0 else 1))), (8, .int ((pAbs (pX (M (10 + k)) 0)) + (pAbs (pY (M (10 + k)) 0)))), (7, .int (M (10 + k) 0)), (6, .int (nI k)), (0, .ref (ad 0)), (1, .int (nI ns)), (2, .int (nI nr))]) hx hb dL_isSo_83 hl (by decide) rfl (fun ls hl => ?_)
        have hml : c.maxLocals = ls.size := hml9.trans hl.1.symm
        refine lv_aload_n hx hb dL_isSo_85 rfl (lv_at hl 6 rfl) ?_
        refine lv_iload hx hb dL_isSo_86 (lv_at hl 5 rfl) ?_
        refine lv_iconst (v := 1) hx hb dL_isSo_88 (by decide) ?_
        refine q_ofStar (v := M (10 + k) 2) hK hml hw hS hlk (by decide) rfl wM_L_49 ⟨⟨hR1, hR2⟩, show (cs + 6) + 1 ≤ 800 by omega, show (sl + 36) + 6 ≤ 4800 by omega⟩ (Nat.le_of_ble_eq_true rfl) dL_isSo_89 (fun H locs hw z1 hS => ?_)
        refine lv_if_lt (tgt := 154) hx hb dL_isSo_92 (by decide) (fun q9 => absurd q9 (hJ.1.2.1.nlt (by decide))) (fun _ => ?_)
        refine lv_aload_n hx hb dL_isSo_95 rfl (lv_at hl 6 rfl) ?_
        refine lv_iload hx hb dL_isSo_96 (lv_at hl 5 rfl) ?_
        refine lv_iconst (v := 1) hx hb dL_isSo_98 (by decide) ?_
        refine q_ofStar (v := M (10 + k) 2) hK hml hw hS hlk (by decide) rfl wM_L_49 ⟨⟨hR1, hR2⟩, show (cs + 7) + 1 ≤ 800 by omega, show (sl + 42) + 6 ≤ 4800 by omega⟩ (Nat.le_of_ble_eq_true rfl) dL_isSo_99 (fun H locs hw z1 hS => ?_)
        refine lv_bipush (v := 47) hx hb dL_isSo_102 (by decide) ?_
        refine lv_icmp_gt (tgt := 154) hx hb dL_isSo_104 (by decide) (fun q9 => absurd q9 (hJ.1.2.1.ngt (by decide))) (fun _ => ?_)
        refine lv_aload_n hx hb dL_isSo_107 rfl (lv_at hl 6 rfl) ?_
        refine lv_iload hx hb dL_isSo_108 (lv_at hl 5 rfl) ?_
        refine lv_iconst (v := 3) hx hb dL_isSo_110 (by decide) ?_
        refine q_ofStar (v := M (10 + k) 3) hK hml hw hS hlk (by decide) rfl wM_L_49 ⟨⟨hR1, hR2⟩, show (cs + 8) + 1 ≤ 800 by omega, show (sl + 48) + 6 ≤ 4800 by omega⟩ (Nat.le_of_ble_eq_true rfl) dL_isSo_111 (fun H locs hw z1 hS => ?_)
        refine k_mabs hx hb hml hown hG wM_L_78 (Nat.le_of_ble_eq_true rfl) (Nat.le_of_ble_eq_true rfl) (show (cs + 9) ≤ 800 by omega) (show (sl + 54) ≤ 4800 by omega) dL_isSo_114 ?_
        refine lv_sipush (v := 999) hx hb dL_isSo_117 (by decide) ?_
        refine lv_icmp_gt (tgt := 154) hx hb dL_isSo_120 (by decide) (fun q9 => absurd q9 ((pAbs_IR hJ.1.2.2.1 (by decide)).ngt (by decide))) (fun _ => ?_)
        refine lv_iload hx hb dL_isSo_123 (lv_at hl 3 rfl) ?_
        refine lv_iload hx hb dL_isSo_125 (lv_at hl 4 rfl) ?_
        refine lv_icmp_gt (tgt := 154) hx hb dL_isSo_127 (by decide) (fun q9 => absurd q9 (hB.ngt (Int.le_refl _))) (fun _ => ?_)
        refine lv_iload hx hb dL_isSo_130 (lv_at hl 3 rfl) ?_
        refine lv_iload hx hb dL_isSo_132 (lv_at hl 4 rfl) ?_
        refine lv_iconst (v := 1) hx hb dL_isSo_134 (by decide) ?_
        refine lv_isub hx hb dL_isSo_135 ?_
        refine lv_icmp_lt (tgt := 154) hx hb dL_isSo_136 (by decide) (fun q9 => absurd q9 (hB.nlt (f_r1 hJ))) (fun _ => ?_)
        refine lv_aload_n hx hb dL_isSo_139 rfl (lv_at hl 6 rfl) ?_
        refine lv_iload hx hb dL_isSo_140 (lv_at hl 5 rfl) ?_
        refine lv_iconst (v := 4) hx hb dL_isSo_142 (by decide) ?_
        refine q_message (v := M (10 + k) 10) hK hml hw hS hlk (by decide) rfl wM_L_40 ⟨⟨hR1, hR2⟩, show (cs + 9) + 1 ≤ 800 by omega, show (sl + 54) + 6 ≤ 4800 by omega⟩ (Nat.le_of_ble_eq_true rfl) dL_isSo_143 (fun H locs hw z1 hS => ?_)
        refine k_mabs hx hb hml hown hG wM_L_78 (Nat.le_of_ble_eq_true rfl) (Nat.le_of_ble_eq_true rfl) (show (cs + 10) ≤ 800 by omega) (show (sl + 60) ≤ 4800 by omega) dL_isSo_146 ?_
        refine lv_bipush (v := 9) hx hb dL_isSo_149 (by decide) ?_
        refine lv_icmp_le (tgt := 156) hx hb dL_isSo_151 (by decide) (fun _ => ?_) (fun q9 => absurd ((pAbs_IR hJ.2.2.2.2 (by decide)).le (by decide)) q9)
        refine lv_aload_n hx hb dL_isSo_156 rfl (lv_at hl 6 rfl) ?_
        refine lv_iload hx hb dL_isSo_157 (lv_at hl 5 rfl) ?_
        refine lv_iconst (v := 0) hx hb dL_isSo_159 (by decide) ?_
        refine q_message (v := M (10 + k) 6) hK hml hw hS hlk (by decide) rfl wM_L_40 ⟨⟨hR1, hR2⟩, show (cs + 10) + 1 ≤ 800 by omega, show (sl + 60) + 6 ≤ 4800 by omega⟩ (Nat.le_of_ble_eq_true rfl) dL_isSo_160 (fun H locs hw z1 hS => ?_)
        refine lv_if_le (tgt := 170) hx hb dL_isSo_163 (by decide) (fun c_163 => ?_) (fun c_163 => ?_)
        · obtain ⟨t6, t7, t8⟩ := f_t0 hJ (by omega) c_163
          refine lv_iconst (v := 0) hx hb dL_isSo_170 (by decide) ?_
          refine lv_istore (lv' := [(9, .int 0), (5, .int (a5 + (M (10 + k) 6))), (4, .int (a4 + (if bI (pHolds (M (10 + k)) (M 0 0)) = 0 then 0 else 1))), (3, .int (a3 + (if M (10 + k) 5 = 0 then 0 else 1))), (8, .int ((pAbs (pX (M (10 + k)) 0)) + (pAbs (pY (M (10 + k)) 0)))), (7, .int (M (10 + k) 0)), (6, .int (nI k)), (0, .ref (ad 0)), (1, .int (nI ns)), (2, .int (nI nr))]) hx hb dL_isSo_171 hl (by decide) rfl (fun ls hl => ?_)
          have hml : c.maxLocals = ls.size := hml9.trans hl.1.symm
          refine lv_iload hx hb dL_isSo_173 (lv_at hl 0 rfl) ?_
          refine lv_aload_n hx hb dL_isSo_175 rfl (lv_at hl 7 rfl) ?_
          refine lv_iload hx hb dL_isSo_176 (lv_at hl 6 rfl) ?_
          refine lv_iconst (v := 1) hx hb dL_isSo_178 (by decide) ?_
          refine q_message (v := M (10 + k) 7) hK hml hw hS hlk (by decide) rfl wM_L_40 ⟨⟨hR1, hR2⟩, show (cs + 11) + 1 ≤ 800 by omega, show (sl + 66) + 6 ≤ 4800 by omega⟩ (Nat.le_of_ble_eq_true rfl) dL_isSo_179 (fun H locs hw z1 hS => ?_)
          refine lv_if_lt (tgt := 189) hx hb dL_isSo_182 (by decide) (fun _ => ?_) (fun q9 => absurd (by rw [t7]; decide) q9)
          refine lv_iconst (v := 0) hx hb dL_isSo_189 (by decide) ?_
          refine lv_icmp_ne (tgt := 247) hx hb dL_isSo_190 (by decide) (fun q9 => absurd rfl q9) (fun _ => ?_)
          refine lv_iload hx hb dL_isSo_193 (lv_at hl 0 rfl) ?_
          refine lv_aload_n hx hb dL_isSo_195 rfl (lv_at hl 7 rfl) ?_
          refine lv_iload hx hb dL_isSo_196 (lv_at hl 6 rfl) ?_
          refine lv_iconst (v := 2) hx hb dL_isSo_198 (by decide) ?_
          refine q_message (v := M (10 + k) 8) hK hml hw hS hlk (by decide) rfl wM_L_40 ⟨⟨hR1, hR2⟩, show (cs + 12) + 1 ≤ 800 by omega, show (sl + 72) + 6 ≤ 4800 by omega⟩ (Nat.le_of_ble_eq_true rfl) dL_isSo_199 (fun H locs hw z1 hS => ?_)
          refine lv_if_lt (tgt := 209) hx hb dL_isSo_202 (by decide) (fun _ => ?_) (fun q9 => absurd (by rw [t8]; decide) q9)
          refine lv_iconst (v := 0) hx hb dL_isSo_209 (by decide) ?_
          refine lv_icmp_ne (tgt := 247) hx hb dL_isSo_210 (by decide) (fun q9 => absurd rfl q9) (fun _ => ?_)
          refine lv_aload_n hx hb dL_isSo_213 rfl (lv_at hl 7 rfl) ?_
          refine lv_iload hx hb dL_isSo_214 (lv_at hl 6 rfl) ?_
          refine lv_iconst (v := 5) hx hb dL_isSo_216 (by decide) ?_
          refine q_message (v := if bI (pHolds (M (10 + k)) (M 0 0)) = 0 then 0 else 1) hK hml hw hS hlk (by decide) rfl wM_L_40 ⟨⟨hR1, hR2⟩, show (cs + 13) + 1 ≤ 800 by omega, show (sl + 78) + 6 ≤ 4800 by omega⟩ (Nat.le_of_ble_eq_true rfl) dL_isSo_217 (fun H locs hw z1 hS => ?_)
          refine lv_iconst (v := 1) hx hb dL_isSo_220 (by decide) ?_
          refine lv_icmp_ne (tgt := 249) hx hb dL_isSo_221 (by decide) (fun _ => ?_) (fun q9 => absurd q9 (f_nh t6))
          refine lv_iinc (v := (nI (k + 1))) (lv' := [(6, .int (nI (k + 1))), (9, .int 0), (5, .int (a5 + (M (10 + k) 6))), (4, .int (a4 + (if bI (pHolds (M (10 + k)) (M 0 0)) = 0 then 0 else 1))), (3, .int (a3 + (if M (10 + k) 5 = 0 then 0 else 1))), (8, .int ((pAbs (pX (M (10 + k)) 0)) + (pAbs (pY (M (10 + k)) 0)))), (7, .int (M (10 + k) 0)), (0, .ref (ad 0)), (1, .int (nI ns)), (2, .int (nI nr))]) hx hb dL_isSo_249 hl (k := 6) rfl ((nI_succ k).symm) (by decide) rfl (fun ls hl => ?_)
          have hml : c.maxLocals = ls.size := hml9.trans hl.1.symm
          refine lv_goto (tgt := 11) hx hb dL_isSo_252 (by decide) ?_
          refine W.widen (k := 20 * (k + 1)) (n := 120 * (k + 1)) (by omega) (by omega) ?_
          exact ih9 (k + 1) (a3 + (if M (10 + k) 5 = 0 then 0 else 1)) (a4 + (if bI (pHolds (M (10 + k)) (M 0 0)) = 0 then 0 else 1)) (a5 + (M (10 + k) 6)) _ _ (20 * (k + 1)) (120 * (k + 1)) (by omega) hlk (by rw [e3, pSumS_s]; rfl) (by rw [e4, pSumS_s]; rfl) (by rw [e5, pSumS_s]; rfl) rfl rfl hw hS ls (lv_sub hl [0, 2, 3, 4, 7, 8, 9] rfl)
        · obtain ⟨t6, ⟨q, hq, t7⟩, t8⟩ := f_t1 hJ (by omega) c_163
          refine lv_iconst (v := 1) hx hb dL_isSo_166 (by decide) ?_
          refine lv_goto (tgt := 171) hx hb dL_isSo_167 (by decide) ?_
          refine lv_istore (lv' := [(9, .int 1), (5, .int (a5 + (M (10 + k) 6))), (4, .int (a4 + (if bI (pHolds (M (10 + k)) (M 0 0)) = 0 then 0 else 1))), (3, .int (a3 + (if M (10 + k) 5 = 0 then 0 else 1))), (8, .int ((pAbs (pX (M (10 + k)) 0)) + (pAbs (pY (M (10 + k)) 0)))), (7, .int (M (10 + k) 0)), (6, .int (nI k)), (0, .ref (ad 0)), (1, .int (nI ns)), (2, .int (nI nr))]) hx hb dL_isSo_171 hl (by decide) rfl (fun ls hl => ?_)
          have hml : c.maxLocals = ls.size := hml9.trans hl.1.symm
          refine lv_iload hx hb dL_isSo_173 (lv_at hl 0 rfl) ?_
          refine lv_aload_n hx hb dL_isSo_175 rfl (lv_at hl 7 rfl) ?_
          refine lv_iload hx hb dL_isSo_176 (lv_at hl 6 rfl) ?_
          refine lv_iconst (v := 1) hx hb dL_isSo_178 (by decide) ?_
          refine q_message (v := M (10 + k) 7) hK hml hw hS hlk (by decide) rfl wM_L_40 ⟨⟨hR1, hR2⟩, show (cs + 11) + 1 ≤ 800 by omega, show (sl + 66) + 6 ≤ 4800 by omega⟩ (Nat.le_of_ble_eq_true rfl) dL_isSo_179 (fun H locs hw z1 hS => ?_)
          refine lv_if_lt (tgt := 189) hx hb dL_isSo_182 (by decide) (fun q9 => absurd q9 (by rw [t7]; exact nI_pos (by omega))) (fun _ => ?_)
          refine lv_iconst (v := 1) hx hb dL_isSo_185 (by decide) ?_
          refine lv_goto (tgt := 190) hx hb dL_isSo_186 (by decide) ?_
          refine lv_icmp_ne (tgt := 247) hx hb dL_isSo_190 (by decide) (fun q9 => absurd rfl q9) (fun _ => ?_)
          refine lv_iload hx hb dL_isSo_193 (lv_at hl 0 rfl) ?_
          refine lv_aload_n hx hb dL_isSo_195 rfl (lv_at hl 7 rfl) ?_
          refine lv_iload hx hb dL_isSo_196 (lv_at hl 6 rfl) ?_
          refine lv_iconst (v := 2) hx hb dL_isSo_198 (by decide) ?_
          refine q_message (v := M (10 + k) 8) hK hml hw hS hlk (by decide) rfl wM_L_40 ⟨⟨hR1, hR2⟩, show (cs + 12) + 1 ≤ 800 by omega, show (sl + 72) + 6 ≤ 4800 by omega⟩ (Nat.le_of_ble_eq_true rfl) dL_isSo_199 (fun H locs hw z1 hS => ?_)
          refine lv_if_lt (tgt := 209) hx hb dL_isSo_202 (by decide) (fun q9 => absurd q9 (t8.nlt (by decide))) (fun _ => ?_)
          refine lv_iconst (v := 1) hx hb dL_isSo_205 (by decide) ?_
          refine lv_goto (tgt := 210) hx hb dL_isSo_206 (by decide) ?_
          refine lv_icmp_ne (tgt := 247) hx hb dL_isSo_210 (by decide) (fun q9 => absurd rfl q9) (fun _ => ?_)
          refine lv_aload_n hx hb dL_isSo_213 rfl (lv_at hl 7 rfl) ?_
          refine lv_iload hx hb dL_isSo_214 (lv_at hl 6 rfl) ?_
          refine lv_iconst (v := 5) hx hb dL_isSo_216 (by decide) ?_
          refine q_message (v := if bI (pHolds (M (10 + k)) (M 0 0)) = 0 then 0 else 1) hK hml hw hS hlk (by decide) rfl wM_L_40 ⟨⟨hR1, hR2⟩, show (cs + 13) + 1 ≤ 800 by omega, show (sl + 78) + 6 ≤ 4800 by omega⟩ (Nat.le_of_ble_eq_true rfl) dL_isSo_217 (fun H locs hw z1 hS => ?_)
          refine lv_iconst (v := 1) hx hb dL_isSo_220 (by decide) ?_
          refine lv_icmp_ne (tgt := 249) hx hb dL_isSo_221 (by decide) (fun c_221 => ?_) (fun c_221 => ?_)
          · refine lv_iinc (v := (nI (k + 1))) (lv' := [(6, .int (nI (k + 1))), (9, .int 1), (5, .int (a5 + (M (10 + k) 6))), (4, .int (a4 + (if bI (pHolds (M (10 + k)) (M 0 0)) = 0 then 0 else 1))), (3, .int (a3 + (if M (10 + k) 5 = 0 then 0 else 1))), (8, .int ((pAbs (pX (M (10 + k)) 0)) + (pAbs (pY (M (10 + k)) 0)))), (7, .int (M (10 + k) 0)), (0, .ref (ad 0)), (1, .int (nI ns)), (2, .int (nI nr))]) hx hb dL_isSo_249 hl (k := 6) rfl ((nI_succ k).symm) (by decide) rfl (fun ls hl => ?_)
            have hml : c.maxLocals = ls.size := hml9.trans hl.1.symm
            refine lv_goto (tgt := 11) hx hb dL_isSo_252 (by decide) ?_
            refine W.widen (k := 20 * (k + 1)) (n := 120 * (k + 1)) (by omega) (by omega) ?_
            exact ih9 (k + 1) (a3 + (if M (10 + k) 5 = 0 then 0 else 1)) (a4 + (if bI (pHolds (M (10 + k)) (M 0 0)) = 0 then 0 else 1)) (a5 + (M (10 + k) 6)) _ _ (20 * (k + 1)) (120 * (k + 1)) (by omega) hlk (by rw [e3, pSumS_s]; rfl) (by rw [e4, pSumS_s]; rfl) (by rw [e5, pSumS_s]; rfl) rfl rfl hw hS ls (lv_sub hl [0, 2, 3, 4, 7, 8, 9] rfl)
          · refine lv_iload hx hb dL_isSo_224 (lv_at hl 0 rfl) ?_
            refine lv_if_eq (tgt := 247) hx hb dL_isSo_226 (by decide) (fun q9 => absurd q9 (by decide)) (fun _ => ?_)
            refine lv_aload_n hx hb dL_isSo_229 rfl (lv_at hl 7 rfl) ?_
            refine lv_iconst (v := 0) hx hb dL_isSo_230 (by decide) ?_
            refine q_many (v := M 0 0) hK hml hw hS  (by decide) rfl wM_L_33 ⟨⟨hR1, hR2⟩, show (cs + 14) + 1 ≤ 800 by omega, show (sl + 84) + 6 ≤ 4800 by omega⟩ (Nat.le_of_ble_eq_true rfl) dL_isSo_231 (fun H locs hw z1 hS => ?_)
            refine lv_aload_n hx hb dL_isSo_234 rfl (lv_at hl 7 rfl) ?_
            refine lv_iload hx hb dL_isSo_235 (lv_at hl 6 rfl) ?_
            refine lv_iconst (v := 1) hx hb dL_isSo_237 (by decide) ?_
            refine q_message (v := M (10 + k) 7) hK hml hw hS hlk (by decide) rfl wM_L_40 ⟨⟨hR1, hR2⟩, show (cs + 15) + 1 ≤ 800 by omega, show (sl + 90) + 6 ≤ 4800 by omega⟩ (Nat.le_of_ble_eq_true rfl) dL_isSo_238 (fun H locs hw z1 hS => ?_)
            refine lv_isub hx hb dL_isSo_241 ?_
            refine lv_bipush (v := 12) hx hb dL_isSo_242 (by decide) ?_
            refine lv_icmp_le (tgt := 249) hx hb dL_isSo_244 (by decide) (fun _ => ?_) (fun q9 => absurd (f_age hJ hW.1.2.1 hW.2.1 (f_1h c_221)) q9)
            refine lv_iinc (v := (nI (k + 1))) (lv' := [(6, .int (nI (k + 1))), (9, .int 1), (5, .int (a5 + (M (10 + k) 6))), (4, .int (a4 + (if bI (pHolds (M (10 + k)) (M 0 0)) = 0 then 0 else 1))), (3, .int (a3 + (if M (10 + k) 5 = 0 then 0 else 1))), (8, .int ((pAbs (pX (M (10 + k)) 0)) + (pAbs (pY (M (10 + k)) 0)))), (7, .int (M (10 + k) 0)), (0, .ref (ad 0)), (1, .int (nI ns)), (2, .int (nI nr))]) hx hb dL_isSo_249 hl (k := 6) rfl ((nI_succ k).symm) (by decide) rfl (fun ls hl => ?_)
            have hml : c.maxLocals = ls.size := hml9.trans hl.1.symm
            refine lv_goto (tgt := 11) hx hb dL_isSo_252 (by decide) ?_
            refine W.widen (k := 20 * (k + 1)) (n := 120 * (k + 1)) (by omega) (by omega) ?_
            exact ih9 (k + 1) (a3 + (if M (10 + k) 5 = 0 then 0 else 1)) (a4 + (if bI (pHolds (M (10 + k)) (M 0 0)) = 0 then 0 else 1)) (a5 + (M (10 + k) 6)) _ _ (20 * (k + 1)) (120 * (k + 1)) (by omega) hlk (by rw [e3, pSumS_s]; rfl) (by rw [e4, pSumS_s]; rfl) (by rw [e5, pSumS_s]; rfl) rfl rfl hw hS ls (lv_sub hl [0, 2, 3, 4, 7, 8, 9] rfl)
  exact lp11_1 (ns + 1) 0 0 0 0 _ _ 0 0 (Nat.le_refl _) (Nat.zero_le _) (by rw [pSumS]) (by rw [pSumS]) (by rw [pSumS]) rfl rfl hw hS ls (lv_sub hl [0, 1, 2, 3, 4, 5, 6] rfl)
