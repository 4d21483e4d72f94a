-- the law's own walk: the end of a step, where both have answered
section WT1
variable {p : Program} {l : Launch} {e : Env} {s : State} {m : MethodId} {below : List Frame} {meth : Method} {c : Code} {H : Heap} {locs : List Loc} {cells slots C9 S9 : Nat} {Q : State → Prop} {args : Array Value}
variable {t pc8 : Nat} {ls : Array Slot} {D : va_G} {cy : Nat → ClassId} {b w x o1 o2 : Nat} {N : Nat → Nat → Int32} {co su : Int64} {md : Nat → Nat} {f1 : Nat → Int64} {f2 : Nat → UInt64} {kc r7 : Int32} {r8 : UInt64} {off : Int} {pL : Nat}
theorem k_tail (hx : p.tables.exec = Jvm.exec) (hb : c.code = cL_law) (hml9 : c.maxLocals = 9) (hown : s.vm.findClass RL = some m.cls) (hG : GK D cy s)
    (d0 : decode cL_law t = .ok (.aload_n 2, 1)) (d1 : decode cL_law (t + 1) = .ok (.invokevirtual 107, 3)) (d4 : decode cL_law (t + 4) = .ok (.iload 6, 2)) (d6 : decode cL_law (t + 6) = .ok (.if_icmp .eq 5, 3)) (d11 : decode cL_law (t + 11) = .ok (.iload 6, 2)) (d13 : decode cL_law (t + 13) = .ok (.ifCond .ne 15, 3)) (d16 : decode cL_law (t + 16) = .ok (.aload_n 3, 1)) (d17 : decode cL_law (t + 17) = .ok (.iconst 0, 1)) (d18 : decode cL_law (t + 18) = .ok (.laload, 1)) (d19 : decode cL_law (t + 19) = .ok (.iload 7, 2)) (d21 : decode cL_law (t + 21) = .ok (.i2l, 1)) (d22 : decode cL_law (t + 22) = .ok (.lcmp, 1)) (d23 : decode cL_law (t + 23) = .ok (.ifCond .eq 5, 3)) (d28 : decode cL_law (t + 28) = .ok (.goto off, 3)) (ht : ((t + 28 : Nat) : Int) + off = ((1986 : Nat) : Int))
    (hl : lv_has ls 9 [(7, .int r7), (6, .int kc), (0, .ref b), (1, .ref x), (2, .ref (md 0)), (3, .ref o1), (4, .ref o2), (5, .int (nI w))])
    (hmw : MW D cy md N co su H) (h00 : N 0 0 = kc) (hol : oL D cy o1 f1 H) (hf : kc = 0 → f1 0 = r7.toInt64) (hc : cells ≤ C9) (hs : slots ≤ S9) (hR : C9 ≤ 601024 ∧ S9 ≤ 7293034)
    (kk : ∀ ls1 : Array Slot, lv_has ls1 9 [(0, .ref b), (1, .ref x), (2, .ref (md 0)), (3, .ref o1), (4, .ref o2), (5, .int (nI w))] → W p l e room_1 s m args below meth c H locs C9 S9 Q (F0 m 1986 ls1 [])) :
    W p l e room_1 s m args below meth c H locs cells slots Q (F0 m t ls []) := by
  have hml : c.maxLocals = ls.size := hml9.trans hl.1.symm
  have kk := kk ls (lv_sub hl [2, 3, 4, 5, 6, 7] rfl)
  refine lv_aload_n hx hb d0 rfl (lv_at hl 4 rfl) ?_
  refine kc_i (kr_V (As := []) (rest := []) hx hb hml hown hG (c_X7_thrown l D cy md N co su) cf_X7_thrown wM_L_107 hmw.o rfl hmw ⟨rfl, rfl, Nat.le_of_ble_eq_true rfl, Nat.le_of_ble_eq_true rfl⟩ rfl rfl (Nat.le_of_ble_eq_true rfl) ⟨show cells + 0 ≤ 601024 by omega, show slots + 0 ≤ 7293034 by omega⟩ d1) ?_
  refine lv_iload hx hb d4 (lv_at hl 1 rfl) ?_
  refine lv_icmp_eq (tgt := t + 11) hx hb d6 (by omega) (fun _ => ?_) (fun q9 => absurd h00 q9)
  refine lv_iload hx hb d11 (lv_at hl 1 rfl) ?_
  refine lv_if_ne (tgt := t + 28) hx hb d13 (by omega) (fun _ => ?_) (fun q9 => ?_)
  · refine lv_goto (tgt := 1986) hx hb d28 ht ?_
    exact W.widen hc hs kk
  · refine lv_aload_n hx hb d16 rfl (lv_at hl 5 rfl) ?_
    refine lv_iconst (v := 0) hx hb d17 (by decide) ?_
    refine k_lald hx hb hG hol d18 ?_
    refine lv_iload hx hb d19 (lv_at hl 0 rfl) ?_
    refine lv_i2l (v := r7.toInt64) hx hb d21 rfl ?_
    refine W.lcmp hx hb d22 ?_
    refine lv_if_eq (tgt := t + 28) hx hb d23 (by omega) (fun _ => ?_) (fun q => absurd ((lg_cmp_eq _ _).mpr (hf q9)) q)
    refine lv_goto (tgt := 1986) hx hb d28 ht ?_
    exact W.widen hc hs kk
theorem k_tailH (hx : p.tables.exec = Jvm.exec) (hb : c.code = cL_law) (hml9 : c.maxLocals = 9) (hown : s.vm.findClass RL = some m.cls) (hG : GK D cy s)
    (d0 : decode cL_law t = .ok (.aload_n 2, 1)) (d1 : decode cL_law (t + 1) = .ok (.invokevirtual 107, 3)) (d4 : decode cL_law (t + 4) = .ok (.iload 6, 2)) (d6 : decode cL_law (t + 6) = .ok (.if_icmp .eq 5, 3)) (d11 : decode cL_law (t + 11) = .ok (.iload 6, 2)) (d13 : decode cL_law (t + 13) = .ok (.ifCond .ne 22, 3)) (d16 : decode cL_law (t + 16) = .ok (.aload_n 3, 1)) (d17 : decode cL_law (t + 17) = .ok (.iconst 0, 1)) (d18 : decode cL_law (t + 18) = .ok (.laload, 1)) (d19 : decode cL_law (t + 19) = .ok (.iload 7, 2)) (d21 : decode cL_law (t + 21) = .ok (.ifCond .eq 7, 3)) (d24 : decode cL_law (t + 24) = .ok (.lconst 1, 1)) (d25 : decode cL_law (t + 25) = .ok (.goto 4, 3)) (d28' : decode cL_law (t + 28) = .ok (.lconst 0, 1)) (d29 : decode cL_law (t + 29) = .ok (.lcmp, 1)) (d30 : decode cL_law (t + 30) = .ok (.ifCond .eq 5, 3)) (d35 : decode cL_law (t + 35) = .ok (.goto off, 3)) (ht : ((t + 35 : Nat) : Int) + off = ((1986 : Nat) : Int))
    (hl : lv_has ls 9 [(7, .int r7), (6, .int kc), (0, .ref b), (1, .ref x), (2, .ref (md 0)), (3, .ref o1), (4, .ref o2), (5, .int (nI w))])
    (hmw : MW D cy md N co su H) (h00 : N 0 0 = kc) (hol : oL D cy o1 f1 H) (hf : kc = 0 → f1 0 = if r7 = 0 then 0 else 1) (hc : cells ≤ C9) (hs : slots ≤ S9) (hR : C9 ≤ 601024 ∧ S9 ≤ 7293034)
    (kk : ∀ ls1 : Array Slot, lv_has ls1 9 [(0, .ref b), (1, .ref x), (2, .ref (md 0)), (3, .ref o1), (4, .ref o2), (5, .int (nI w))] → W p l e room_1 s m args below meth c H locs C9 S9 Q (F0 m 1986 ls1 [])) :
    W p l e room_1 s m args below meth c H locs cells slots Q (F0 m t ls []) := by
  have hml : c.maxLocals = ls.size := hml9.trans hl.1.symm
  have kk := kk ls (lv_sub hl [2, 3, 4, 5, 6, 7] rfl)
  refine lv_aload_n hx hb d0 rfl (lv_at hl 4 rfl) ?_
  refine kc_i (kr_V (As := []) (rest := []) hx hb hml hown hG (c_X7_thrown l D cy md N co su) cf_X7_thrown wM_L_107 hmw.o rfl hmw ⟨rfl, rfl, Nat.le_of_ble_eq_true rfl, Nat.le_of_ble_eq_true rfl⟩ rfl rfl (Nat.le_of_ble_eq_true rfl) ⟨show cells + 0 ≤ 601024 by omega, show slots + 0 ≤ 7293034 by omega⟩ d1) ?_
  refine lv_iload hx hb d4 (lv_at hl 1 rfl) ?_
  refine lv_icmp_eq (tgt := t + 11) hx hb d6 (by omega) (fun _ => ?_) (fun q9 => absurd h00 q9)
  refine lv_iload hx hb d11 (lv_at hl 1 rfl) ?_
  refine lv_if_ne (tgt := t + 35) hx hb d13 (by omega) (fun _ => ?_) (fun q9 => ?_)
  · refine lv_goto (tgt := 1986) hx hb d35 ht ?_
    exact W.widen hc hs kk
  · refine lv_aload_n hx hb d16 rfl (lv_at hl 5 rfl) ?_
    refine lv_iconst (v := 0) hx hb d17 (by decide) ?_
    refine k_lald hx hb hG hol d18 ?_
    refine lv_iload hx hb d19 (lv_at hl 0 rfl) ?_
    refine lv_if_eq (tgt := t + 28) hx hb d21 (by omega) (fun c9 => ?_) (fun c9 => ?_)
    · refine lv_lconst (v := 0) hx hb d28' (by decide) ?_
      refine W.lcmp hx hb d29 ?_
      refine lv_if_eq (tgt := t + 35) hx hb d30 (by omega) (fun _ => ?_) (fun q => absurd ((lg_cmp_eq _ _).mpr (by rw [hf q9, if_pos c9])) q)
      refine lv_goto (tgt := 1986) hx hb d35 ht ?_
      exact W.widen hc hs kk
    · refine lv_lconst (v := 1) hx hb d24 (by decide) ?_
      refine lv_goto (tgt := t + 29) hx hb d25 (by omega) ?_
      refine W.lcmp hx hb d29 ?_
      refine lv_if_eq (tgt := t + 35) hx hb d30 (by omega) (fun _ => ?_) (fun q => absurd ((lg_cmp_eq _ _).mpr (by rw [hf q9, if_neg c9])) q)
      refine lv_goto (tgt := 1986) hx hb d35 ht ?_
      exact W.widen hc hs kk
theorem k_tailD (hx : p.tables.exec = Jvm.exec) (hb : c.code = cL_law) (hml9 : c.maxLocals = 9) (hown : s.vm.findClass RL = some m.cls) (hG : GK D cy s)
    (d0 : decode cL_law t = .ok (.aload_n 2, 1)) (d1 : decode cL_law (t + 1) = .ok (.invokevirtual 107, 3)) (d4 : decode cL_law (t + 4) = .ok (.iload 6, 2)) (d6 : decode cL_law (t + 6) = .ok (.if_icmp .eq 5, 3)) (d11 : decode cL_law (t + 11) = .ok (.iload 6, 2)) (d13 : decode cL_law (t + 13) = .ok (.ifCond .ne 35, 3)) (d16 : decode cL_law (t + 16) = .ok (.aload 4, 2)) (d18 : decode cL_law (t + 18) = .ok (.iconst 0, 1)) (d19 : decode cL_law (t + 19) = .ok (.daload, 1)) (d20 : decode cL_law (t + 20) = .ok (.dload 7, 2)) (d22 : decode cL_law (t + 22) = .ok (.dcmp .l, 1)) (d23 : decode cL_law (t + 23) = .ok (.ifCond .eq 25, 3))
    (d26 : decode cL_law (t + 26) = .ok (.aload 4, 2)) (d28 : decode cL_law (t + 28) = .ok (.iconst 0, 1)) (d29 : decode cL_law (t + 29) = .ok (.daload, 1)) (d30 : decode cL_law (t + 30) = .ok (.aload 4, 2)) (d32 : decode cL_law (t + 32) = .ok (.iconst 0, 1)) (d33 : decode cL_law (t + 33) = .ok (.daload, 1)) (d34 : decode cL_law (t + 34) = .ok (.dcmp .l, 1)) (d35 : decode cL_law (t + 35) = .ok (.ifCond .eq 11, 3))
    (d38 : decode cL_law (t + 38) = .ok (.dload 7, 2)) (d40 : decode cL_law (t + 40) = .ok (.dload 7, 2)) (d42 : decode cL_law (t + 42) = .ok (.dcmp .l, 1)) (d43 : decode cL_law (t + 43) = .ok (.ifCond .ne 5, 3)) (d48 : decode cL_law (t + 48) = .ok (.goto off, 3)) (ht : ((t + 48 : Nat) : Int) + off = ((1986 : Nat) : Int))
    (hl : lv_has ls 9 [(7, .double r8), (6, .int kc), (0, .ref b), (1, .ref x), (2, .ref (md 0)), (3, .ref o1), (4, .ref o2), (5, .int (nI w))])
    (hmw : MW D cy md N co su H) (h00 : N 0 0 = kc) (hod : oD D cy o2 f2 H) (hf : kc = 0 → f2 0 = r8) (hc : cells ≤ C9) (hs : slots ≤ S9) (hR : C9 ≤ 601024 ∧ S9 ≤ 7293034)
    (kk : ∀ ls1 : Array Slot, lv_has ls1 9 [(0, .ref b), (1, .ref x), (2, .ref (md 0)), (3, .ref o1), (4, .ref o2), (5, .int (nI w))] → W p l e room_1 s m args below meth c H locs C9 S9 Q (F0 m 1986 ls1 [])) :
    W p l e room_1 s m args below meth c H locs cells slots Q (F0 m t ls []) := by
  have hml : c.maxLocals = ls.size := hml9.trans hl.1.symm
  have kk := kk ls (lv_sub hl [2, 3, 4, 5, 6, 7] rfl)
  refine lv_aload_n hx hb d0 rfl (lv_at hl 4 rfl) ?_
  refine kc_i (kr_V (As := []) (rest := []) hx hb hml hown hG (c_X7_thrown l D cy md N co su) cf_X7_thrown wM_L_107 hmw.o rfl hmw ⟨rfl, rfl, Nat.le_of_ble_eq_true rfl, Nat.le_of_ble_eq_true rfl⟩ rfl rfl (Nat.le_of_ble_eq_true rfl) ⟨show cells + 0 ≤ 601024 by omega, show slots + 0 ≤ 7293034 by omega⟩ d1) ?_
  refine lv_iload hx hb d4 (lv_at hl 1 rfl) ?_
  refine lv_icmp_eq (tgt := t + 11) hx hb d6 (by omega) (fun _ => ?_) (fun q9 => absurd h00 q9)
  refine lv_iload hx hb d11 (lv_at hl 1 rfl) ?_
  refine lv_if_ne (tgt := t + 48) hx hb d13 (by omega) (fun _ => ?_) (fun q9 => ?_)
  · refine lv_goto (tgt := 1986) hx hb d48 ht ?_
    exact W.widen hc hs kk
  · refine lv_aload hx hb d16 (lv_at hl 6 rfl) ?_
    refine lv_iconst (v := 0) hx hb d18 (by decide) ?_
    refine k_dald hx hb hG hod d19 ?_
    refine lv_dload hx hb d20 (lv_at hl 0 rfl) ?_
    refine lv_dcmp hx hb d22 ?_
    rw [hf q9]
    refine lv_if_eq (tgt := t + 48) hx hb d23 (by omega) (fun _ => ?_) (fun q => ?_)
    · refine lv_goto (tgt := 1986) hx hb d48 ht ?_
      exact W.widen hc hs kk
    · refine lv_aload hx hb d26 (lv_at hl 6 rfl) ?_
      refine lv_iconst (v := 0) hx hb d28 (by decide) ?_
      refine k_dald hx hb hG hod d29 ?_
      refine lv_aload hx hb d30 (lv_at hl 6 rfl) ?_
      refine lv_iconst (v := 0) hx hb d32 (by decide) ?_
      refine k_dald hx hb hG hod d33 ?_
      refine lv_dcmp hx hb d34 ?_
      rw [hf q9]
      refine lv_if_eq (tgt := t + 46) hx hb d35 (by omega) (fun q8 => absurd q8 q) (fun _ => ?_)
      refine lv_dload hx hb d38 (lv_at hl 0 rfl) ?_
      refine lv_dload hx hb d40 (lv_at hl 0 rfl) ?_
      refine lv_dcmp hx hb d42 ?_
      refine lv_if_ne (tgt := t + 48) hx hb d43 (by omega) (fun _ => ?_) (fun q8 => absurd q8 q)
      refine lv_goto (tgt := 1986) hx hb d48 ht ?_
      exact W.widen hc hs kk
end WT1
