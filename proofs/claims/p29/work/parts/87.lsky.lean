-- the sky that the law makes
/-- a sky with so many stars, stations and receivers, of which nothing has observed -/
def SU (D : va_G) (cy : Nat → ClassId) (lo x0 ns nt nr : Nat) (H : Heap) : Prop := ∃ (ad : Nat → Nat) (M : Nat → Nat → Int32) (V : SX), AI ad ns nt nr ∧ (∀ q, CA ad ns nt nr q → lo ≤ q) ∧ JW 0 0 ns nt nr M ∧ (∀ i, i < nr → M (50 + i) 0 = 0) ∧ CW D cy ad ns nt nr M V H ∧ ad 0 = x0
theorem ph_IR {k q : Nat} (hk : k < 8) (hq : q < 36) : IR (6 * nI k + 30 + nI q - (6 * nI k + 30 + nI q) / 48 * 48) 0 47 := by
  have e : 6 * nI k + 30 = nI (6 * k + 30) := (show ∀ k, k < 8 → 6 * nI k + 30 = nI (6 * k + 30) by decide +kernel) k hk
  rw [e, nI_add]
  exact pRem_IR (x := nI (6 * k + 30 + q)) (c := 48) (by decide) (nI_pos' (by omega))
theorem new_50 {M : Nat → Nat → Int32} {k i : Nat} {v : Nat → Int32} (h3 : k < 3) (h : ∀ i, i < k → M (50 + i) 0 = 0) (hi : i < k + 1) : pNewR M k v (50 + i) 0 = 0 := by
  by_cases e : i = k
  · subst e
    unfold pNewR
    rw [if_neg (by omega), if_pos rfl]
    rfl
  · rw [show pNewR M k v (50 + i) = M (50 + i) from pNewR_n (by unfold NK; omega)]
    exact h i (by omega)
set_option maxHeartbeats 4000000 in
set_option maxRecDepth 100000 in
theorem lc_stars (l : Launch) (hlf : l.stackTraces = false) {p : Program} {e : Env} {s : State} {m : MethodId} {args : Array Value} {below : List Frame} {meth : Method} {c : Code} {b L : Nat} {xs : Nat → Int32} (hx : p.tables.exec = Jvm.exec) (hb : c.code = cL_law) (hml9 : c.maxLocals = 20) (hown : s.vm.findClass RL = some m.cls) {D : va_G} {cy : Nat → ClassId} (hG : GK D cy s) (hX : XWD s) (hAW : AWD s) (hGx : GXA (fun q => s.heap.size ≤ q) s s.heap) (hXs : va_X b L xs s s.heap) (hbl : b < s.heap.size) (hL31 : L < 2 ^ 31) {Q : State → Prop} {x0 : Nat} {H : Heap} {locs : List Loc} {cells slots : Nat} {ls : Array Slot} (hS : va_S (fun q => s.heap.size ≤ q) s.heap H locs) {ns : Nat} (h8s : ns ≤ 8) (hU : SU D cy s.heap.size x0 0 0 0 H) (hc : cells ≤ 10) (hs : slots ≤ 100) (hl : lv_has ls 20 [(3, .int (nI 0)), (2, .int (nI ns)), (1, .ref x0), (0, .ref b)])
    (kk : ∀ (H1 : Heap) (locs1 : List Loc) (ls1 : Array Slot), SU D cy s.heap.size x0 ns 0 0 H1 → va_S (fun q => s.heap.size ≤ q) s.heap H1 locs1 → lv_has ls1 20 [(2, .int (nI ns)), (1, .ref x0), (0, .ref b)] → W p l e room_1 s m args below meth c H1 locs1 (10 + 1 * ns) (100 + 11 * ns) Q (F0 m 121 ls1 [])) :
    W p l e room_1 s m args below meth c H locs cells slots Q (F0 m 23 ls []) := by
  have hml : c.maxLocals = ls.size := hml9.trans hl.1.symm
  have hbA : ¬ (fun q => s.heap.size ≤ q) b := Nat.not_le.mpr hbl
  have rO : 7 ≤ room_1.frames ∧ 160 ≤ room_1.locals := ⟨Nat.le_of_ble_eq_true rfl, Nat.le_of_ble_eq_true rfl⟩
  have lp23_1 : ∀ (n9 : Nat) (k : Nat) (H : Heap) (locs : List Loc), ns + 1 - k ≤ n9 → k ≤ ns → SU D cy s.heap.size x0 k 0 0 H → va_S (fun q => s.heap.size ≤ q) s.heap H locs →  ∀ ls : Array Slot, lv_has ls 20 [(3, .int (nI k)), (2, .int (nI ns)), (1, .ref x0), (0, .ref b)] → W p l e room_1 s m args below meth c H locs (10 + 1 * k) (100 + 11 * k) Q (F0 m 23 ls []) := by
    intro n9
    induction n9 with
    | zero =>
      intro k H locs h9
      intro h; exact absurd h9 (by omega)
    | succ n9 ih9 =>
      intro k H locs hn9 hk hU hS ls hl
      have hml : c.maxLocals = ls.size := hml9.trans hl.1.symm
      refine lv_iload_n hx hb dL_law_23 rfl (lv_at hl 0 rfl) ?_
      refine lv_iload_n hx hb dL_law_24 rfl (lv_at hl 1 rfl) ?_
      refine lv_icmp_ge (tgt := 121) hx hb dL_law_25 (by decide) (fun c_25 => ?_) (fun c_25 => ?_)
      · have ek : k = ns := Nat.le_antisymm hk ((nI_leI (by omega) (by omega)).mp c_25)
        subst ek
        exact kk H locs ls hU hS (lv_sub hl [1, 2, 3] rfl)
      · have hltk : k < ns := by
          rcases Nat.lt_or_ge k ns with q9 | q9
          · exact q9
          · exact absurd ((nI_leI (by omega) (by omega)).mpr q9) c_25
        obtain ⟨ad, M, V, hA, hlo, hW, h50, hw, e0⟩ := hU
        have hLB := hW.1.1
        have hcl := CA.lt hw hLB
        refine lv_aload_n hx hb dL_law_28 rfl (lv_at hl 3 rfl) ?_
        refine lv_iconst (v := 1) hx hb dL_law_29 (by decide) ?_
        refine lv_iload_n hx hb dL_law_30 rfl (lv_at hl 0 rfl) ?_
        refine lv_iadd hx hb dL_law_31 ?_
        refine r_cell (k := 1 + k) hx hb hml hown hG hXs hbA hS hL31 (by omega) (nI_add 1 k) wM_L_12 ⟨rO, show (10 + 1 * k) ≤ 600086 by omega, show (100 + 11 * k) ≤ 7301442 by omega⟩ (Nat.le_of_ble_eq_true rfl) dL_law_32 ?_
        refine lv_topi (fun x ex => ?_)
        refine lv_istore (lv' := [(4, .int x), (3, .int (nI k)), (2, .int (nI ns)), (1, .ref x0), (0, .ref b)]) hx hb dL_law_35 hl (by decide) rfl (fun ls hl => ?_)
        have hml : c.maxLocals = ls.size := hml9.trans hl.1.symm
        refine lv_aload_n hx hb dL_law_37 rfl (lv_at hl 3 rfl) ?_
        refine lv_bipush (v := 60) hx hb dL_law_38 (by decide) ?_
        refine lv_iload hx hb dL_law_40 (lv_at hl 0 rfl) ?_
        refine lv_sipush (v := 141) hx hb dL_law_42 (by decide) ?_
        refine r_belowN (n := 141) hx hb hml hown hG (by decide) (by decide) (by omega) wM_L_18 ⟨rO, show (10 + 1 * k) ≤ 600086 by omega, show (100 + 11 * k) ≤ 7301442 by omega⟩ (Nat.le_of_ble_eq_true rfl) dL_law_45 (fun q45 hq45 => ?_)
        refine lv_iadd hx hb dL_law_48 ?_
        refine lv_bipush (v := 6) hx hb dL_law_49 (by decide) ?_
        refine lv_iload_n hx hb dL_law_51 rfl (lv_at hl 1 rfl) ?_
        refine lv_imul hx hb dL_law_52 ?_
        refine lv_bipush (v := 30) hx hb dL_law_53 (by decide) ?_
        refine lv_iadd hx hb dL_law_55 ?_
        refine lv_iload hx hb dL_law_56 (lv_at hl 0 rfl) ?_
        refine lv_iconst (v := 3) hx hb dL_law_58 (by decide) ?_
        refine lv_ishr hx hb dL_law_59 ?_
        refine lv_bipush (v := 36) hx hb dL_law_60 (by decide) ?_
        refine r_belowN (n := 36) hx hb hml hown hG (by decide) (by decide) (by omega) wM_L_18 ⟨rO, show (10 + 1 * k) ≤ 600086 by omega, show (100 + 11 * k) ≤ 7301442 by omega⟩ (Nat.le_of_ble_eq_true rfl) dL_law_62 (fun q62 hq62 => ?_)
        refine lv_iadd hx hb dL_law_65 ?_
        refine lv_bipush (v := 48) hx hb dL_law_66 (by decide) ?_
        refine lv_irem hx hb dL_law_68 (by decide) ?_
        refine lv_iload hx hb dL_law_69 (lv_at hl 0 rfl) ?_
        refine lv_iconst (v := 5) hx hb dL_law_71 (by decide) ?_
        refine lv_ishr hx hb dL_law_72 ?_
        refine lv_bipush (v := 7) hx hb dL_law_73 (by decide) ?_
        refine r_belowN (n := 7) hx hb hml hown hG (by decide) (by decide) (by omega) wM_L_18 ⟨rO, show (10 + 1 * k) ≤ 600086 by omega, show (100 + 11 * k) ≤ 7301442 by omega⟩ (Nat.le_of_ble_eq_true rfl) dL_law_75 (fun q75 hq75 => ?_)
        refine lv_iconst (v := 3) hx hb dL_law_78 (by decide) ?_
        refine lv_isub hx hb dL_law_79 ?_
        refine lv_iload hx hb dL_law_80 (lv_at hl 0 rfl) ?_
        refine lv_iconst (v := 2) hx hb dL_law_82 (by decide) ?_
        refine lv_ishr hx hb dL_law_83 ?_
        refine lv_sipush (v := 1001) hx hb dL_law_84 (by decide) ?_
        refine r_belowN (n := 1001) hx hb hml hown hG (by decide) (by decide) (by omega) wM_L_18 ⟨rO, show (10 + 1 * k) ≤ 600086 by omega, show (100 + 11 * k) ≤ 7301442 by omega⟩ (Nat.le_of_ble_eq_true rfl) dL_law_87 (fun q87 hq87 => ?_)
        refine lv_sipush (v := 500) hx hb dL_law_90 (by decide) ?_
        refine lv_isub hx hb dL_law_93 ?_
        refine lv_iload hx hb dL_law_94 (lv_at hl 0 rfl) ?_
        refine lv_bipush (v := 7) hx hb dL_law_96 (by decide) ?_
        refine lv_ishr hx hb dL_law_98 ?_
        refine lv_bipush (v := 7) hx hb dL_law_99 (by decide) ?_
        refine r_belowN (n := 7) hx hb hml hown hG (by decide) (by decide) (by omega) wM_L_18 ⟨rO, show (10 + 1 * k) ≤ 600086 by omega, show (100 + 11 * k) ≤ 7301442 by omega⟩ (Nat.le_of_ble_eq_true rfl) dL_law_101 (fun q101 hq101 => ?_)
        refine lv_iconst (v := 3) hx hb dL_law_104 (by decide) ?_
        refine lv_isub hx hb dL_law_105 ?_
        have hz9 : s.heap.size ≤ H.size := hS.1
        have i0 : IR (60 + (nI q45)) 60 200 := (show IR 60 60 60 from IR.lit (by decide)).add (IR.of_nI (k := q45) (a := 0) (b := 140) (by omega) (by omega) (by omega)) (by decide) (by decide) (by decide) (by decide)
        have i1 : IR ((((6 * (nI k)) + 30) + (nI q62)) - (((6 * (nI k)) + 30) + (nI q62)) / 48 * 48) 0 47 := ph_IR (k := k) (q := q62) (by omega) (by omega)
        have i2 : IR ((nI q75) - 3) (-3) 3 := ((IR.of_nI (k := q75) (a := 0) (b := 6) (by omega) (by omega) (by omega)).sub (show IR 3 3 3 from IR.lit (by decide)) (by decide) (by decide) (a' := -3) (b' := 3) (by decide) (by decide))
        have i3 : IR ((nI q87) - 500) (-500) 500 := ((IR.of_nI (k := q87) (a := 0) (b := 1000) (by omega) (by omega) (by omega)).sub (show IR 500 500 500 from IR.lit (by decide)) (by decide) (by decide) (a' := -500) (b' := 500) (by decide) (by decide))
        have i4 : IR ((nI q101) - 3) (-3) 3 := ((IR.of_nI (k := q101) (a := 0) (b := 6) (by omega) (by omega) (by omega)).sub (show IR 3 3 3 from IR.lit (by decide)) (by decide) (by decide) (a' := -3) (b' := 3) (by decide) (by decide))
        have hk9 : kStar k (60 + (nI q45)) ((((6 * (nI k)) + 30) + (nI q62)) - (((6 * (nI k)) + 30) + (nI q62)) / 48 * 48) ((nI q75) - 3) ((nI q87) - 500) ((nI q101) - 3) = 0 := by
          unfold kStar
          rw [if_pos (i0.out (by decide) (by decide)), if_pos (i1.out (by decide) (by decide)), if_pos (i2.out (by decide) (by decide)), if_pos (i3.out (by decide) (by decide)), if_pos (i4.out (by decide) (by decide)), if_pos (show nI k < 8 from nI_lt (b := 8) (show k < 8 by omega) (by decide))]
        rw [← e0]
        refine kn_ui hk9 (kx_V (As := [.int (60 + (nI q45)), .int ((((6 * (nI k)) + 30) + (nI q62)) - (((6 * (nI k)) + 30) + (nI q62)) / 48 * 48), .int ((nI q75) - 3), .int ((nI q87) - 500), .int ((nI q101) - 3)]) (rest := []) hx hb hml hown hG (c_X6_star l hlf D cy ad k 0 0 hLB M V hA (60 + (nI q45)) ((((6 * (nI k)) + 30) + (nI q62)) - (((6 * (nI k)) + 30) + (nI q62)) / 48 * 48) ((nI q75) - 3) ((nI q87) - 500) ((nI q101) - 3) H.size) cf_X6_star wM_L_22 (PX2.preV hG hX (hGx.at hS) hAW hw.o rfl ⟨hw, rfl⟩) ⟨rfl, rfl, Nat.le_of_ble_eq_true rfl, Nat.le_of_ble_eq_true rfl⟩ rfl rfl (Nat.le_of_ble_eq_true rfl) ⟨show (10 + 1 * k) + 1 ≤ 600086 by omega, show (100 + 11 * k) + 11 ≤ 7301442 by omega⟩ dL_law_106) hS (fun q h => h.elim (hlo q) (fun h => Nat.le_trans hS.1 h)) (fun r H1 locs hp z1 oq1 hS => ?_)
        obtain ⟨-, h8, er, hw⟩ := hp
        have hU : SU D cy s.heap.size x0 (k + 1) 0 0 H1 := ⟨adA ad (10 + k) H.size, _, V, AI.addSt hA h8 hcl, fun q hq => (CA.addSt hq).elim (hlo q) (fun h => Nat.le_trans hz9 h), hW.star h8 i0 i1 (i3.bd (by decide) (by decide) : Bd _ 999), fun i hi => absurd hi (by omega), hw, (adA_n (by omega)).trans e0⟩
        rw [er]
        refine lv_iload_n hx hb dL_law_109 rfl (lv_at hl 1 rfl) ?_
        refine lv_icmp_eq (tgt := 115) hx hb dL_law_110 (by decide) (fun _ => ?_) (fun q9 => absurd rfl q9)
        refine lv_iinc (v := (nI (k + 1))) (lv' := [(3, .int (nI (k + 1))), (4, .int x), (2, .int (nI ns)), (1, .ref x0), (0, .ref b)]) hx hb dL_law_115 hl (k := 1) rfl ((nI_succ k).symm) (by decide) rfl (fun ls hl => ?_)
        have hml : c.maxLocals = ls.size := hml9.trans hl.1.symm
        refine lv_goto (tgt := 23) hx hb dL_law_118 (by decide) ?_
        refine W.widen (k := 10 + 1 * (k + 1)) (n := 100 + 11 * (k + 1)) (by omega) (by omega) ?_
        exact ih9 (k + 1) _ _ (by omega) hltk hU hS ls (lv_sub hl [0, 2, 3, 4] rfl)
  refine W.widen (k := 10 + 1 * 0) (n := 100 + 11 * 0) (by omega) (by omega) ?_
  exact lp23_1 (ns + 1) 0 _ _ (Nat.le_refl _) (Nat.zero_le _) hU hS ls (lv_sub hl [0, 1, 2, 3] rfl)
set_option maxHeartbeats 4000000 in
set_option maxRecDepth 100000 in
theorem lc_stations (l : Launch) (hlf : l.stackTraces = false) {p : Program} {e : Env} {s : State} {m : MethodId} {args : Array Value} {below : List Frame} {meth : Method} {c : Code} {b L : Nat} {xs : Nat → Int32} (hx : p.tables.exec = Jvm.exec) (hb : c.code = cL_law) (hml9 : c.maxLocals = 20) (hown : s.vm.findClass RL = some m.cls) {D : va_G} {cy : Nat → ClassId} (hG : GK D cy s) (hX : XWD s) (hAW : AWD s) (hGx : GXA (fun q => s.heap.size ≤ q) s s.heap) (hXs : va_X b L xs s s.heap) (hbl : b < s.heap.size) (hL31 : L < 2 ^ 31) {Q : State → Prop} {x0 : Nat} {H : Heap} {locs : List Loc} {cells slots : Nat} {ls : Array Slot} (hS : va_S (fun q => s.heap.size ≤ q) s.heap H locs) {ns nt : Nat} (h3t : nt ≤ 3) (hU : SU D cy s.heap.size x0 ns 0 0 H) (hc : cells ≤ 20) (hs : slots ≤ 200) (hl : lv_has ls 20 [(4, .int (nI 0)), (3, .int (nI nt)), (2, .int (nI ns)), (1, .ref x0), (0, .ref b)])
    (kk : ∀ (H1 : Heap) (locs1 : List Loc) (ls1 : Array Slot), SU D cy s.heap.size x0 ns nt 0 H1 → va_S (fun q => s.heap.size ≤ q) s.heap H1 locs1 → lv_has ls1 20 [(3, .int (nI nt)), (2, .int (nI ns)), (1, .ref x0), (0, .ref b)] → W p l e room_1 s m args below meth c H1 locs1 (20 + 1 * nt) (200 + 6 * nt) Q (F0 m 193 ls1 [])) :
    W p l e room_1 s m args below meth c H locs cells slots Q (F0 m 137 ls []) := by
  have hml : c.maxLocals = ls.size := hml9.trans hl.1.symm
  have hbA : ¬ (fun q => s.heap.size ≤ q) b := Nat.not_le.mpr hbl
  have rO : 7 ≤ room_1.frames ∧ 160 ≤ room_1.locals := ⟨Nat.le_of_ble_eq_true rfl, Nat.le_of_ble_eq_true rfl⟩
  have lp137_1 : ∀ (n9 : Nat) (k : Nat) (H : Heap) (locs : List Loc), nt + 1 - k ≤ n9 → k ≤ nt → SU D cy s.heap.size x0 ns k 0 H → va_S (fun q => s.heap.size ≤ q) s.heap H locs →  ∀ ls : Array Slot, lv_has ls 20 [(4, .int (nI k)), (3, .int (nI nt)), (2, .int (nI ns)), (1, .ref x0), (0, .ref b)] → W p l e room_1 s m args below meth c H locs (20 + 1 * k) (200 + 6 * k) Q (F0 m 137 ls []) := by
    intro n9
    induction n9 with
    | zero =>
      intro k H locs h9
      intro h; exact absurd h9 (by omega)
    | succ n9 ih9 =>
      intro k H locs hn9 hk hU hS ls hl
      have hml : c.maxLocals = ls.size := hml9.trans hl.1.symm
      refine lv_iload hx hb dL_law_137 (lv_at hl 0 rfl) ?_
      refine lv_iload_n hx hb dL_law_139 rfl (lv_at hl 1 rfl) ?_
      refine lv_icmp_ge (tgt := 193) hx hb dL_law_140 (by decide) (fun c_140 => ?_) (fun c_140 => ?_)
      · have ek : k = nt := Nat.le_antisymm hk ((nI_leI (by omega) (by omega)).mp c_140)
        subst ek
        exact kk H locs ls hU hS (lv_sub hl [1, 2, 3, 4] rfl)
      · have hltk : k < nt := by
          rcases Nat.lt_or_ge k nt with q9 | q9
          · exact q9
          · exact absurd ((nI_leI (by omega) (by omega)).mpr q9) c_140
        obtain ⟨ad, M, V, hA, hlo, hW, h50, hw, e0⟩ := hU
        have hLB := hW.1.1
        have hcl := CA.lt hw hLB
        refine lv_aload_n hx hb dL_law_143 rfl (lv_at hl 3 rfl) ?_
        refine lv_aload_n hx hb dL_law_144 rfl (lv_at hl 4 rfl) ?_
        refine lv_bipush (v := 9) hx hb dL_law_145 (by decide) ?_
        refine r_cell (k := 9) hx hb hml hown hG hXs hbA hS hL31 (by omega) (by decide) wM_L_12 ⟨rO, show (20 + 1 * k) ≤ 600086 by omega, show (200 + 6 * k) ≤ 7301442 by omega⟩ (Nat.le_of_ble_eq_true rfl) dL_law_147 ?_
        refine lv_iconst (v := 3) hx hb dL_law_150 (by decide) ?_
        refine lv_iload hx hb dL_law_151 (lv_at hl 0 rfl) ?_
        refine lv_iadd hx hb dL_law_153 ?_
        refine lv_ishr hx hb dL_law_154 ?_
        refine lv_bipush (v := 101) hx hb dL_law_155 (by decide) ?_
        refine r_belowN (n := 101) hx hb hml hown hG (by decide) (by decide) (by omega) wM_L_18 ⟨rO, show (20 + 1 * k) ≤ 600086 by omega, show (200 + 6 * k) ≤ 7301442 by omega⟩ (Nat.le_of_ble_eq_true rfl) dL_law_157 (fun q157 hq157 => ?_)
        refine lv_bipush (v := 50) hx hb dL_law_160 (by decide) ?_
        refine lv_isub hx hb dL_law_162 ?_
        refine lv_aload_n hx hb dL_law_163 rfl (lv_at hl 4 rfl) ?_
        refine lv_bipush (v := 9) hx hb dL_law_164 (by decide) ?_
        refine r_cell (k := 9) hx hb hml hown hG hXs hbA hS hL31 (by omega) (by decide) wM_L_12 ⟨rO, show (20 + 1 * k) ≤ 600086 by omega, show (200 + 6 * k) ≤ 7301442 by omega⟩ (Nat.le_of_ble_eq_true rfl) dL_law_166 ?_
        refine lv_iload hx hb dL_law_169 (lv_at hl 0 rfl) ?_
        refine lv_ishr hx hb dL_law_171 ?_
        refine lv_bipush (v := 10) hx hb dL_law_172 (by decide) ?_
        refine r_belowN (n := 10) hx hb hml hown hG (by decide) (by decide) (by omega) wM_L_18 ⟨rO, show (20 + 1 * k) ≤ 600086 by omega, show (200 + 6 * k) ≤ 7301442 by omega⟩ (Nat.le_of_ble_eq_true rfl) dL_law_174 (fun q174 hq174 => ?_)
        have hz9 : s.heap.size ≤ H.size := hS.1
        have i0 : IR ((nI q157) - 50) (-50) 50 := ((IR.of_nI (k := q157) (a := 0) (b := 100) (by omega) (by omega) (by omega)).sub (show IR 50 50 50 from IR.lit (by decide)) (by decide) (by decide) (a' := -50) (b' := 50) (by decide) (by decide))
        have i1 : IR (nI q174) 0 9 := IR.of_nI (by omega) (by omega) (by omega)
        have hk9 : kStn k ((nI q157) - 50) (nI q174) = 0 := by
          unfold kStn
          rw [if_pos (i0.out (by decide) (by decide)), if_pos (i1.out (by decide) (by decide)), if_pos (show nI k < 3 from nI_lt (b := 3) (show k < 3 by omega) (by decide))]
        rw [← e0]
        refine kn_ui hk9 (kx_V (As := [.int ((nI q157) - 50), .int (nI q174)]) (rest := []) hx hb hml hown hG (c_X6_station l hlf D cy ad ns k 0 hLB M V hA ((nI q157) - 50) (nI q174) H.size) cf_X6_station wM_L_26 (PX2.preV hG hX (hGx.at hS) hAW hw.o rfl ⟨hw, rfl⟩) ⟨rfl, rfl, Nat.le_of_ble_eq_true rfl, Nat.le_of_ble_eq_true rfl⟩ rfl rfl (Nat.le_of_ble_eq_true rfl) ⟨show (20 + 1 * k) + 1 ≤ 600086 by omega, show (200 + 6 * k) + 6 ≤ 7301442 by omega⟩ dL_law_177) hS (fun q h => h.elim (hlo q) (fun h => Nat.le_trans hS.1 h)) (fun r H1 locs hp z1 oq1 hS => ?_)
        obtain ⟨-, h8, er, hw⟩ := hp
        have hU : SU D cy s.heap.size x0 ns (k + 1) 0 H1 := ⟨adA ad (20 + k) H.size, _, V, AI.addSn hA h8 hcl, fun q hq => (CA.addSn hq).elim (hlo q) (fun h => Nat.le_trans hz9 h), hW.station h8 i1, fun i hi => absurd hi (by omega), hw, (adA_n (by omega)).trans e0⟩
        rw [er]
        refine lv_iload hx hb dL_law_180 (lv_at hl 0 rfl) ?_
        refine lv_icmp_eq (tgt := 187) hx hb dL_law_182 (by decide) (fun _ => ?_) (fun q9 => absurd rfl q9)
        refine lv_iinc (v := (nI (k + 1))) (lv' := [(4, .int (nI (k + 1))), (3, .int (nI nt)), (2, .int (nI ns)), (1, .ref x0), (0, .ref b)]) hx hb dL_law_187 hl (k := 0) rfl ((nI_succ k).symm) (by decide) rfl (fun ls hl => ?_)
        have hml : c.maxLocals = ls.size := hml9.trans hl.1.symm
        refine lv_goto (tgt := 137) hx hb dL_law_190 (by decide) ?_
        refine W.widen (k := 20 + 1 * (k + 1)) (n := 200 + 6 * (k + 1)) (by omega) (by omega) ?_
        exact ih9 (k + 1) _ _ (by omega) hltk hU hS ls (lv_sub hl [0, 1, 2, 3, 4] rfl)
  refine W.widen (k := 20 + 1 * 0) (n := 200 + 6 * 0) (by omega) (by omega) ?_
  exact lp137_1 (nt + 1) 0 _ _ (Nat.le_refl _) (Nat.zero_le _) hU hS ls (lv_sub hl [0, 1, 2, 3, 4] rfl)
set_option maxHeartbeats 4000000 in
set_option maxRecDepth 100000 in
theorem lc_receivers (l : Launch) (hlf : l.stackTraces = false) {p : Program} {e : Env} {s : State} {m : MethodId} {args : Array Value} {below : List Frame} {meth : Method} {c : Code} {b L : Nat} {xs : Nat → Int32} (hx : p.tables.exec = Jvm.exec) (hb : c.code = cL_law) (hml9 : c.maxLocals = 20) (hown : s.vm.findClass RL = some m.cls) {D : va_G} {cy : Nat → ClassId} (hG : GK D cy s) (hX : XWD s) (hAW : AWD s) (hGx : GXA (fun q => s.heap.size ≤ q) s s.heap) (hXs : va_X b L xs s s.heap) (hbl : b < s.heap.size) (hL31 : L < 2 ^ 31) {Q : State → Prop} {x0 : Nat} {H : Heap} {locs : List Loc} {cells slots : Nat} {ls : Array Slot} (hS : va_S (fun q => s.heap.size ≤ q) s.heap H locs) {ns nt nr : Nat} (h3r : nr ≤ 3) (hU : SU D cy s.heap.size x0 ns nt 0 H) (hc : cells ≤ 30) (hs : slots ≤ 300) (hl : lv_has ls 20 [(5, .int (nI 0)), (4, .int (nI nr)), (3, .int (nI nt)), (2, .int (nI ns)), (1, .ref x0), (0, .ref b)])
    (kk : ∀ (H1 : Heap) (locs1 : List Loc) (ls1 : Array Slot), SU D cy s.heap.size x0 ns nt nr H1 → va_S (fun q => s.heap.size ≤ q) s.heap H1 locs1 → lv_has ls1 20 [(4, .int (nI nr)), (3, .int (nI nt)), (2, .int (nI ns)), (1, .ref x0), (0, .ref b)] → W p l e room_1 s m args below meth c H1 locs1 (30 + 11 * nr) (300 + 122 * nr) Q (F0 m 283 ls1 [])) :
    W p l e room_1 s m args below meth c H locs cells slots Q (F0 m 210 ls []) := by
  have hml : c.maxLocals = ls.size := hml9.trans hl.1.symm
  have hbA : ¬ (fun q => s.heap.size ≤ q) b := Nat.not_le.mpr hbl
  have rO : 7 ≤ room_1.frames ∧ 160 ≤ room_1.locals := ⟨Nat.le_of_ble_eq_true rfl, Nat.le_of_ble_eq_true rfl⟩
  have lp210_1 : ∀ (n9 : Nat) (k : Nat) (H : Heap) (locs : List Loc), nr + 1 - k ≤ n9 → k ≤ nr → SU D cy s.heap.size x0 ns nt k H → va_S (fun q => s.heap.size ≤ q) s.heap H locs →  ∀ ls : Array Slot, lv_has ls 20 [(5, .int (nI k)), (4, .int (nI nr)), (3, .int (nI nt)), (2, .int (nI ns)), (1, .ref x0), (0, .ref b)] → W p l e room_1 s m args below meth c H locs (30 + 11 * k) (300 + 122 * k) Q (F0 m 210 ls []) := by
    intro n9
    induction n9 with
    | zero =>
      intro k H locs h9
      intro h; exact absurd h9 (by omega)
    | succ n9 ih9 =>
      intro k H locs hn9 hk hU hS ls hl
      have hml : c.maxLocals = ls.size := hml9.trans hl.1.symm
      refine lv_iload hx hb dL_law_210 (lv_at hl 0 rfl) ?_
      refine lv_iload hx hb dL_law_212 (lv_at hl 1 rfl) ?_
      refine lv_icmp_ge (tgt := 283) hx hb dL_law_214 (by decide) (fun c_214 => ?_) (fun c_214 => ?_)
      · have ek : k = nr := Nat.le_antisymm hk ((nI_leI (by omega) (by omega)).mp c_214)
        subst ek
        exact kk H locs ls hU hS (lv_sub hl [1, 2, 3, 4, 5] rfl)
      · have hltk : k < nr := by
          rcases Nat.lt_or_ge k nr with q9 | q9
          · exact q9
          · exact absurd ((nI_leI (by omega) (by omega)).mpr q9) c_214
        obtain ⟨ad, M, V, hA, hlo, hW, h50, hw, e0⟩ := hU
        have hLB := hW.1.1
        have hcl := CA.lt hw hLB
        refine lv_aload_n hx hb dL_law_217 rfl (lv_at hl 4 rfl) ?_
        refine lv_aload_n hx hb dL_law_218 rfl (lv_at hl 5 rfl) ?_
        refine lv_bipush (v := 11) hx hb dL_law_219 (by decide) ?_
        refine r_cell (k := 11) hx hb hml hown hG hXs hbA hS hL31 (by omega) (by decide) wM_L_12 ⟨rO, show (30 + 11 * k) ≤ 600086 by omega, show (300 + 122 * k) ≤ 7301442 by omega⟩ (Nat.le_of_ble_eq_true rfl) dL_law_221 ?_
        refine lv_iload hx hb dL_law_224 (lv_at hl 0 rfl) ?_
        refine lv_ishr hx hb dL_law_226 ?_
        refine lv_bipush (v := 25) hx hb dL_law_227 (by decide) ?_
        refine r_belowN (n := 25) hx hb hml hown hG (by decide) (by decide) (by omega) wM_L_18 ⟨rO, show (30 + 11 * k) ≤ 600086 by omega, show (300 + 122 * k) ≤ 7301442 by omega⟩ (Nat.le_of_ble_eq_true rfl) dL_law_229 (fun q229 hq229 => ?_)
        refine lv_bipush (v := 12) hx hb dL_law_232 (by decide) ?_
        refine lv_isub hx hb dL_law_234 ?_
        refine lv_aload_n hx hb dL_law_235 rfl (lv_at hl 5 rfl) ?_
        refine lv_bipush (v := 12) hx hb dL_law_236 (by decide) ?_
        refine r_cell (k := 12) hx hb hml hown hG hXs hbA hS hL31 (by omega) (by decide) wM_L_12 ⟨rO, show (30 + 11 * k) ≤ 600086 by omega, show (300 + 122 * k) ≤ 7301442 by omega⟩ (Nat.le_of_ble_eq_true rfl) dL_law_238 ?_
        refine lv_iload hx hb dL_law_241 (lv_at hl 0 rfl) ?_
        refine lv_ishr hx hb dL_law_243 ?_
        refine lv_bipush (v := 13) hx hb dL_law_244 (by decide) ?_
        refine r_belowN (n := 13) hx hb hml hown hG (by decide) (by decide) (by omega) wM_L_18 ⟨rO, show (30 + 11 * k) ≤ 600086 by omega, show (300 + 122 * k) ≤ 7301442 by omega⟩ (Nat.le_of_ble_eq_true rfl) dL_law_246 (fun q246 hq246 => ?_)
        refine lv_aload_n hx hb dL_law_249 rfl (lv_at hl 5 rfl) ?_
        refine lv_bipush (v := 13) hx hb dL_law_250 (by decide) ?_
        refine r_cell (k := 13) hx hb hml hown hG hXs hbA hS hL31 (by omega) (by decide) wM_L_12 ⟨rO, show (30 + 11 * k) ≤ 600086 by omega, show (300 + 122 * k) ≤ 7301442 by omega⟩ (Nat.le_of_ble_eq_true rfl) dL_law_252 ?_
        refine lv_iload hx hb dL_law_255 (lv_at hl 0 rfl) ?_
        refine lv_ishr hx hb dL_law_257 ?_
        refine lv_sipush (v := 199) hx hb dL_law_258 (by decide) ?_
        refine r_belowN (n := 199) hx hb hml hown hG (by decide) (by decide) (by omega) wM_L_18 ⟨rO, show (30 + 11 * k) ≤ 600086 by omega, show (300 + 122 * k) ≤ 7301442 by omega⟩ (Nat.le_of_ble_eq_true rfl) dL_law_261 (fun q261 hq261 => ?_)
        refine lv_bipush (v := 99) hx hb dL_law_264 (by decide) ?_
        refine lv_isub hx hb dL_law_266 ?_
        have hz9 : s.heap.size ≤ H.size := hS.1
        have i0 : IR ((nI q229) - 12) (-12) 12 := ((IR.of_nI (k := q229) (a := 0) (b := 24) (by omega) (by omega) (by omega)).sub (show IR 12 12 12 from IR.lit (by decide)) (by decide) (by decide) (a' := -12) (b' := 12) (by decide) (by decide))
        have i1 : IR (nI q246) 0 12 := IR.of_nI (by omega) (by omega) (by omega)
        have i2 : IR ((nI q261) - 99) (-99) 99 := ((IR.of_nI (k := q261) (a := 0) (b := 198) (by omega) (by omega) (by omega)).sub (show IR 99 99 99 from IR.lit (by decide)) (by decide) (by decide) (a' := -99) (b' := 99) (by decide) (by decide))
        have hk9 : kRec k ((nI q229) - 12) (nI q246) ((nI q261) - 99) = 0 := by
          unfold kRec
          rw [if_pos (noPlace_z (i0.out (by decide) (by decide)) (i1.out (by decide) (by decide))), if_pos (i2.out (by decide) (by decide)), if_pos (show nI k < 3 from nI_lt (b := 3) (show k < 3 by omega) (by decide))]
        rw [← e0]
        refine kn_ui hk9 (kx_V (As := [.int ((nI q229) - 12), .int (nI q246), .int ((nI q261) - 99)]) (rest := []) hx hb hml hown hG (c_X6_receiver l hlf D cy ad ns nt k hLB M V hA ((nI q229) - 12) (nI q246) ((nI q261) - 99) H.size) cf_X6_receiver wM_L_29 (PX2.preV hG hX (hGx.at hS) hAW hw.o rfl ⟨hw, rfl⟩) ⟨rfl, rfl, Nat.le_of_ble_eq_true rfl, Nat.le_of_ble_eq_true rfl⟩ rfl rfl (Nat.le_of_ble_eq_true rfl) ⟨show (30 + 11 * k) + 11 ≤ 600086 by omega, show (300 + 122 * k) + 122 ≤ 7301442 by omega⟩ dL_law_267) hS (fun q h => h.elim (hlo q) (fun h => Nat.le_trans hS.1 h)) (fun r H1 locs hp z1 oq1 hS => ?_)
        obtain ⟨-, h8, er, hw⟩ := hp
        have hU : SU D cy s.heap.size x0 ns nt (k + 1) H1 := ⟨adR ad k H.size, _, V, AI.addRc hA h8 hcl, fun q hq => (CA.addRc h8 hq).elim (hlo q) (fun h => Nat.le_trans hz9 h), hW.receiver h8 (i0.bd (by decide) (by decide)) i1 (i2.bd (by decide) (by decide)), fun i hi => new_50 h8 h50 hi, hw, (adR_n (by unfold NK; omega)).trans e0⟩
        rw [er]
        refine lv_iload hx hb dL_law_270 (lv_at hl 0 rfl) ?_
        refine lv_icmp_eq (tgt := 277) hx hb dL_law_272 (by decide) (fun _ => ?_) (fun q9 => absurd rfl q9)
        refine lv_iinc (v := (nI (k + 1))) (lv' := [(5, .int (nI (k + 1))), (4, .int (nI nr)), (3, .int (nI nt)), (2, .int (nI ns)), (1, .ref x0), (0, .ref b)]) hx hb dL_law_277 hl (k := 0) rfl ((nI_succ k).symm) (by decide) rfl (fun ls hl => ?_)
        have hml : c.maxLocals = ls.size := hml9.trans hl.1.symm
        refine lv_goto (tgt := 210) hx hb dL_law_280 (by decide) ?_
        refine W.widen (k := 30 + 11 * (k + 1)) (n := 300 + 122 * (k + 1)) (by omega) (by omega) ?_
        exact ih9 (k + 1) _ _ (by omega) hltk hU hS ls (lv_sub hl [0, 1, 2, 3, 4, 5] rfl)
  refine W.widen (k := 30 + 11 * 0) (n := 300 + 122 * 0) (by omega) (by omega) ?_
  exact lp210_1 (nr + 1) 0 _ _ (Nat.le_refl _) (Nat.zero_le _) hU hS ls (lv_sub hl [0, 1, 2, 3, 4, 5] rfl)
