-- facts for the observation in the law
section OBF
variable {e n ns nt nr i k : Nat} {M : Nat → Nat → Int32} {V : SX}
theorem ob_nI (h8 : ns ≤ 8) : oN M ns nr i V ≤ 8 := Nat.le_trans oN_le h8
theorem ob_lt4 (h8 : ns ≤ 8) (h : oN M ns nr i V < 4) : ¬ 4 ≤ nI (oN M ns nr i V) := fun q => by
  have := ob_nI (M := M) (nr := nr) (i := i) (V := V) h8
  have := (nI_leI (a := 4) (b := oN M ns nr i V) (by decide) (by omega)).mp q
  omega
theorem ob_ge4 (h8 : ns ≤ 8) (h : ¬ oN M ns nr i V < 4) : 4 ≤ nI (oN M ns nr i V) := by
  have := ob_nI (M := M) (nr := nr) (i := i) (V := V) h8
  exact (nI_leI (a := 4) (b := oN M ns nr i V) (by decide) (by omega)).mpr (by omega)
theorem ob_le3 (h8 : ns ≤ 8) (h : oN M ns nr i V < 4) : nI (oN M ns nr i V) ≤ 3 := by
  have := ob_nI (M := M) (nr := nr) (i := i) (V := V) h8
  exact (nI_leI (a := oN M ns nr i V) (b := 3) (by omega) (by decide)).mpr (by omega)
theorem ob_gt3 (h8 : ns ≤ 8) (h : ¬ oN M ns nr i V < 4) : ¬ nI (oN M ns nr i V) ≤ 3 := fun q => by
  have := ob_nI (M := M) (nr := nr) (i := i) (V := V) h8
  have := (nI_leI (a := oN M ns nr i V) (b := 3) (by omega) (by decide)).mp q
  omega
theorem ob_hiR (h : JW e n ns nt nr M) (hn : n < 60) (hi : i < nr) (h4 : ¬ oN M ns nr i V < 4) : IR (obZ M ns nr i V 10) 3 27 := (oZ_hi h hn hi (by omega)).2.2 (by omega)
theorem ob_hi99 (h : JW e n ns nt nr M) (hn : n < 60) (hi : i < nr) (h4 : ¬ oN M ns nr i V < 4) : ¬ obZ M ns nr i V 10 = 99 := fun q => by
  obtain ⟨a, b⟩ := ob_hiR h hn hi h4
  rw [q] at b
  exact absurd b (by decide)
theorem ob_hi3 (h : JW e n ns nt nr M) (hn : n < 60) (hi : i < nr) (h4 : ¬ oN M ns nr i V < 4) : ¬ obZ M ns nr i V 10 < 3 := (ob_hiR h hn hi h4).nlt (by decide)
theorem i40 (h8 : ns ≤ 8) : (40 * nI (oN M ns nr i V)).toInt = 40 * (oN M ns nr i V : Int) := by
  have := ob_nI (M := M) (nr := nr) (i := i) (V := V) h8
  have e40 : (40 : Int32).toInt = 40 := by decide
  rw [i_mul (by rw [e40, nI_toInt (by omega)]; omega) (by rw [e40, nI_toInt (by omega)]; omega), e40, nI_toInt (by omega)]
section OBO
variable {t t' : Nat → Int32} {al lv tx ty : Int32} {cost : Int} {N : Nat}
theorem ob_cost1 (h8 : ns ≤ 8) (hO : OT e t t' (oN M ns nr i V) al lv tx ty (obC M ns nr i V).toInt) (hA : oA M ns nr i V = 2 ↔ 4 ≤ oN M ns nr i V ∧ 40 * (oN M ns nr i V : Int) < (obC M ns nr i V).toInt) (h : oA M ns nr i V = 2) : ¬ t' 8 ≤ 40 * nI (oN M ns nr i V) := fun q => by
  obtain ⟨a, b⟩ := hA.mp h
  have h2 := hO.2.1 a
  rw [Int32.le_iff_toInt_le, i40 h8, h2] at q
  omega
theorem ob_cost0 (h8 : ns ≤ 8) (hO : OT e t t' (oN M ns nr i V) al lv tx ty (obC M ns nr i V).toInt) (hA : oA M ns nr i V = 2 ↔ 4 ≤ oN M ns nr i V ∧ 40 * (oN M ns nr i V : Int) < (obC M ns nr i V).toInt) (h4 : ¬ oN M ns nr i V < 4) (h : ¬ oA M ns nr i V = 2) : t' 8 ≤ 40 * nI (oN M ns nr i V) := by
  have h2 := hO.2.1 (by omega)
  rw [Int32.le_iff_toInt_le, i40 h8, h2]
  rcases Int.lt_or_le (40 * (oN M ns nr i V : Int)) (obC M ns nr i V).toInt with q | q
  · exact absurd (hA.mpr ⟨by omega, q⟩) h
  · exact q
theorem ob_mis0 (hO : OT e t t' N al lv tx ty cost) (h : al = 0) (c : pErrAt t' tx ty ≤ lv) : t' 11 = t 11 + 0 := (hO.2.2.1 h (Int32.not_lt.mpr c)).trans (Int32.add_zero _).symm
theorem ob_mis1 (hO : OT e t t' N al lv tx ty cost) (h : al = 0) (c : ¬ pErrAt t' tx ty ≤ lv) : t' 11 = t 11 + 1 := hO.2.2.2.1 h (Int32.not_le.mp c)
theorem ob_misx (hO : OT e t t' N al lv tx ty cost) (h : ¬ al = 0) : t' 11 = t 11 + 0 := (hO.2.2.2.2 h).trans (Int32.add_zero _).symm
theorem ob_pos (h : ¬ oA M ns nr i V = 0) : ¬ oA M ns nr i V ≤ 0 := fun q => by
  obtain ⟨a, b⟩ := oA_IR (M := M) (ns := ns) (nr := nr) (i := i) (V := V)
  rw [Int32.le_iff_toInt_le, tI_0] at q
  exact h (Int32.toInt_inj.mp (by rw [tI_0]; omega))
theorem ob_ep0 (hW : JW e n ns nt nr M) (hi : i < nr) (hno : bI (pObsIn (M (50 + i)) (M 0 0)) = 0) (hO : OT e (M (50 + i)) t' N al lv tx ty cost) (h : al = 0) : ¬ t' 12 = M 0 0 := by
  have h3 := hW.1.1.2.2
  have he := hW.1.2.1
  obtain ⟨-, ⟨-, h1, -, -, -, h12⟩, -⟩ := hW.2.2.2.2 i hi
  rw [hO.1.2.2.2.2.2, if_pos (by rw [h]; decide), hW.2.1]
  intro q9
  rw [q9] at h12
  obtain ⟨-, h12⟩ := h12
  rw [nI_toInt (by omega)] at h12
  rcases h1 with ⟨-, h1⟩ | ⟨h0, q, hq, h1⟩
  · rw [h1, tI_m1] at h12
    omega
  · rw [h1, nI_toInt (by omega)] at h12
    have eq : q = e := by omega
    rw [hW.2.1] at hno
    unfold pObsIn at hno
    by_cases c : M (50 + i) 0 ≤ 0
    · obtain ⟨-, ⟨⟨k0, hk0, ek0⟩, -⟩, -⟩ := hW.2.2.2.2 i hi
      have hn := hW.1.2.2
      rw [ek0] at c h0
      have := (nI_leI (a := k0) (b := 0) (by omega) (by decide)).mp c
      exact h0 (by rw [show k0 = 0 by omega]; exact nI_0)
    · rw [if_neg c, if_pos (by rw [h1, eq])] at hno
      exact absurd hno (by decide)
theorem ob_epx (hM0 : M 0 0 = nI e) (hO : OT e t t' N al lv tx ty cost) (h : ¬ al ≤ 0) : t' 12 = M 0 0 := by
  rw [hO.1.2.2.2.2.2, if_neg h, hM0]
end OBO
theorem ob_seen0 {v : Nat → Int32} (h8 : ns ≤ 8) (hk : k < ns) (c : ¬ pSet v M 0 ns >>> (nI k &&& 31) &&& 1 = 1) : pSee v (M (10 + k)) 0 = false := by
  have h1 : ¬ lBit (pSet v M 0 ns) k = 1 := c
  rw [pSet_bit h8 hk] at h1
  cases h : pSee v (M (10 + k)) 0 with
  | false => rfl
  | true =>
    rw [h] at h1
    exact absurd rfl h1
theorem ob_seen1 {v : Nat → Int32} (h8 : ns ≤ 8) (hk : k < ns) (c : pSet v M 0 ns >>> (nI k &&& 31) &&& 1 = 1) : pSee v (M (10 + k)) 0 = true := by
  have h1 : lBit (pSet v M 0 ns) k = 1 := c
  rw [pSet_bit h8 hk] at h1
  cases h : pSee v (M (10 + k)) 0 with
  | true => rfl
  | false =>
    rw [h] at h1
    exact absurd h1 (by decide)
theorem ob_k1 {g : Nat → Int32} {f : Bool} (h : JG (n + 1) g) (h0 : g 0 = bI f) (hf : f = true) (hn : n < 60) : ¬ (if g 0 = 0 then -1 else g 7) ≤ 0 := by
  have g1 : g 0 = 1 := by rw [h0, hf]; rfl
  obtain ⟨-, -, -, a, b, a1, a2, -, e7, -⟩ := h.2.2.1 g1
  rw [if_neg (by rw [g1]; decide), e7]
  intro q
  have := (nI_leI (a := a) (b := 0) (by omega) (by decide)).mp q
  omega
theorem ob_k0 {g : Nat → Int32} {f : Bool} (h0 : g 0 = bI f) (hf : f = false) : (if g 0 = 0 then -1 else g 7) ≤ 0 := by
  rw [if_pos (by rw [h0, hf]; rfl)]
  decide
theorem ob_u0 {g : Nat → Int32} {cg f h : Bool} (h2 : g 2 = bI cg) (ec : cg = (if bI f = 0 then false else if bI h = 0 then false else true)) (hf : f = false) : (if g 2 = 0 then 0 else 1) = (0 : Int32) := by
  rw [h2, ec, hf]
  rfl
theorem ob_u1h {g : Nat → Int32} {cg f h : Bool} (h2 : g 2 = bI cg) (ec : cg = (if bI f = 0 then false else if bI h = 0 then false else true)) (hf : f = true) (c : (if bI h = 0 then (0 : Int32) else 1) = 1) : (if g 2 = 0 then 0 else 1) = (1 : Int32) := by
  cases h with
  | true => rw [h2, ec, hf]; rfl
  | false => exact absurd c (by decide)
theorem ob_u1n {g : Nat → Int32} {cg f h : Bool} (h2 : g 2 = bI cg) (ec : cg = (if bI f = 0 then false else if bI h = 0 then false else true)) (hf : f = true) (c : ¬ (if bI h = 0 then (0 : Int32) else 1) = 1) : (if g 2 = 0 then 0 else 1) = (0 : Int32) := by
  cases h with
  | true => exact absurd rfl c
  | false => rw [h2, ec, hf]; rfl
theorem jr_ne {v : Nat → Int32} (h : JR nr i v) (h3 : nr ≤ 3) (hi : i < nr) : v 12 ≠ nI i := fun q9 => by
  obtain ⟨-, -, hq, -⟩ := h
  rcases hq with hq | ⟨q, h1, h2, hq⟩
  · rw [hq] at q9
    have h2 := congrArg Int32.toInt q9
    rw [tI_m1, nI_toInt (by omega)] at h2
    omega
  · rw [hq] at q9
    exact h2 ((nI_eq (by omega) (by omega)).mp q9)
theorem pSet_of {v : Nat → Int32} {M' : Nat → Nat → Int32} {ep : Int32} : ∀ {k : Nat}, (∀ j, j < k → M' (10 + j) = M (10 + j)) → pSet v M' ep k = pSet v M ep k
  | 0, _ => by rw [pSet, pSet]
  | k + 1, h => by rw [pSet, pSet, pSet_of (fun j hj => h j (by omega)), h k (by omega)]
theorem pSet_ob {v T : Nat → Int32} (h8 : ns ≤ 8) : pSet v (mset (obM M ns nr i) (50 + i) T) 0 ns = pSet v M 0 ns :=
  pSet_of (fun j hj => by rw [mset_n (by omega), obM_out (by omega)])
end OBF
-- the observation in the law
set_option maxHeartbeats 8000000 in
set_option maxRecDepth 100000 in
theorem lc_obs {p : Program} {l : Launch} {e : Env} {s : State} {m : MethodId} {args : Array Value} {below : List Frame} {meth : Method} {c : Code} {H : Heap} {locs : List Loc} {cells slots c0 s0 : Nat} {Q : State → Prop} {ls : Array Slot} {D : va_G} {cy : Nat → ClassId} {A0 : Nat → Prop} {ad : Nat → Nat} {ns nt nr b : Nat} {M : Nat → Nat → Int32} {V : SX} {I0 : Int32} (hK : QX D cy p l s m c cL_law A0 ad ns nt nr) (hml9 : c.maxLocals = 20) {t ep ob : Nat} (ht : t < 60) (hW : JW ep t ns nt nr M) (hep : ep ≤ 20 * t + 1) (hob : pSumR M 7 nr = nI ob) (hobt : ob ≤ t) (hw : CW D cy ad ns nt nr M V H) (hS : va_S A0 s.heap H locs) (hc0 : cells ≤ c0 + 4) (hs0 : slots ≤ s0 + 24) (hc : c0 + 60 ≤ 600086) (hs : s0 + 360 ≤ 7301442) {i : Nat} (hi : i < nr) (hI0 : I0 = pSumS M 6 ns) (hno : bI (pObsIn (M (50 + i)) (M 0 0)) = 0) (hl : lv_has ls 20 [(10, .int I0), (9, .int (nI i)), (6, .int (nI t)), (5, .int (nI ob)), (4, .int (nI nr)), (3, .int (nI nt)), (2, .int (nI ns)), (1, .ref (ad 0)), (0, .ref b)])
    (kk : ∀ (M1 : Nat → Nat → Int32) (V1 : SX) (e1 ob1 : Nat) (H1 : Heap) (locs1 : List Loc), JW e1 (t + 1) ns nt nr M1 → e1 ≤ 20 * (t + 1) → pSumR M1 7 nr = nI ob1 → ob1 ≤ t + 1 → I0 ≤ pSumS M1 6 ns → CW D cy ad ns nt nr M1 V1 H1 → va_S A0 s.heap H1 locs1 → ∀ ls1 : Array Slot, lv_has ls1 20 [(10, .int I0), (6, .int (nI t)), (5, .int (nI ob1)), (4, .int (nI nr)), (3, .int (nI nt)), (2, .int (nI ns)), (1, .ref (ad 0)), (0, .ref b)] → W p l e room_1 s m args below meth c H1 locs1 (c0 + 60) (s0 + 360) Q (F0 m 1291 ls1 [])) :
    W p l e room_1 s m args below meth c H locs cells slots Q (F0 m 923 ls []) := by
  obtain ⟨⟨hx, hb, hown⟩, ⟨hG, hX, hGx⟩, ⟨hL, hA, hA0⟩, hlf⟩ := id hK
  have hml : c.maxLocals = ls.size := hml9.trans hl.1.symm
  have h1 := hL.1
  have h2 := hL.2.1
  have h3 := hL.2.2
  have rO : 7 ≤ room_1.frames ∧ 160 ≤ room_1.locals := ⟨Nat.le_of_ble_eq_true rfl, Nat.le_of_ble_eq_true rfl⟩
  have hM0 := hW.2.1
  refine lv_aload_n hx hb dL_law_923 rfl (lv_at hl 7 rfl) ?_
  refine lv_iload hx hb dL_law_924 (lv_at hl 1 rfl) ?_
  refine lv_bipush (v := 11) hx hb dL_law_926 (by decide) ?_
  refine q_ofReceiver (v := M (50 + i) 11) hK hml hw hS hi (by decide) rfl wM_L_65 ⟨rO, show cells + 1 ≤ 600086 by omega, show slots + 6 ≤ 7301442 by omega⟩ (Nat.le_of_ble_eq_true rfl) dL_law_928 (fun H locs hw z1 hS => ?_)
  refine lv_istore (lv' := [(12, .int (M (50 + i) 11)), (10, .int I0), (9, .int (nI i)), (6, .int (nI t)), (5, .int (nI ob)), (4, .int (nI nr)), (3, .int (nI nt)), (2, .int (nI ns)), (1, .ref (ad 0)), (0, .ref b)]) hx hb dL_law_931 hl (by decide) rfl (fun ls hl => ?_)
  have hml : c.maxLocals = ls.size := hml9.trans hl.1.symm
  refine lv_aload_n hx hb dL_law_933 rfl (lv_at hl 8 rfl) ?_
  refine lv_iload hx hb dL_law_934 (lv_at hl 2 rfl) ?_
  refine q_observe (v9 := (oA M ns nr i V)) hK hml hw hS hi (fun q hq => jr_ne (hW.2.2.2.2 q hq).1 h3 hq) hno ((obT_OT (V := V) hW ht hi).1.2.2.2.2.1) wM_L_89 ⟨rO, show (cells + 1) + 1 ≤ 600086 by omega, show (slots + 6) + 6 ≤ 7301442 by omega⟩ (Nat.le_of_ble_eq_true rfl) dL_law_936 (fun V2 H locs hw z1 hS => ?_)
  have hO := obT_OT (V := V) hW ht hi
  have hA2 := oA_2 (M := M) (nr := nr) (i := i) (V := V) h1
  have e50 : (mset (obM M ns nr i) (50 + i) (obT M ns nr i V)) (50 + i) = obT M ns nr i V := mset_s
  have e30 : (mset (obM M ns nr i) (50 + i) (obT M ns nr i V)) (30 + i) = M (30 + i) := (mset_n (by omega)).trans (obM_out (by omega))
  have e00 : (mset (obM M ns nr i) (50 + i) (obT M ns nr i V)) 0 0 = M 0 0 := congrFun ((mset_n (by omega)).trans (obM_out (by omega))) 0
  refine lv_istore (lv' := [(13, .int (oA M ns nr i V)), (12, .int (M (50 + i) 11)), (10, .int I0), (9, .int (nI i)), (6, .int (nI t)), (5, .int (nI ob)), (4, .int (nI nr)), (3, .int (nI nt)), (2, .int (nI ns)), (1, .ref (ad 0)), (0, .ref b)]) hx hb dL_law_939 hl (by decide) rfl (fun ls hl => ?_)
  have hml : c.maxLocals = ls.size := hml9.trans hl.1.symm
  refine lv_iinc (v := (nI (ob + 1))) (lv' := [(5, .int (nI (ob + 1))), (13, .int (oA M ns nr i V)), (12, .int (M (50 + i) 11)), (10, .int I0), (9, .int (nI i)), (6, .int (nI t)), (4, .int (nI nr)), (3, .int (nI nt)), (2, .int (nI ns)), (1, .ref (ad 0)), (0, .ref b)]) hx hb dL_law_941 hl (k := 5) rfl ((nI_succ ob).symm) (by decide) rfl (fun ls hl => ?_)
  have hml : c.maxLocals = ls.size := hml9.trans hl.1.symm
  refine lv_aload_n hx hb dL_law_944 rfl (lv_at hl 9 rfl) ?_
  refine lv_iload hx hb dL_law_945 (lv_at hl 4 rfl) ?_
  refine lv_iconst (v := 4) hx hb dL_law_947 (by decide) ?_
  refine q_ofReceiver (v := nI (oN M ns nr i V)) hK hml hw hS hi (by decide) ((congrFun e50 2).trans hO.1.2.2.1) wM_L_65 ⟨rO, show (cells + 2) + 1 ≤ 600086 by omega, show (slots + 12) + 6 ≤ 7301442 by omega⟩ (Nat.le_of_ble_eq_true rfl) dL_law_948 (fun H locs hw z1 hS => ?_)
  refine lv_istore (lv' := [(14, .int (nI (oN M ns nr i V))), (5, .int (nI (ob + 1))), (13, .int (oA M ns nr i V)), (12, .int (M (50 + i) 11)), (10, .int I0), (9, .int (nI i)), (6, .int (nI t)), (4, .int (nI nr)), (3, .int (nI nt)), (2, .int (nI ns)), (1, .ref (ad 0)), (0, .ref b)]) hx hb dL_law_951 hl (by decide) rfl (fun ls hl => ?_)
  have hml : c.maxLocals = ls.size := hml9.trans hl.1.symm
  refine lv_aload_n hx hb dL_law_953 rfl (lv_at hl 10 rfl) ?_
  refine lv_iload hx hb dL_law_954 (lv_at hl 5 rfl) ?_
  refine lv_bipush (v := 13) hx hb dL_law_956 (by decide) ?_
  refine q_ofReceiver (v := (pErrAt (obT M ns nr i V) (M (30 + i) 4) (M (30 + i) 5))) hK hml hw hS hi (by decide) (by show pErrAt ((mset (obM M ns nr i) (50 + i) (obT M ns nr i V)) (50 + i)) ((mset (obM M ns nr i) (50 + i) (obT M ns nr i V)) (30 + i) 4) ((mset (obM M ns nr i) (50 + i) (obT M ns nr i V)) (30 + i) 5) = _; rw [e50, e30]) wM_L_65 ⟨rO, show (cells + 3) + 1 ≤ 600086 by omega, show (slots + 18) + 6 ≤ 7301442 by omega⟩ (Nat.le_of_ble_eq_true rfl) dL_law_958 (fun H locs hw z1 hS => ?_)
  refine lv_istore (lv' := [(15, .int (pErrAt (obT M ns nr i V) (M (30 + i) 4) (M (30 + i) 5))), (14, .int (nI (oN M ns nr i V))), (5, .int (nI (ob + 1))), (13, .int (oA M ns nr i V)), (12, .int (M (50 + i) 11)), (10, .int I0), (9, .int (nI i)), (6, .int (nI t)), (4, .int (nI nr)), (3, .int (nI nt)), (2, .int (nI ns)), (1, .ref (ad 0)), (0, .ref b)]) hx hb dL_law_961 hl (by decide) rfl (fun ls hl => ?_)
  have hml : c.maxLocals = ls.size := hml9.trans hl.1.symm
  refine lv_aload_n hx hb dL_law_963 rfl (lv_at hl 11 rfl) ?_
  refine lv_iload hx hb dL_law_964 (lv_at hl 6 rfl) ?_
  refine lv_bipush (v := 9) hx hb dL_law_966 (by decide) ?_
  refine q_ofReceiver (v := (obZ M ns nr i V 10)) hK hml hw hS hi (by decide) ((congrFun e50 9).trans hO.1.2.2.2.1) wM_L_65 ⟨rO, show (cells + 4) + 1 ≤ 600086 by omega, show (slots + 24) + 6 ≤ 7301442 by omega⟩ (Nat.le_of_ble_eq_true rfl) dL_law_968 (fun H locs hw z1 hS => ?_)
  refine lv_istore (lv' := [(16, .int (obZ M ns nr i V 10)), (15, .int (pErrAt (obT M ns nr i V) (M (30 + i) 4) (M (30 + i) 5))), (14, .int (nI (oN M ns nr i V))), (5, .int (nI (ob + 1))), (13, .int (oA M ns nr i V)), (12, .int (M (50 + i) 11)), (10, .int I0), (9, .int (nI i)), (6, .int (nI t)), (4, .int (nI nr)), (3, .int (nI nt)), (2, .int (nI ns)), (1, .ref (ad 0)), (0, .ref b)]) hx hb dL_law_971 hl (by decide) rfl (fun ls hl => ?_)
  have hml : c.maxLocals = ls.size := hml9.trans hl.1.symm
  refine lv_iload hx hb dL_law_973 (lv_at hl 4 rfl) ?_
  refine lv_aload_n hx hb dL_law_975 rfl (lv_at hl 12 rfl) ?_
  refine lv_iload hx hb dL_law_976 (lv_at hl 7 rfl) ?_
  refine lv_bipush (v := 10) hx hb dL_law_978 (by decide) ?_
  refine q_ofReceiver (v := (oA M ns nr i V)) hK hml hw hS hi (by decide) ((congrFun e50 10).trans hO.1.2.2.2.2.1) wM_L_65 ⟨rO, show (cells + 5) + 1 ≤ 600086 by omega, show (slots + 30) + 6 ≤ 7301442 by omega⟩ (Nat.le_of_ble_eq_true rfl) dL_law_980 (fun H locs hw z1 hS => ?_)
  refine lv_icmp_ne (tgt := 1084) hx hb dL_law_983 (by decide) (fun q9 => absurd rfl q9) (fun _ => ?_)
  have jn1168_1 : ∀ (H : Heap) (locs : List Loc), CW D cy ad ns nt nr (mset (obM M ns nr i) (50 + i) (obT M ns nr i V)) V2 H → va_S A0 s.heap H locs → ∀ ls : Array Slot, lv_has ls 20 [(14, .int (nI (oN M ns nr i V))), (5, .int (nI (ob + 1))), (10, .int I0), (9, .int (nI i)), (6, .int (nI t)), (4, .int (nI nr)), (3, .int (nI nt)), (2, .int (nI ns)), (1, .ref (ad 0)), (0, .ref b)] → W p l e room_1 s m args below meth c H locs (c0 + 20) (s0 + 120) Q (F0 m 1168 ls []) := by
    intro H locs hw hS ls hl
    have hml : c.maxLocals = ls.size := hml9.trans hl.1.symm
    refine lv_iconst (v := 0) hx hb dL_law_1168 (by decide) ?_
    refine lv_istore (lv' := [(17, .int 0), (14, .int (nI (oN M ns nr i V))), (5, .int (nI (ob + 1))), (10, .int I0), (9, .int (nI i)), (6, .int (nI t)), (4, .int (nI nr)), (3, .int (nI nt)), (2, .int (nI ns)), (1, .ref (ad 0)), (0, .ref b)]) hx hb dL_law_1169 hl (by decide) rfl (fun ls hl => ?_)
    have hml : c.maxLocals = ls.size := hml9.trans hl.1.symm
    refine lv_iconst (v := 0) hx hb dL_law_1171 (by decide) ?_
    refine lv_istore (lv' := [(18, .int 0), (17, .int 0), (14, .int (nI (oN M ns nr i V))), (5, .int (nI (ob + 1))), (10, .int I0), (9, .int (nI i)), (6, .int (nI t)), (4, .int (nI nr)), (3, .int (nI nt)), (2, .int (nI ns)), (1, .ref (ad 0)), (0, .ref b)]) hx hb dL_law_1172 hl (by decide) rfl (fun ls hl => ?_)
    have hml : c.maxLocals = ls.size := hml9.trans hl.1.symm
    have lp1174_2 : ∀ (n9 : Nat) (k : Nat) (a17 : Int32) (H : Heap) (locs : List Loc) (cs sl : Nat), ns + 1 - k ≤ n9 → k ≤ ns → a17 = uS (mset (obM M ns nr i) (50 + i) (obT M ns nr i V)) i k → cs = c0 + 20 + 5 * k → sl = s0 + 120 + 30 * k → CW D cy ad ns nt nr (mset (obM M ns nr i) (50 + i) (obT M ns nr i V)) V2 H → va_S A0 s.heap H locs →  ∀ ls : Array Slot, lv_has ls 20 [(18, .int (nI k)), (17, .int a17), (14, .int (nI (oN M ns nr i V))), (5, .int (nI (ob + 1))), (10, .int I0), (9, .int (nI i)), (6, .int (nI t)), (4, .int (nI nr)), (3, .int (nI nt)), (2, .int (nI ns)), (1, .ref (ad 0)), (0, .ref b)] → W p l e room_1 s m args below meth c H locs cs sl Q (F0 m 1174 ls []) := by
      intro n9
      induction n9 with
      | zero =>
        intro k a17 H locs cs sl h9
        intro hk; exact absurd h9 (by omega)
      | succ n9 ih9 =>
        intro k a17 H locs cs sl hn9 hk e17 ecs esl hw hS ls hl
        have hml : c.maxLocals = ls.size := hml9.trans hl.1.symm
        refine lv_iload hx hb dL_law_1174 (lv_at hl 0 rfl) ?_
        refine lv_iload_n hx hb dL_law_1176 rfl (lv_at hl 9 rfl) ?_
        refine lv_icmp_ge (tgt := 1282) hx hb dL_law_1177 (by decide) (fun c_1177 => ?_) (fun c_1177 => ?_)
        · have ek : k = ns := Nat.le_antisymm hk ((nI_leI (by omega) (by omega)).mp c_1177)
          rw [ek] at e17 ecs esl
          refine lv_iload hx hb dL_law_1282 (lv_at hl 1 rfl) ?_
          refine lv_iload hx hb dL_law_1284 (lv_at hl 2 rfl) ?_
          refine lv_icmp_eq (tgt := 1291) hx hb dL_law_1286 (by decide) (fun _ => ?_) (fun q9 => absurd (e17.trans (used_n hW ht hi V.2.2.2 (fun j hj => mset_n (by omega)) ns (Nat.le_refl _))) q9)
          refine W.widen (k := c0 + 60) (n := s0 + 360) (by omega) (by omega) ?_
          exact kk _ _ ep (ob + 1) _ _ (JW.observe (V := V) hW ht hi) (by omega) ((obs_one (M := M) (j := i) (by rw [e50]; exact hO.1.1) nr (fun q hq hne => by rw [mset_n (by omega), obM_out (by omega)]) hi).trans (by rw [hob, nI_1])) (by omega) (le_eq hI0 (sum_of (M := M) ns (fun q hq => by rw [mset_n (by omega), obM_out (by omega)]))) hw hS ls (lv_sub hl [4, 6, 3, 7, 8, 9, 10, 11] rfl)
        · have hlk : k < ns := by
            rcases Nat.lt_or_ge k ns with q9 | q9
            · exact q9
            · exact absurd ((nI_leI (by omega) (by omega)).mpr q9) c_1177
          obtain ⟨hg, hu2, hs0⟩ := ob_sg hW ht hi hlk
          have eM6 : (mset (obM M ns nr i) (50 + i) (obT M ns nr i V)) (60 + 8 * i + k) = obM M ns nr i (60 + 8 * i + k) := mset_n (by omega)
          refine lv_iload hx hb dL_law_1180 (lv_at hl 1 rfl) ?_
          refine lv_aload_n hx hb dL_law_1182 rfl (lv_at hl 10 rfl) ?_
          refine lv_iload hx hb dL_law_1183 (lv_at hl 5 rfl) ?_
          refine lv_iload hx hb dL_law_1185 (lv_at hl 0 rfl) ?_
          refine lv_bipush (v := 6) hx hb dL_law_1187 (by decide) ?_
          refine q_seen (v := if obM M ns nr i (60 + 8 * i + k) 2 = 0 then 0 else 1) hK hml hw hS hi hlk (by decide) (by rw [eM6]; rfl) wM_L_92 ⟨rO, show cs + 1 ≤ 600086 by omega, show sl + 6 ≤ 7301442 by omega⟩ (Nat.le_of_ble_eq_true rfl) dL_law_1189 (fun H locs hw z1 hS => ?_)
          refine lv_iadd hx hb dL_law_1192 ?_
          refine lv_istore (lv' := [(17, .int (a17 + (if obM M ns nr i (60 + 8 * i + k) 2 = 0 then 0 else 1))), (18, .int (nI k)), (14, .int (nI (oN M ns nr i V))), (5, .int (nI (ob + 1))), (10, .int I0), (9, .int (nI i)), (6, .int (nI t)), (4, .int (nI nr)), (3, .int (nI nt)), (2, .int (nI ns)), (1, .ref (ad 0)), (0, .ref b)]) hx hb dL_law_1193 hl (by decide) rfl (fun ls hl => ?_)
          have hml : c.maxLocals = ls.size := hml9.trans hl.1.symm
          refine lv_aload_n hx hb dL_law_1195 rfl (lv_at hl 10 rfl) ?_
          refine lv_iload hx hb dL_law_1196 (lv_at hl 5 rfl) ?_
          refine lv_iconst (v := 0) hx hb dL_law_1198 (by decide) ?_
          refine q_wouldSee (v := pSet (M (30 + i)) M 0 ns) hK hml hw hS hi (by decide) (by rw [e30]; exact pSet_ob h1) wM_L_95 ⟨rO, show (cs + 1) + 1 ≤ 600086 by omega, show (sl + 6) + 6 ≤ 7301442 by omega⟩ (Nat.le_of_ble_eq_true rfl) dL_law_1199 (fun H locs hw z1 hS => ?_)
          refine lv_iload hx hb dL_law_1202 (lv_at hl 1 rfl) ?_
          refine lv_ishr hx hb dL_law_1204 ?_
          refine lv_iconst (v := 1) hx hb dL_law_1205 (by decide) ?_
          refine lv_iand hx hb dL_law_1206 ?_
          refine lv_iconst (v := 1) hx hb dL_law_1207 (by decide) ?_
          refine lv_icmp_ne (tgt := 1215) hx hb dL_law_1208 (by decide) (fun c_1208 => ?_) (fun c_1208 => ?_)
          · have hse := ob_seen0 h1 hlk c_1208
            refine lv_iconst (v := 0) hx hb dL_law_1215 (by decide) ?_
            refine lv_istore (lv' := [(19, .int 0), (17, .int (a17 + (if obM M ns nr i (60 + 8 * i + k) 2 = 0 then 0 else 1))), (18, .int (nI k)), (14, .int (nI (oN M ns nr i V))), (5, .int (nI (ob + 1))), (10, .int I0), (9, .int (nI i)), (6, .int (nI t)), (4, .int (nI nr)), (3, .int (nI nt)), (2, .int (nI ns)), (1, .ref (ad 0)), (0, .ref b)]) hx hb dL_law_1216 hl (by decide) rfl (fun ls hl => ?_)
            have hml : c.maxLocals = ls.size := hml9.trans hl.1.symm
            refine lv_iload hx hb dL_law_1218 (lv_at hl 0 rfl) ?_
            refine lv_aload_n hx hb dL_law_1220 rfl (lv_at hl 11 rfl) ?_
            refine lv_iload hx hb dL_law_1221 (lv_at hl 6 rfl) ?_
            refine lv_iload hx hb dL_law_1223 (lv_at hl 2 rfl) ?_
            refine lv_iconst (v := 4) hx hb dL_law_1225 (by decide) ?_
            refine q_seen (v := if obM M ns nr i (60 + 8 * i + k) 0 = 0 then -1 else obM M ns nr i (60 + 8 * i + k) 7) hK hml hw hS hi hlk (by decide) (by rw [eM6]; rfl) wM_L_92 ⟨rO, show (cs + 2) + 1 ≤ 600086 by omega, show (sl + 12) + 6 ≤ 7301442 by omega⟩ (Nat.le_of_ble_eq_true rfl) dL_law_1226 (fun H locs hw z1 hS => ?_)
            refine lv_if_le (tgt := 1236) hx hb dL_law_1229 (by decide) (fun _ => ?_) (fun q9 => absurd (ob_k0 hs0 hse) q9)
            refine lv_iconst (v := 0) hx hb dL_law_1236 (by decide) ?_
            refine lv_icmp_ne (tgt := 1274) hx hb dL_law_1237 (by decide) (fun q9 => absurd rfl q9) (fun _ => ?_)
            refine lv_aload_n hx hb dL_law_1240 rfl (lv_at hl 11 rfl) ?_
            refine lv_iload hx hb dL_law_1241 (lv_at hl 6 rfl) ?_
            refine lv_iload hx hb dL_law_1243 (lv_at hl 2 rfl) ?_
            refine lv_bipush (v := 6) hx hb dL_law_1245 (by decide) ?_
            refine q_seen (v := if obM M ns nr i (60 + 8 * i + k) 2 = 0 then 0 else 1) hK hml hw hS hi hlk (by decide) (by rw [eM6]; rfl) wM_L_92 ⟨rO, show (cs + 3) + 1 ≤ 600086 by omega, show (sl + 18) + 6 ≤ 7301442 by omega⟩ (Nat.le_of_ble_eq_true rfl) dL_law_1247 (fun H locs hw z1 hS => ?_)
            refine lv_iload hx hb dL_law_1250 (lv_at hl 0 rfl) ?_
            refine lv_if_eq (tgt := 1270) hx hb dL_law_1252 (by decide) (fun _ => ?_) (fun q9 => absurd rfl q9)
            refine lv_iconst (v := 0) hx hb dL_law_1270 (by decide) ?_
            refine lv_icmp_eq (tgt := 1276) hx hb dL_law_1271 (by decide) (fun _ => ?_) (fun q9 => absurd (ob_u0 hu2 (o1_meas hW ht hi hlk) hse) q9)
            refine lv_iinc (v := (nI (k + 1))) (lv' := [(18, .int (nI (k + 1))), (19, .int 0), (17, .int (a17 + (if obM M ns nr i (60 + 8 * i + k) 2 = 0 then 0 else 1))), (14, .int (nI (oN M ns nr i V))), (5, .int (nI (ob + 1))), (10, .int I0), (9, .int (nI i)), (6, .int (nI t)), (4, .int (nI nr)), (3, .int (nI nt)), (2, .int (nI ns)), (1, .ref (ad 0)), (0, .ref b)]) hx hb dL_law_1276 hl (k := 2) rfl ((nI_succ k).symm) (by decide) rfl (fun ls hl => ?_)
            have hml : c.maxLocals = ls.size := hml9.trans hl.1.symm
            refine lv_goto (tgt := 1174) hx hb dL_law_1279 (by decide) ?_
            refine W.widen (k := c0 + 20 + 5 * (k + 1)) (n := s0 + 120 + 30 * (k + 1)) (by omega) (by omega) ?_
            exact ih9 (k + 1) (a17 + (if obM M ns nr i (60 + 8 * i + k) 2 = 0 then 0 else 1)) _ _ (c0 + 20 + 5 * (k + 1)) (s0 + 120 + 30 * (k + 1)) (by omega) hlk (by rw [uS_s, e17, eM6]) rfl rfl hw hS ls (lv_sub hl [0, 2, 3, 4, 5, 6, 7, 8, 9, 10, 11, 12] rfl)
          · have hse := ob_seen1 h1 hlk c_1208
            refine lv_iconst (v := 1) hx hb dL_law_1211 (by decide) ?_
            refine lv_goto (tgt := 1216) hx hb dL_law_1212 (by decide) ?_
            refine lv_istore (lv' := [(19, .int 1), (17, .int (a17 + (if obM M ns nr i (60 + 8 * i + k) 2 = 0 then 0 else 1))), (18, .int (nI k)), (14, .int (nI (oN M ns nr i V))), (5, .int (nI (ob + 1))), (10, .int I0), (9, .int (nI i)), (6, .int (nI t)), (4, .int (nI nr)), (3, .int (nI nt)), (2, .int (nI ns)), (1, .ref (ad 0)), (0, .ref b)]) hx hb dL_law_1216 hl (by decide) rfl (fun ls hl => ?_)
            have hml : c.maxLocals = ls.size := hml9.trans hl.1.symm
            refine lv_iload hx hb dL_law_1218 (lv_at hl 0 rfl) ?_
            refine lv_aload_n hx hb dL_law_1220 rfl (lv_at hl 11 rfl) ?_
            refine lv_iload hx hb dL_law_1221 (lv_at hl 6 rfl) ?_
            refine lv_iload hx hb dL_law_1223 (lv_at hl 2 rfl) ?_
            refine lv_iconst (v := 4) hx hb dL_law_1225 (by decide) ?_
            refine q_seen (v := if obM M ns nr i (60 + 8 * i + k) 0 = 0 then -1 else obM M ns nr i (60 + 8 * i + k) 7) hK hml hw hS hi hlk (by decide) (by rw [eM6]; rfl) wM_L_92 ⟨rO, show (cs + 2) + 1 ≤ 600086 by omega, show (sl + 12) + 6 ≤ 7301442 by omega⟩ (Nat.le_of_ble_eq_true rfl) dL_law_1226 (fun H locs hw z1 hS => ?_)
            refine lv_if_le (tgt := 1236) hx hb dL_law_1229 (by decide) (fun q9 => absurd q9 (ob_k1 hg hs0 hse (by omega))) (fun _ => ?_)
            refine lv_iconst (v := 1) hx hb dL_law_1232 (by decide) ?_
            refine lv_goto (tgt := 1237) hx hb dL_law_1233 (by decide) ?_
            refine lv_icmp_ne (tgt := 1274) hx hb dL_law_1237 (by decide) (fun q9 => absurd rfl q9) (fun _ => ?_)
            refine lv_aload_n hx hb dL_law_1240 rfl (lv_at hl 11 rfl) ?_
            refine lv_iload hx hb dL_law_1241 (lv_at hl 6 rfl) ?_
            refine lv_iload hx hb dL_law_1243 (lv_at hl 2 rfl) ?_
            refine lv_bipush (v := 6) hx hb dL_law_1245 (by decide) ?_
            refine q_seen (v := if obM M ns nr i (60 + 8 * i + k) 2 = 0 then 0 else 1) hK hml hw hS hi hlk (by decide) (by rw [eM6]; rfl) wM_L_92 ⟨rO, show (cs + 3) + 1 ≤ 600086 by omega, show (sl + 18) + 6 ≤ 7301442 by omega⟩ (Nat.le_of_ble_eq_true rfl) dL_law_1247 (fun H locs hw z1 hS => ?_)
            refine lv_iload hx hb dL_law_1250 (lv_at hl 0 rfl) ?_
            refine lv_if_eq (tgt := 1270) hx hb dL_law_1252 (by decide) (fun q9 => absurd q9 (by decide)) (fun _ => ?_)
            refine lv_aload_n hx hb dL_law_1255 rfl (lv_at hl 11 rfl) ?_
            refine lv_iload hx hb dL_law_1256 (lv_at hl 2 rfl) ?_
            refine lv_iconst (v := 5) hx hb dL_law_1258 (by decide) ?_
            refine q_message (v := if bI (pHolds (M (10 + k)) (M 0 0)) = 0 then 0 else 1) hK hml hw hS hlk (by decide) (by rw [mset_n (by omega), obM_out (by omega), mset_n (by omega), obM_out (by omega)]; rfl) wM_L_40 ⟨rO, show (cs + 4) + 1 ≤ 600086 by omega, show (sl + 24) + 6 ≤ 7301442 by omega⟩ (Nat.le_of_ble_eq_true rfl) dL_law_1259 (fun H locs hw z1 hS => ?_)
            refine lv_iconst (v := 1) hx hb dL_law_1262 (by decide) ?_
            refine lv_icmp_ne (tgt := 1270) hx hb dL_law_1263 (by decide) (fun c_1263 => ?_) (fun c_1263 => ?_)
            · refine lv_iconst (v := 0) hx hb dL_law_1270 (by decide) ?_
              refine lv_icmp_eq (tgt := 1276) hx hb dL_law_1271 (by decide) (fun _ => ?_) (fun q9 => absurd (ob_u1n hu2 (o1_meas hW ht hi hlk) hse c_1263) q9)
              refine lv_iinc (v := (nI (k + 1))) (lv' := [(18, .int (nI (k + 1))), (19, .int 1), (17, .int (a17 + (if obM M ns nr i (60 + 8 * i + k) 2 = 0 then 0 else 1))), (14, .int (nI (oN M ns nr i V))), (5, .int (nI (ob + 1))), (10, .int I0), (9, .int (nI i)), (6, .int (nI t)), (4, .int (nI nr)), (3, .int (nI nt)), (2, .int (nI ns)), (1, .ref (ad 0)), (0, .ref b)]) hx hb dL_law_1276 hl (k := 2) rfl ((nI_succ k).symm) (by decide) rfl (fun ls hl => ?_)
              have hml : c.maxLocals = ls.size := hml9.trans hl.1.symm
              refine lv_goto (tgt := 1174) hx hb dL_law_1279 (by decide) ?_
              refine W.widen (k := c0 + 20 + 5 * (k + 1)) (n := s0 + 120 + 30 * (k + 1)) (by omega) (by omega) ?_
              exact ih9 (k + 1) (a17 + (if obM M ns nr i (60 + 8 * i + k) 2 = 0 then 0 else 1)) _ _ (c0 + 20 + 5 * (k + 1)) (s0 + 120 + 30 * (k + 1)) (by omega) hlk (by rw [uS_s, e17, eM6]) rfl rfl hw hS ls (lv_sub hl [0, 2, 3, 4, 5, 6, 7, 8, 9, 10, 11, 12] rfl)
            · refine lv_iconst (v := 1) hx hb dL_law_1266 (by decide) ?_
              refine lv_goto (tgt := 1271) hx hb dL_law_1267 (by decide) ?_
              refine lv_icmp_eq (tgt := 1276) hx hb dL_law_1271 (by decide) (fun _ => ?_) (fun q9 => absurd (ob_u1h hu2 (o1_meas hW ht hi hlk) hse c_1263) q9)
              refine lv_iinc (v := (nI (k + 1))) (lv' := [(18, .int (nI (k + 1))), (19, .int 1), (17, .int (a17 + (if obM M ns nr i (60 + 8 * i + k) 2 = 0 then 0 else 1))), (14, .int (nI (oN M ns nr i V))), (5, .int (nI (ob + 1))), (10, .int I0), (9, .int (nI i)), (6, .int (nI t)), (4, .int (nI nr)), (3, .int (nI nt)), (2, .int (nI ns)), (1, .ref (ad 0)), (0, .ref b)]) hx hb dL_law_1276 hl (k := 2) rfl ((nI_succ k).symm) (by decide) rfl (fun ls hl => ?_)
              have hml : c.maxLocals = ls.size := hml9.trans hl.1.symm
              refine lv_goto (tgt := 1174) hx hb dL_law_1279 (by decide) ?_
              refine W.widen (k := c0 + 20 + 5 * (k + 1)) (n := s0 + 120 + 30 * (k + 1)) (by omega) (by omega) ?_
              exact ih9 (k + 1) (a17 + (if obM M ns nr i (60 + 8 * i + k) 2 = 0 then 0 else 1)) _ _ (c0 + 20 + 5 * (k + 1)) (s0 + 120 + 30 * (k + 1)) (by omega) hlk (by rw [uS_s, e17, eM6]) rfl rfl hw hS ls (lv_sub hl [0, 2, 3, 4, 5, 6, 7, 8, 9, 10, 11, 12] rfl)
    refine W.widen (k := c0 + 20 + 5 * 0) (n := s0 + 120 + 30 * 0) (by omega) (by omega) ?_
    exact lp1174_2 (ns + 1) 0 0 _ _ (c0 + 20 + 5 * 0) (s0 + 120 + 30 * 0) (Nat.le_refl _) (Nat.zero_le _) (uS_0 _ _).symm rfl rfl hw hS ls (lv_sub hl [0, 1, 2, 3, 4, 5, 6, 7, 8, 9, 10, 11] rfl)
  refine lv_iload hx hb dL_law_986 (lv_at hl 4 rfl) ?_
  refine lv_iconst (v := 1) hx hb dL_law_988 (by decide) ?_
  refine lv_icmp_ne (tgt := 996) hx hb dL_law_989 (by decide) (fun c_989 => ?_) (fun c_989 => ?_)
  · have hA4 : ¬ oN M ns nr i V < 4 := fun q9 => c_989 ((oA_1 h1).mpr q9)
    have hL99 := ob_hi99 hW ht hi hA4
    have hL3 := ob_hi3 hW ht hi hA4
    refine lv_iconst (v := 0) hx hb dL_law_996 (by decide) ?_
    refine lv_iload hx hb dL_law_997 (lv_at hl 2 rfl) ?_
    refine lv_iconst (v := 4) hx hb dL_law_999 (by decide) ?_
    refine lv_icmp_ge (tgt := 1007) hx hb dL_law_1000 (by decide) (fun _ => ?_) (fun q9 => absurd (ob_ge4 h1 hA4) q9)
    refine lv_iconst (v := 0) hx hb dL_law_1007 (by decide) ?_
    refine lv_icmp_ne (tgt := 1084) hx hb dL_law_1008 (by decide) (fun q9 => absurd rfl q9) (fun _ => ?_)
    refine lv_iload hx hb dL_law_1011 (lv_at hl 0 rfl) ?_
    refine lv_bipush (v := 99) hx hb dL_law_1013 (by decide) ?_
    refine lv_icmp_ne (tgt := 1022) hx hb dL_law_1015 (by decide) (fun _ => ?_) (fun q9 => absurd q9 hL99)
    refine lv_iconst (v := 0) hx hb dL_law_1022 (by decide) ?_
    refine lv_iload hx hb dL_law_1023 (lv_at hl 2 rfl) ?_
    refine lv_iconst (v := 4) hx hb dL_law_1025 (by decide) ?_
    refine lv_icmp_ge (tgt := 1033) hx hb dL_law_1026 (by decide) (fun _ => ?_) (fun q9 => absurd (ob_ge4 h1 hA4) q9)
    refine lv_iconst (v := 0) hx hb dL_law_1033 (by decide) ?_
    refine lv_icmp_ne (tgt := 1084) hx hb dL_law_1034 (by decide) (fun q9 => absurd rfl q9) (fun _ => ?_)
    refine lv_iload hx hb dL_law_1037 (lv_at hl 0 rfl) ?_
    refine lv_iconst (v := 3) hx hb dL_law_1039 (by decide) ?_
    refine lv_icmp_lt (tgt := 1084) hx hb dL_law_1040 (by decide) (fun q9 => absurd q9 hL3) (fun _ => ?_)
    refine lv_iload hx hb dL_law_1043 (lv_at hl 4 rfl) ?_
    refine lv_iconst (v := 2) hx hb dL_law_1045 (by decide) ?_
    refine lv_icmp_ne (tgt := 1053) hx hb dL_law_1046 (by decide) (fun c_1046 => ?_) (fun c_1046 => ?_)
    · refine lv_iconst (v := 0) hx hb dL_law_1053 (by decide) ?_
      refine lv_iload hx hb dL_law_1054 (lv_at hl 2 rfl) ?_
      refine lv_iconst (v := 3) hx hb dL_law_1056 (by decide) ?_
      refine lv_icmp_le (tgt := 1080) hx hb dL_law_1057 (by decide) (fun q9 => absurd q9 (ob_gt3 h1 hA4)) (fun _ => ?_)
      refine lv_aload_n hx hb dL_law_1060 rfl (lv_at hl 12 rfl) ?_
      refine lv_iload hx hb dL_law_1061 (lv_at hl 7 rfl) ?_
      refine lv_bipush (v := 8) hx hb dL_law_1063 (by decide) ?_
      refine q_ofReceiver (v := obT M ns nr i V 8) hK hml hw hS hi (by decide) (congrFun e50 8) wM_L_65 ⟨rO, show (cells + 6) + 1 ≤ 600086 by omega, show (slots + 36) + 6 ≤ 7301442 by omega⟩ (Nat.le_of_ble_eq_true rfl) dL_law_1065 (fun H locs hw z1 hS => ?_)
      refine lv_bipush (v := 40) hx hb dL_law_1068 (by decide) ?_
      refine lv_iload hx hb dL_law_1070 (lv_at hl 2 rfl) ?_
      refine lv_imul hx hb dL_law_1072 ?_
      refine lv_icmp_le (tgt := 1080) hx hb dL_law_1073 (by decide) (fun _ => ?_) (fun q9 => absurd (ob_cost0 h1 hO hA2 hA4 c_1046) q9)
      refine lv_iconst (v := 0) hx hb dL_law_1080 (by decide) ?_
      refine lv_icmp_eq (tgt := 1086) hx hb dL_law_1081 (by decide) (fun _ => ?_) (fun q9 => absurd rfl q9)
      refine lv_aload_n hx hb dL_law_1086 rfl (lv_at hl 12 rfl) ?_
      refine lv_iload hx hb dL_law_1087 (lv_at hl 7 rfl) ?_
      refine lv_bipush (v := 11) hx hb dL_law_1089 (by decide) ?_
      refine q_ofReceiver (v := obT M ns nr i V 11) hK hml hw hS hi (by decide) (congrFun e50 11) wM_L_65 ⟨rO, show (cells + 7) + 1 ≤ 600086 by omega, show (slots + 42) + 6 ≤ 7301442 by omega⟩ (Nat.le_of_ble_eq_true rfl) dL_law_1091 (fun H locs hw z1 hS => ?_)
      refine lv_iload hx hb dL_law_1094 (lv_at hl 5 rfl) ?_
      refine lv_iload hx hb dL_law_1096 (lv_at hl 4 rfl) ?_
      refine lv_if_ne (tgt := 1112) hx hb dL_law_1098 (by decide) (fun c_1098 => ?_) (fun c_1098 => ?_)
      · refine lv_iconst (v := 0) hx hb dL_law_1112 (by decide) ?_
        refine lv_iadd hx hb dL_law_1113 ?_
        refine lv_icmp_ne (tgt := 1166) hx hb dL_law_1114 (by decide) (fun q9 => absurd (ob_misx hO c_1098) q9) (fun _ => ?_)
        refine lv_iload hx hb dL_law_1117 (lv_at hl 4 rfl) ?_
        refine lv_if_le (tgt := 1126) hx hb dL_law_1119 (by decide) (fun q9 => absurd q9 (ob_pos c_1098)) (fun _ => ?_)
        refine lv_iconst (v := 1) hx hb dL_law_1122 (by decide) ?_
        refine lv_goto (tgt := 1127) hx hb dL_law_1123 (by decide) ?_
        refine lv_aload_n hx hb dL_law_1127 rfl (lv_at hl 12 rfl) ?_
        refine lv_iload hx hb dL_law_1128 (lv_at hl 7 rfl) ?_
        refine lv_bipush (v := 12) hx hb dL_law_1130 (by decide) ?_
        refine q_ofReceiver (v := obT M ns nr i V 12) hK hml hw hS hi (by decide) (congrFun e50 12) wM_L_65 ⟨rO, show (cells + 8) + 1 ≤ 600086 by omega, show (slots + 48) + 6 ≤ 7301442 by omega⟩ (Nat.le_of_ble_eq_true rfl) dL_law_1132 (fun H locs hw z1 hS => ?_)
        refine lv_aload_n hx hb dL_law_1135 rfl (lv_at hl 12 rfl) ?_
        refine lv_iconst (v := 0) hx hb dL_law_1136 (by decide) ?_
        refine q_many (v := M 0 0) hK hml hw hS  (by decide) e00 wM_L_33 ⟨rO, show (cells + 9) + 1 ≤ 600086 by omega, show (slots + 54) + 6 ≤ 7301442 by omega⟩ (Nat.le_of_ble_eq_true rfl) dL_law_1137 (fun H locs hw z1 hS => ?_)
        refine lv_icmp_ne (tgt := 1147) hx hb dL_law_1140 (by decide) (fun q9 => absurd (ob_epx hM0 hO (ob_pos c_1098)) q9) (fun _ => ?_)
        refine lv_iconst (v := 1) hx hb dL_law_1143 (by decide) ?_
        refine lv_goto (tgt := 1148) hx hb dL_law_1144 (by decide) ?_
        refine lv_icmp_ne (tgt := 1166) hx hb dL_law_1148 (by decide) (fun q9 => absurd rfl q9) (fun _ => ?_)
        refine lv_aload_n hx hb dL_law_1151 rfl (lv_at hl 12 rfl) ?_
        refine lv_iload hx hb dL_law_1152 (lv_at hl 7 rfl) ?_
        refine lv_iconst (v := 3) hx hb dL_law_1154 (by decide) ?_
        refine q_ofReceiver (v := M 0 0) hK hml hw hS hi (by decide) ((congrFun e50 1).trans (hO.1.2.1.trans hM0.symm)) wM_L_65 ⟨rO, show (cells + 10) + 1 ≤ 600086 by omega, show (slots + 60) + 6 ≤ 7301442 by omega⟩ (Nat.le_of_ble_eq_true rfl) dL_law_1155 (fun H locs hw z1 hS => ?_)
        refine lv_aload_n hx hb dL_law_1158 rfl (lv_at hl 12 rfl) ?_
        refine lv_iconst (v := 0) hx hb dL_law_1159 (by decide) ?_
        refine q_many (v := M 0 0) hK hml hw hS  (by decide) e00 wM_L_33 ⟨rO, show (cells + 11) + 1 ≤ 600086 by omega, show (slots + 66) + 6 ≤ 7301442 by omega⟩ (Nat.le_of_ble_eq_true rfl) dL_law_1160 (fun H locs hw z1 hS => ?_)
        refine lv_icmp_eq (tgt := 1168) hx hb dL_law_1163 (by decide) (fun _ => ?_) (fun q9 => absurd rfl q9)
        refine W.widen (k := c0 + 20) (n := s0 + 120) (by omega) (by omega) ?_
        exact jn1168_1 _ _ hw hS ls (lv_sub hl [2, 3, 6, 7, 8, 9, 10, 11, 12, 13] rfl)
      · refine lv_iload hx hb dL_law_1101 (lv_at hl 1 rfl) ?_
        refine lv_iload hx hb dL_law_1103 (lv_at hl 0 rfl) ?_
        refine lv_icmp_le (tgt := 1112) hx hb dL_law_1105 (by decide) (fun c_1105 => ?_) (fun c_1105 => ?_)
        · refine lv_iconst (v := 0) hx hb dL_law_1112 (by decide) ?_
          refine lv_iadd hx hb dL_law_1113 ?_
          refine lv_icmp_ne (tgt := 1166) hx hb dL_law_1114 (by decide) (fun q9 => absurd (ob_mis0 hO c_1098 c_1105) q9) (fun _ => ?_)
          refine lv_iload hx hb dL_law_1117 (lv_at hl 4 rfl) ?_
          refine lv_if_le (tgt := 1126) hx hb dL_law_1119 (by decide) (fun _ => ?_) (fun q9 => absurd (by rw [c_1098]; decide) q9)
          refine lv_iconst (v := 0) hx hb dL_law_1126 (by decide) ?_
          refine lv_aload_n hx hb dL_law_1127 rfl (lv_at hl 12 rfl) ?_
          refine lv_iload hx hb dL_law_1128 (lv_at hl 7 rfl) ?_
          refine lv_bipush (v := 12) hx hb dL_law_1130 (by decide) ?_
          refine q_ofReceiver (v := obT M ns nr i V 12) hK hml hw hS hi (by decide) (congrFun e50 12) wM_L_65 ⟨rO, show (cells + 8) + 1 ≤ 600086 by omega, show (slots + 48) + 6 ≤ 7301442 by omega⟩ (Nat.le_of_ble_eq_true rfl) dL_law_1132 (fun H locs hw z1 hS => ?_)
          refine lv_aload_n hx hb dL_law_1135 rfl (lv_at hl 12 rfl) ?_
          refine lv_iconst (v := 0) hx hb dL_law_1136 (by decide) ?_
          refine q_many (v := M 0 0) hK hml hw hS  (by decide) e00 wM_L_33 ⟨rO, show (cells + 9) + 1 ≤ 600086 by omega, show (slots + 54) + 6 ≤ 7301442 by omega⟩ (Nat.le_of_ble_eq_true rfl) dL_law_1137 (fun H locs hw z1 hS => ?_)
          refine lv_icmp_ne (tgt := 1147) hx hb dL_law_1140 (by decide) (fun _ => ?_) (fun q9 => absurd q9 (ob_ep0 hW hi hno hO c_1098))
          refine lv_iconst (v := 0) hx hb dL_law_1147 (by decide) ?_
          refine lv_icmp_ne (tgt := 1166) hx hb dL_law_1148 (by decide) (fun q9 => absurd rfl q9) (fun _ => ?_)
          refine lv_aload_n hx hb dL_law_1151 rfl (lv_at hl 12 rfl) ?_
          refine lv_iload hx hb dL_law_1152 (lv_at hl 7 rfl) ?_
          refine lv_iconst (v := 3) hx hb dL_law_1154 (by decide) ?_
          refine q_ofReceiver (v := M 0 0) hK hml hw hS hi (by decide) ((congrFun e50 1).trans (hO.1.2.1.trans hM0.symm)) wM_L_65 ⟨rO, show (cells + 10) + 1 ≤ 600086 by omega, show (slots + 60) + 6 ≤ 7301442 by omega⟩ (Nat.le_of_ble_eq_true rfl) dL_law_1155 (fun H locs hw z1 hS => ?_)
          refine lv_aload_n hx hb dL_law_1158 rfl (lv_at hl 12 rfl) ?_
          refine lv_iconst (v := 0) hx hb dL_law_1159 (by decide) ?_
          refine q_many (v := M 0 0) hK hml hw hS  (by decide) e00 wM_L_33 ⟨rO, show (cells + 11) + 1 ≤ 600086 by omega, show (slots + 66) + 6 ≤ 7301442 by omega⟩ (Nat.le_of_ble_eq_true rfl) dL_law_1160 (fun H locs hw z1 hS => ?_)
          refine lv_icmp_eq (tgt := 1168) hx hb dL_law_1163 (by decide) (fun _ => ?_) (fun q9 => absurd rfl q9)
          refine W.widen (k := c0 + 20) (n := s0 + 120) (by omega) (by omega) ?_
          exact jn1168_1 _ _ hw hS ls (lv_sub hl [2, 3, 6, 7, 8, 9, 10, 11, 12, 13] rfl)
        · refine lv_iconst (v := 1) hx hb dL_law_1108 (by decide) ?_
          refine lv_goto (tgt := 1113) hx hb dL_law_1109 (by decide) ?_
          refine lv_iadd hx hb dL_law_1113 ?_
          refine lv_icmp_ne (tgt := 1166) hx hb dL_law_1114 (by decide) (fun q9 => absurd (ob_mis1 hO c_1098 c_1105) q9) (fun _ => ?_)
          refine lv_iload hx hb dL_law_1117 (lv_at hl 4 rfl) ?_
          refine lv_if_le (tgt := 1126) hx hb dL_law_1119 (by decide) (fun _ => ?_) (fun q9 => absurd (by rw [c_1098]; decide) q9)
          refine lv_iconst (v := 0) hx hb dL_law_1126 (by decide) ?_
          refine lv_aload_n hx hb dL_law_1127 rfl (lv_at hl 12 rfl) ?_
          refine lv_iload hx hb dL_law_1128 (lv_at hl 7 rfl) ?_
          refine lv_bipush (v := 12) hx hb dL_law_1130 (by decide) ?_
          refine q_ofReceiver (v := obT M ns nr i V 12) hK hml hw hS hi (by decide) (congrFun e50 12) wM_L_65 ⟨rO, show (cells + 8) + 1 ≤ 600086 by omega, show (slots + 48) + 6 ≤ 7301442 by omega⟩ (Nat.le_of_ble_eq_true rfl) dL_law_1132 (fun H locs hw z1 hS => ?_)
          refine lv_aload_n hx hb dL_law_1135 rfl (lv_at hl 12 rfl) ?_
          refine lv_iconst (v := 0) hx hb dL_law_1136 (by decide) ?_
          refine q_many (v := M 0 0) hK hml hw hS  (by decide) e00 wM_L_33 ⟨rO, show (cells + 9) + 1 ≤ 600086 by omega, show (slots + 54) + 6 ≤ 7301442 by omega⟩ (Nat.le_of_ble_eq_true rfl) dL_law_1137 (fun H locs hw z1 hS => ?_)
          refine lv_icmp_ne (tgt := 1147) hx hb dL_law_1140 (by decide) (fun _ => ?_) (fun q9 => absurd q9 (ob_ep0 hW hi hno hO c_1098))
          refine lv_iconst (v := 0) hx hb dL_law_1147 (by decide) ?_
          refine lv_icmp_ne (tgt := 1166) hx hb dL_law_1148 (by decide) (fun q9 => absurd rfl q9) (fun _ => ?_)
          refine lv_aload_n hx hb dL_law_1151 rfl (lv_at hl 12 rfl) ?_
          refine lv_iload hx hb dL_law_1152 (lv_at hl 7 rfl) ?_
          refine lv_iconst (v := 3) hx hb dL_law_1154 (by decide) ?_
          refine q_ofReceiver (v := M 0 0) hK hml hw hS hi (by decide) ((congrFun e50 1).trans (hO.1.2.1.trans hM0.symm)) wM_L_65 ⟨rO, show (cells + 10) + 1 ≤ 600086 by omega, show (slots + 60) + 6 ≤ 7301442 by omega⟩ (Nat.le_of_ble_eq_true rfl) dL_law_1155 (fun H locs hw z1 hS => ?_)
          refine lv_aload_n hx hb dL_law_1158 rfl (lv_at hl 12 rfl) ?_
          refine lv_iconst (v := 0) hx hb dL_law_1159 (by decide) ?_
          refine q_many (v := M 0 0) hK hml hw hS  (by decide) e00 wM_L_33 ⟨rO, show (cells + 11) + 1 ≤ 600086 by omega, show (slots + 66) + 6 ≤ 7301442 by omega⟩ (Nat.le_of_ble_eq_true rfl) dL_law_1160 (fun H locs hw z1 hS => ?_)
          refine lv_icmp_eq (tgt := 1168) hx hb dL_law_1163 (by decide) (fun _ => ?_) (fun q9 => absurd rfl q9)
          refine W.widen (k := c0 + 20) (n := s0 + 120) (by omega) (by omega) ?_
          exact jn1168_1 _ _ hw hS ls (lv_sub hl [2, 3, 6, 7, 8, 9, 10, 11, 12, 13] rfl)
    · refine lv_iconst (v := 1) hx hb dL_law_1049 (by decide) ?_
      refine lv_goto (tgt := 1054) hx hb dL_law_1050 (by decide) ?_
      refine lv_iload hx hb dL_law_1054 (lv_at hl 2 rfl) ?_
      refine lv_iconst (v := 3) hx hb dL_law_1056 (by decide) ?_
      refine lv_icmp_le (tgt := 1080) hx hb dL_law_1057 (by decide) (fun q9 => absurd q9 (ob_gt3 h1 hA4)) (fun _ => ?_)
      refine lv_aload_n hx hb dL_law_1060 rfl (lv_at hl 12 rfl) ?_
      refine lv_iload hx hb dL_law_1061 (lv_at hl 7 rfl) ?_
      refine lv_bipush (v := 8) hx hb dL_law_1063 (by decide) ?_
      refine q_ofReceiver (v := obT M ns nr i V 8) hK hml hw hS hi (by decide) (congrFun e50 8) wM_L_65 ⟨rO, show (cells + 6) + 1 ≤ 600086 by omega, show (slots + 36) + 6 ≤ 7301442 by omega⟩ (Nat.le_of_ble_eq_true rfl) dL_law_1065 (fun H locs hw z1 hS => ?_)
      refine lv_bipush (v := 40) hx hb dL_law_1068 (by decide) ?_
      refine lv_iload hx hb dL_law_1070 (lv_at hl 2 rfl) ?_
      refine lv_imul hx hb dL_law_1072 ?_
      refine lv_icmp_le (tgt := 1080) hx hb dL_law_1073 (by decide) (fun q9 => absurd q9 (ob_cost1 h1 hO hA2 c_1046)) (fun _ => ?_)
      refine lv_iconst (v := 1) hx hb dL_law_1076 (by decide) ?_
      refine lv_goto (tgt := 1081) hx hb dL_law_1077 (by decide) ?_
      refine lv_icmp_eq (tgt := 1086) hx hb dL_law_1081 (by decide) (fun _ => ?_) (fun q9 => absurd rfl q9)
      refine lv_aload_n hx hb dL_law_1086 rfl (lv_at hl 12 rfl) ?_
      refine lv_iload hx hb dL_law_1087 (lv_at hl 7 rfl) ?_
      refine lv_bipush (v := 11) hx hb dL_law_1089 (by decide) ?_
      refine q_ofReceiver (v := obT M ns nr i V 11) hK hml hw hS hi (by decide) (congrFun e50 11) wM_L_65 ⟨rO, show (cells + 7) + 1 ≤ 600086 by omega, show (slots + 42) + 6 ≤ 7301442 by omega⟩ (Nat.le_of_ble_eq_true rfl) dL_law_1091 (fun H locs hw z1 hS => ?_)
      refine lv_iload hx hb dL_law_1094 (lv_at hl 5 rfl) ?_
      refine lv_iload hx hb dL_law_1096 (lv_at hl 4 rfl) ?_
      refine lv_if_ne (tgt := 1112) hx hb dL_law_1098 (by decide) (fun _ => ?_) (fun q9 => absurd q9 (by rw [c_1046]; decide))
      refine lv_iconst (v := 0) hx hb dL_law_1112 (by decide) ?_
      refine lv_iadd hx hb dL_law_1113 ?_
      refine lv_icmp_ne (tgt := 1166) hx hb dL_law_1114 (by decide) (fun q9 => absurd (ob_misx hO (by rw [c_1046]; decide)) q9) (fun _ => ?_)
      refine lv_iload hx hb dL_law_1117 (lv_at hl 4 rfl) ?_
      refine lv_if_le (tgt := 1126) hx hb dL_law_1119 (by decide) (fun q9 => absurd q9 (by rw [c_1046]; decide)) (fun _ => ?_)
      refine lv_iconst (v := 1) hx hb dL_law_1122 (by decide) ?_
      refine lv_goto (tgt := 1127) hx hb dL_law_1123 (by decide) ?_
      refine lv_aload_n hx hb dL_law_1127 rfl (lv_at hl 12 rfl) ?_
      refine lv_iload hx hb dL_law_1128 (lv_at hl 7 rfl) ?_
      refine lv_bipush (v := 12) hx hb dL_law_1130 (by decide) ?_
      refine q_ofReceiver (v := obT M ns nr i V 12) hK hml hw hS hi (by decide) (congrFun e50 12) wM_L_65 ⟨rO, show (cells + 8) + 1 ≤ 600086 by omega, show (slots + 48) + 6 ≤ 7301442 by omega⟩ (Nat.le_of_ble_eq_true rfl) dL_law_1132 (fun H locs hw z1 hS => ?_)
      refine lv_aload_n hx hb dL_law_1135 rfl (lv_at hl 12 rfl) ?_
      refine lv_iconst (v := 0) hx hb dL_law_1136 (by decide) ?_
      refine q_many (v := M 0 0) hK hml hw hS  (by decide) e00 wM_L_33 ⟨rO, show (cells + 9) + 1 ≤ 600086 by omega, show (slots + 54) + 6 ≤ 7301442 by omega⟩ (Nat.le_of_ble_eq_true rfl) dL_law_1137 (fun H locs hw z1 hS => ?_)
      refine lv_icmp_ne (tgt := 1147) hx hb dL_law_1140 (by decide) (fun q9 => absurd (ob_epx hM0 hO (by rw [c_1046]; decide)) q9) (fun _ => ?_)
      refine lv_iconst (v := 1) hx hb dL_law_1143 (by decide) ?_
      refine lv_goto (tgt := 1148) hx hb dL_law_1144 (by decide) ?_
      refine lv_icmp_ne (tgt := 1166) hx hb dL_law_1148 (by decide) (fun q9 => absurd rfl q9) (fun _ => ?_)
      refine lv_aload_n hx hb dL_law_1151 rfl (lv_at hl 12 rfl) ?_
      refine lv_iload hx hb dL_law_1152 (lv_at hl 7 rfl) ?_
      refine lv_iconst (v := 3) hx hb dL_law_1154 (by decide) ?_
      refine q_ofReceiver (v := M 0 0) hK hml hw hS hi (by decide) ((congrFun e50 1).trans (hO.1.2.1.trans hM0.symm)) wM_L_65 ⟨rO, show (cells + 10) + 1 ≤ 600086 by omega, show (slots + 60) + 6 ≤ 7301442 by omega⟩ (Nat.le_of_ble_eq_true rfl) dL_law_1155 (fun H locs hw z1 hS => ?_)
      refine lv_aload_n hx hb dL_law_1158 rfl (lv_at hl 12 rfl) ?_
      refine lv_iconst (v := 0) hx hb dL_law_1159 (by decide) ?_
      refine q_many (v := M 0 0) hK hml hw hS  (by decide) e00 wM_L_33 ⟨rO, show (cells + 11) + 1 ≤ 600086 by omega, show (slots + 66) + 6 ≤ 7301442 by omega⟩ (Nat.le_of_ble_eq_true rfl) dL_law_1160 (fun H locs hw z1 hS => ?_)
      refine lv_icmp_eq (tgt := 1168) hx hb dL_law_1163 (by decide) (fun _ => ?_) (fun q9 => absurd rfl q9)
      refine W.widen (k := c0 + 20) (n := s0 + 120) (by omega) (by omega) ?_
      exact jn1168_1 _ _ hw hS ls (lv_sub hl [2, 3, 6, 7, 8, 9, 10, 11, 12, 13] rfl)
  · have hA4 := (oA_1 h1).mp c_989
    have hL99 := oZ_lo (V := V) h1 hA4
    have hL3 : ¬ obZ M ns nr i V 10 < 3 := by rw [hL99]; decide
    refine lv_iconst (v := 1) hx hb dL_law_992 (by decide) ?_
    refine lv_goto (tgt := 997) hx hb dL_law_993 (by decide) ?_
    refine lv_iload hx hb dL_law_997 (lv_at hl 2 rfl) ?_
    refine lv_iconst (v := 4) hx hb dL_law_999 (by decide) ?_
    refine lv_icmp_ge (tgt := 1007) hx hb dL_law_1000 (by decide) (fun q9 => absurd q9 (ob_lt4 h1 hA4)) (fun _ => ?_)
    refine lv_iconst (v := 1) hx hb dL_law_1003 (by decide) ?_
    refine lv_goto (tgt := 1008) hx hb dL_law_1004 (by decide) ?_
    refine lv_icmp_ne (tgt := 1084) hx hb dL_law_1008 (by decide) (fun q9 => absurd rfl q9) (fun _ => ?_)
    refine lv_iload hx hb dL_law_1011 (lv_at hl 0 rfl) ?_
    refine lv_bipush (v := 99) hx hb dL_law_1013 (by decide) ?_
    refine lv_icmp_ne (tgt := 1022) hx hb dL_law_1015 (by decide) (fun q9 => absurd hL99 q9) (fun _ => ?_)
    refine lv_iconst (v := 1) hx hb dL_law_1018 (by decide) ?_
    refine lv_goto (tgt := 1023) hx hb dL_law_1019 (by decide) ?_
    refine lv_iload hx hb dL_law_1023 (lv_at hl 2 rfl) ?_
    refine lv_iconst (v := 4) hx hb dL_law_1025 (by decide) ?_
    refine lv_icmp_ge (tgt := 1033) hx hb dL_law_1026 (by decide) (fun q9 => absurd q9 (ob_lt4 h1 hA4)) (fun _ => ?_)
    refine lv_iconst (v := 1) hx hb dL_law_1029 (by decide) ?_
    refine lv_goto (tgt := 1034) hx hb dL_law_1030 (by decide) ?_
    refine lv_icmp_ne (tgt := 1084) hx hb dL_law_1034 (by decide) (fun q9 => absurd rfl q9) (fun _ => ?_)
    refine lv_iload hx hb dL_law_1037 (lv_at hl 0 rfl) ?_
    refine lv_iconst (v := 3) hx hb dL_law_1039 (by decide) ?_
    refine lv_icmp_lt (tgt := 1084) hx hb dL_law_1040 (by decide) (fun q9 => absurd q9 hL3) (fun _ => ?_)
    refine lv_iload hx hb dL_law_1043 (lv_at hl 4 rfl) ?_
    refine lv_iconst (v := 2) hx hb dL_law_1045 (by decide) ?_
    refine lv_icmp_ne (tgt := 1053) hx hb dL_law_1046 (by decide) (fun _ => ?_) (fun q9 => absurd q9 (by rw [c_989]; decide))
    refine lv_iconst (v := 0) hx hb dL_law_1053 (by decide) ?_
    refine lv_iload hx hb dL_law_1054 (lv_at hl 2 rfl) ?_
    refine lv_iconst (v := 3) hx hb dL_law_1056 (by decide) ?_
    refine lv_icmp_le (tgt := 1080) hx hb dL_law_1057 (by decide) (fun _ => ?_) (fun q9 => absurd (ob_le3 h1 hA4) q9)
    refine lv_iconst (v := 0) hx hb dL_law_1080 (by decide) ?_
    refine lv_icmp_eq (tgt := 1086) hx hb dL_law_1081 (by decide) (fun _ => ?_) (fun q9 => absurd rfl q9)
    refine lv_aload_n hx hb dL_law_1086 rfl (lv_at hl 12 rfl) ?_
    refine lv_iload hx hb dL_law_1087 (lv_at hl 7 rfl) ?_
    refine lv_bipush (v := 11) hx hb dL_law_1089 (by decide) ?_
    refine q_ofReceiver (v := obT M ns nr i V 11) hK hml hw hS hi (by decide) (congrFun e50 11) wM_L_65 ⟨rO, show (cells + 6) + 1 ≤ 600086 by omega, show (slots + 36) + 6 ≤ 7301442 by omega⟩ (Nat.le_of_ble_eq_true rfl) dL_law_1091 (fun H locs hw z1 hS => ?_)
    refine lv_iload hx hb dL_law_1094 (lv_at hl 5 rfl) ?_
    refine lv_iload hx hb dL_law_1096 (lv_at hl 4 rfl) ?_
    refine lv_if_ne (tgt := 1112) hx hb dL_law_1098 (by decide) (fun _ => ?_) (fun q9 => absurd q9 (by rw [c_989]; decide))
    refine lv_iconst (v := 0) hx hb dL_law_1112 (by decide) ?_
    refine lv_iadd hx hb dL_law_1113 ?_
    refine lv_icmp_ne (tgt := 1166) hx hb dL_law_1114 (by decide) (fun q9 => absurd (ob_misx hO (by rw [c_989]; decide)) q9) (fun _ => ?_)
    refine lv_iload hx hb dL_law_1117 (lv_at hl 4 rfl) ?_
    refine lv_if_le (tgt := 1126) hx hb dL_law_1119 (by decide) (fun q9 => absurd q9 (by rw [c_989]; decide)) (fun _ => ?_)
    refine lv_iconst (v := 1) hx hb dL_law_1122 (by decide) ?_
    refine lv_goto (tgt := 1127) hx hb dL_law_1123 (by decide) ?_
    refine lv_aload_n hx hb dL_law_1127 rfl (lv_at hl 12 rfl) ?_
    refine lv_iload hx hb dL_law_1128 (lv_at hl 7 rfl) ?_
    refine lv_bipush (v := 12) hx hb dL_law_1130 (by decide) ?_
    refine q_ofReceiver (v := obT M ns nr i V 12) hK hml hw hS hi (by decide) (congrFun e50 12) wM_L_65 ⟨rO, show (cells + 7) + 1 ≤ 600086 by omega, show (slots + 42) + 6 ≤ 7301442 by omega⟩ (Nat.le_of_ble_eq_true rfl) dL_law_1132 (fun H locs hw z1 hS => ?_)
    refine lv_aload_n hx hb dL_law_1135 rfl (lv_at hl 12 rfl) ?_
    refine lv_iconst (v := 0) hx hb dL_law_1136 (by decide) ?_
    refine q_many (v := M 0 0) hK hml hw hS  (by decide) e00 wM_L_33 ⟨rO, show (cells + 8) + 1 ≤ 600086 by omega, show (slots + 48) + 6 ≤ 7301442 by omega⟩ (Nat.le_of_ble_eq_true rfl) dL_law_1137 (fun H locs hw z1 hS => ?_)
    refine lv_icmp_ne (tgt := 1147) hx hb dL_law_1140 (by decide) (fun q9 => absurd (ob_epx hM0 hO (by rw [c_989]; decide)) q9) (fun _ => ?_)
    refine lv_iconst (v := 1) hx hb dL_law_1143 (by decide) ?_
    refine lv_goto (tgt := 1148) hx hb dL_law_1144 (by decide) ?_
    refine lv_icmp_ne (tgt := 1166) hx hb dL_law_1148 (by decide) (fun q9 => absurd rfl q9) (fun _ => ?_)
    refine lv_aload_n hx hb dL_law_1151 rfl (lv_at hl 12 rfl) ?_
    refine lv_iload hx hb dL_law_1152 (lv_at hl 7 rfl) ?_
    refine lv_iconst (v := 3) hx hb dL_law_1154 (by decide) ?_
    refine q_ofReceiver (v := M 0 0) hK hml hw hS hi (by decide) ((congrFun e50 1).trans (hO.1.2.1.trans hM0.symm)) wM_L_65 ⟨rO, show (cells + 9) + 1 ≤ 600086 by omega, show (slots + 54) + 6 ≤ 7301442 by omega⟩ (Nat.le_of_ble_eq_true rfl) dL_law_1155 (fun H locs hw z1 hS => ?_)
    refine lv_aload_n hx hb dL_law_1158 rfl (lv_at hl 12 rfl) ?_
    refine lv_iconst (v := 0) hx hb dL_law_1159 (by decide) ?_
    refine q_many (v := M 0 0) hK hml hw hS  (by decide) e00 wM_L_33 ⟨rO, show (cells + 10) + 1 ≤ 600086 by omega, show (slots + 60) + 6 ≤ 7301442 by omega⟩ (Nat.le_of_ble_eq_true rfl) dL_law_1160 (fun H locs hw z1 hS => ?_)
    refine lv_icmp_eq (tgt := 1168) hx hb dL_law_1163 (by decide) (fun _ => ?_) (fun q9 => absurd rfl q9)
    refine W.widen (k := c0 + 20) (n := s0 + 120) (by omega) (by omega) ?_
    exact jn1168_1 _ _ hw hS ls (lv_sub hl [2, 3, 6, 7, 8, 9, 10, 11, 12, 13] rfl)
