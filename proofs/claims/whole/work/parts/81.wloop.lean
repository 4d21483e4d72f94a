-- the law's last case, its loop
set_option maxHeartbeats 4000000 in
set_option maxRecDepth 100000 in
theorem law_digest (l : Launch) {D : va_G} {cy : Nat → ClassId} {p : Program} {e : Env} {s : State} {m : MethodId} {args : Array Value} {below : List Frame} {meth : Method} {c : Code} {b L : Nat} {xs : Nat → Int32} (hC : LC D cy p s m meth c b L xs) {Q : State → Prop} {n w x m0 o1 o2 : Nat} {H : Heap} {locs : List Loc} {cells slots : Nat} {ls : Array Slot} (hI : LI D cy s.heap.size x m0 o1 o2 n H) (hn : n < 512) (hS : va_S (fun q => s.heap.size ≤ q) s.heap H locs) (hc : cells + 51 ≤ 601024) (hs : slots + 669 ≤ 7293034) (hl : lv_has ls 9 [(0, .ref b), (1, .ref x), (2, .ref m0), (3, .ref o1), (4, .ref o2), (5, .int (nI w))])
    (kk : ∀ (H1 : Heap) (locs1 : List Loc) (ls1 : Array Slot), LI D cy s.heap.size x m0 o1 o2 (n + 1) H1 → va_S (fun q => s.heap.size ≤ q) s.heap H1 locs1 → lv_has ls1 9 [(0, .ref b), (1, .ref x), (2, .ref m0), (3, .ref o1), (4, .ref o2), (5, .int (nI w))] → W p l e room_1 s m args below meth c H1 locs1 (cells + 51) (slots + 669) Q (F0 m 1986 ls1 [])) :
    W p l e room_1 s m args below meth c H locs cells slots Q (F0 m 1972 ls []) := by
  obtain ⟨⟨hx, hb, hml9, hown⟩, ⟨hG, hX, hGz, hAW, hN⟩, hXs, hbl⟩ := hC
  obtain ⟨ep, ns, nt, nr, M, N, V, co, su, ad, md, f1, f2, hR, hA, hM, hJ, hcw, hmw, hol, hod, rfl, rfl⟩ := hI
  have hL := hR.1.1
  have hMN := hR.2.1.2.2.1
  have hml : c.maxLocals = ls.size := hml9.trans hl.1.symm
  have hz : s.heap.size ≤ H.size := hS.1
  obtain ⟨hJ1, hJ2, hJ3, hJ4, hJ5⟩ := id hJ
  have hclt := CA.lt hcw hL
  have ho1 : o1 < H.size := (hol 0 _ rfl).lt
  have ho2 : o2 < H.size := (hod 0 _ rfl).lt
  refine lv_aload_n hx hb dL_law_1972 rfl (lv_at hl 1 rfl) ?_
  refine kc_ul (kr_V (As := []) (rest := []) hx hb hml hown hG (c_X6_digest l D cy ad ns nt nr hL M V hA) cf_X6_digest wM_L_189 hcw.o rfl hcw ⟨rfl, rfl, Nat.le_of_ble_eq_true rfl, Nat.le_of_ble_eq_true rfl⟩ rfl rfl (Nat.le_of_ble_eq_true rfl) ⟨show cells + 0 ≤ 601024 by omega, show slots + 0 ≤ 7293034 by omega⟩ dL_law_1973) hS (fun q h => (hJ1 q h).1) (fun r6 H1 locs hp1 z1 oq1 hS => ?_)
  obtain ⟨e6, V2, hcw⟩ := hp1
  have hmw := hmw.keep oq1 (fun q hq h => (hJ1 q h).2.1 hq)
  have hol : oL D cy o1 f1 H1 := kP_keepA hol oq1 (fun h => (hJ1 o1 h).2.2.1 rfl)
  have hod : oD D cy o2 f2 H1 := kP_keepA hod oq1 (fun h => (hJ1 o2 h).2.2.2 rfl)
  refine lv_aload_n hx hb dL_law_1976 rfl (lv_at hl 2 rfl) ?_
  refine kc_ul (kr_V (As := []) (rest := [.long r6]) hx hb hml hown hG (c_X7_digest l D cy md N co su hM ns nt nr hL hMN hR.ref H1.size) cf_X7_digest wM_L_193 hmw.o rfl ⟨hmw, rfl⟩ ⟨rfl, rfl, Nat.le_of_ble_eq_true rfl, Nat.le_of_ble_eq_true rfl⟩ rfl rfl (Nat.le_of_ble_eq_true rfl) ⟨show cells + 0 + 51 ≤ 601024 by omega, show slots + 0 + 669 ≤ 7293034 by omega⟩ dL_law_1977) hS (fun q h => h.elim (fun h => (hJ2 q h).1) (fun h => Nat.le_trans (Nat.le_trans hz z1) h)) (fun r7 H2 locs hp2 z2 oq2 hS => ?_)
  obtain ⟨e7, N2, c2, s2, hsame, hmw⟩ := hp2
  have hcw := hcw.keep oq2 (fun q hq h => h.elim (fun h => (hJ1 q hq).2.1 h) (fun h => absurd (hclt q hq) (Nat.not_lt.mpr (Nat.le_trans z1 h))))
  have hol : oL D cy o1 f1 H2 := kP_keepA hol oq2 (fun h => h.elim (fun h => (hJ2 o1 h).2.1 rfl) (fun h => absurd ho1 (Nat.not_lt.mpr (Nat.le_trans z1 h))))
  have hod : oD D cy o2 f2 H2 := kP_keepA hod oq2 (fun h => h.elim (fun h => (hJ2 o2 h).2.2 rfl) (fun h => absurd ho2 (Nat.not_lt.mpr (Nat.le_trans z1 h))))
  have hq := S_digest (hR.no 0) V co
  refine W.lcmp hx hb dL_law_1980 ?_
  refine lv_if_eq (tgt := 1986) hx hb dL_law_1981 (by decide) (fun _ => ?_) (fun q => absurd ((lg_cmp_eq _ _).mpr (by rw [e6, e7, hq])) q)
  refine W.widen (k := cells + 51) (n := slots + 669) (by omega) (by omega) ?_
  exact kk H2 _ ls (LI.mk ((hR.no 0).same hn hsame) hA hM hJ hcw hmw hol hod rfl) hS hl
theorem LI.next {D : va_G} {cy : Nat → ClassId} {lo x m0 o1 o2 n : Nat} {H : Heap} (h : LI D cy lo x m0 o1 o2 n H) (hn : n < 512) : LI D cy lo x m0 o1 o2 (n + 1) H := by
  obtain ⟨ep, ns, nt, nr, M, N, V, co, su, ad, md, f1, f2, hR, hr⟩ := h
  exact ⟨ep, ns, nt, nr, M, N, V, co, su, ad, md, f1, f2, hR.next hn, hr⟩
theorem w_left {L w : Nat} (hL : L ≤ 3072) (hw : w ≤ 3072) (h : ¬ Int32.ofNat L - 6 < nI w) : w + 6 ≤ L := by
  have e6 : (6 : Int32).toInt = 6 := by decide
  have eL : (Int32.ofNat L).toInt = (L : Int) := nI_toInt (n := L) (by omega)
  rw [Int32.lt_iff_toInt_lt, i_sub (by rw [eL, e6]; omega) (by rw [eL, e6]; omega), eL, e6, nI_toInt (by omega)] at h
  omega
set_option maxHeartbeats 4000000 in
set_option maxRecDepth 100000 in
theorem law_loop (l : Launch) (hlf : l.stackTraces = false) {D : va_G} {cy : Nat → ClassId} {p : Program} {e : Env} {s : State} {m : MethodId} {args : Array Value} {below : List Frame} {meth : Method} {c : Code} {b L : Nat} {xs : Nat → Int32} (hC : LC D cy p s m meth c b L xs) (hL3 : L ≤ 3072) {Q : State → Prop} {x m0 o1 o2 : Nat}
    (hend : ∀ (H : Heap) (locs : List Loc) (ls : Array Slot), va_S (fun q => s.heap.size ≤ q) s.heap H locs → W p l e room_1 s m args below meth c H locs 601024 7293034 Q (F0 m 1992 ls [])) :
    ∀ (k n w : Nat) (H : Heap) (locs : List Loc) (ls : Array Slot), 513 ≤ n + k → n ≤ 512 → w = 6 * n → LI D cy s.heap.size x m0 o1 o2 n H → va_S (fun q => s.heap.size ≤ q) s.heap H locs → lv_has ls 9 [(0, .ref b), (1, .ref x), (2, .ref m0), (3, .ref o1), (4, .ref o2), (5, .int (nI w))] → W p l e room_1 s m args below meth c H locs (100 + 51 * n) (1000 + 669 * n) Q (F0 m 28 ls []) := by
  intro k
  induction k with
  | zero =>
    intro n w H locs ls h1 h2
    exact absurd h1 (by omega)
  | succ k ih =>
    intro n w H locs ls h1 h2 hw hI hS hl
    obtain ⟨⟨hx, hb, hml9, hown⟩, -, hXs, hbl⟩ := id hC
    have hbA : ¬ (fun q => s.heap.size ≤ q) b := Nat.not_le.mpr hbl
    refine lv_iload hx hb dL_law_28 (lv_at hl 5 rfl) ?_
    refine lv_aload_n hx hb dL_law_30 rfl (lv_at hl 0 rfl) ?_
    refine va_slen hx hb hXs hbl hbA hS dL_law_31 ?_
    refine lv_bipush (v := 6) hx hb dL_law_32 (by decide) ?_
    refine lv_isub hx hb dL_law_34 ?_
    refine lv_icmp_gt (tgt := 1992) hx hb dL_law_35 (by decide) (fun _ => ?_) (fun c9 => ?_)
    · exact W.widen (by omega) (by omega) (hend H locs ls hS)
    · have hw6 := w_left hL3 (by omega) c9
      have hn : n < 512 := by omega
      have hc : 100 + 51 * n + 51 ≤ 601024 := by omega
      have hs : 1000 + 669 * n + 669 ≤ 7293034 := by omega
      have kk : ∀ (H1 : Heap) (locs1 : List Loc) (ls1 : Array Slot), LI D cy s.heap.size x m0 o1 o2 (n + 1) H1 → va_S (fun q => s.heap.size ≤ q) s.heap H1 locs1 → lv_has ls1 9 [(0, .ref b), (1, .ref x), (2, .ref m0), (3, .ref o1), (4, .ref o2), (5, .int (nI w))] → W p l e room_1 s m args below meth c H1 locs1 (100 + 51 * n + 51) (1000 + 669 * n + 669) Q (F0 m 1986 ls1 []) := by
        intro H1 locs1 ls1 hI hS hl
        refine lv_iinc (v := nI (w + 6)) (lv' := [(5, .int (nI (w + 6))), (0, .ref b), (1, .ref x), (2, .ref m0), (3, .ref o1), (4, .ref o2)]) hx hb dL_law_1986 hl (k := 5) rfl (nI_add w 6) (by decide) rfl (fun ls hl => ?_)
        refine lv_goto (tgt := 28) hx hb dL_law_1989 (by decide) ?_
        have := ih (n + 1) (w + 6) H1 locs1 ls (by omega) (by omega) (by omega) hI hS (lv_sub hl [1, 2, 3, 4, 5, 0] rfl)
        rw [show 100 + 51 * (n + 1) = 100 + 51 * n + 51 by omega, show 1000 + 669 * (n + 1) = 1000 + 669 * n + 669 by omega] at this
        exact this
      refine lv_aload_n hx hb dL_law_38 rfl (lv_at hl 0 rfl) ?_
      refine lv_iload hx hb dL_law_39 (lv_at hl 5 rfl) ?_
      refine va_sld hx hb hXs hbl hbA hS (vp_in_nI (show w < L by omega) (by omega)) dL_law_41 ?_
      refine lv_bipush (v := 31) hx hb dL_law_42 (by decide) ?_
      refine lv_iand hx hb dL_law_44 ?_
      refine lv_topi (fun v ev => ?_)
      by_cases co : v.toInt < 0 ∨ 25 < v.toInt
      · refine lv_tableOut (tgt := 1986) hx hb dL_law_45 co (by decide) ?_
        exact W.widen (by omega) (by omega) (kk H locs ls (hI.next hn) hS hl)
      · obtain ⟨j, hj, ej⟩ := nI_of2 (M := 25) (n := 25) (x := v) rfl (by rw [Int32.lt_iff_toInt_lt]; exact fun q => co (Or.inl q)) (by rw [Int32.le_iff_toInt_le]; exact Int.not_lt.mp (fun q => co (Or.inr q)))
        clear ev co
        subst ej
        rcases (show j = 0 ∨ j = 1 ∨ j = 2 ∨ j = 3 ∨ j = 4 ∨ j = 5 ∨ j = 6 ∨ j = 7 ∨ j = 8 ∨ j = 9 ∨ j = 10 ∨ j = 11 ∨ j = 12 ∨ j = 13 ∨ j = 14 ∨ j = 15 ∨ j = 16 ∨ j = 17 ∨ j = 18 ∨ j = 19 ∨ j = 20 ∨ j = 21 ∨ j = 22 ∨ j = 23 ∨ j = 24 ∨ j = 25 by omega) with rfl | rfl | rfl | rfl | rfl | rfl | rfl | rfl | rfl | rfl | rfl | rfl | rfl | rfl | rfl | rfl | rfl | rfl | rfl | rfl | rfl | rfl | rfl | rfl | rfl | rfl
        · refine lv_tableIn (off := 119) (tgt := 164) hx hb dL_law_45 (by decide) (by decide) (by rfl) (by decide) ?_
          exact law_star l hlf hC hL3 hI hn hw6 hS hc hs hl kk
        · refine lv_tableIn (off := 223) (tgt := 268) hx hb dL_law_45 (by decide) (by decide) (by rfl) (by decide) ?_
          exact law_push l hlf hC hL3 hI hn hw6 hS hc hs hl kk
        · refine lv_tableIn (off := 291) (tgt := 336) hx hb dL_law_45 (by decide) (by decide) (by rfl) (by decide) ?_
          exact law_jump l hlf hC hL3 hI hn hw6 hS hc hs hl kk
        · refine lv_tableIn (off := 371) (tgt := 416) hx hb dL_law_45 (by decide) (by decide) (by rfl) (by decide) ?_
          exact law_health l hlf hC hL3 hI hn hw6 hS hc hs hl kk
        · refine lv_tableIn (off := 462) (tgt := 507) hx hb dL_law_45 (by decide) (by decide) (by rfl) (by decide) ?_
          exact law_station l hlf hC hL3 hI hn hw6 hS hc hs hl kk
        · refine lv_tableIn (off := 530) (tgt := 575) hx hb dL_law_45 (by decide) (by decide) (by rfl) (by decide) ?_
          exact law_listen l hlf hC hL3 hI hn hw6 hS hc hs hl kk
        · refine lv_tableIn (off := 598) (tgt := 643) hx hb dL_law_45 (by decide) (by decide) (by rfl) (by decide) ?_
          exact law_receiver l hlf hC hL3 hI hn hw6 hS hc hs hl kk
        · refine lv_tableIn (off := 678) (tgt := 723) hx hb dL_law_45 (by decide) (by decide) (by rfl) (by decide) ?_
          exact law_go l hlf hC hL3 hI hn hw6 hS hc hs hl kk
        · refine lv_tableIn (off := 758) (tgt := 803) hx hb dL_law_45 (by decide) (by decide) (by rfl) (by decide) ?_
          exact law_hills l hlf hC hL3 hI hn hw6 hS hc hs hl kk
        · refine lv_tableIn (off := 838) (tgt := 883) hx hb dL_law_45 (by decide) (by decide) (by rfl) (by decide) ?_
          exact law_air l hlf hC hL3 hI hn hw6 hS hc hs hl kk
        · refine lv_tableIn (off := 934) (tgt := 979) hx hb dL_law_45 (by decide) (by decide) (by rfl) (by decide) ?_
          exact law_alert l hlf hC hL3 hI hn hw6 hS hc hs hl kk
        · refine lv_tableIn (off := 1002) (tgt := 1047) hx hb dL_law_45 (by decide) (by decide) (by rfl) (by decide) ?_
          exact law_spoof l hlf hC hL3 hI hn hw6 hS hc hs hl kk
        · refine lv_tableIn (off := 1070) (tgt := 1115) hx hb dL_law_45 (by decide) (by decide) (by rfl) (by decide) ?_
          exact law_refer l hlf hC hL3 hI hn hw6 hS hc hs hl kk
        · refine lv_tableIn (off := 1138) (tgt := 1183) hx hb dL_law_45 (by decide) (by decide) (by rfl) (by decide) ?_
          exact law_pass l hlf hC hL3 hI hn hw6 hS hc hs hl kk
        · refine lv_tableIn (off := 1194) (tgt := 1239) hx hb dL_law_45 (by decide) (by decide) (by rfl) (by decide) ?_
          exact law_observe l hlf hC hL3 hI hn hw6 hS hc hs hl kk
        · refine lv_tableIn (off := 1250) (tgt := 1295) hx hb dL_law_45 (by decide) (by decide) (by rfl) (by decide) ?_
          exact law_ofStar l hlf hC hL3 hI hn hw6 hS hc hs hl kk
        · refine lv_tableIn (off := 1318) (tgt := 1363) hx hb dL_law_45 (by decide) (by decide) (by rfl) (by decide) ?_
          exact law_message l hlf hC hL3 hI hn hw6 hS hc hs hl kk
        · refine lv_tableIn (off := 1386) (tgt := 1431) hx hb dL_law_45 (by decide) (by decide) (by rfl) (by decide) ?_
          exact law_seen l hlf hC hL3 hI hn hw6 hS hc hs hl kk
        · refine lv_tableIn (off := 1466) (tgt := 1511) hx hb dL_law_45 (by decide) (by decide) (by rfl) (by decide) ?_
          exact law_ofReceiver l hlf hC hL3 hI hn hw6 hS hc hs hl kk
        · refine lv_tableIn (off := 1534) (tgt := 1579) hx hb dL_law_45 (by decide) (by decide) (by rfl) (by decide) ?_
          exact law_many l hlf hC hL3 hI hn hw6 hS hc hs hl kk
        · refine lv_tableIn (off := 1590) (tgt := 1635) hx hb dL_law_45 (by decide) (by decide) (by rfl) (by decide) ?_
          exact law_meanError l hlf hC hL3 hI hn hw6 hS hc hs hl kk
        · refine lv_tableIn (off := 1667) (tgt := 1712) hx hb dL_law_45 (by decide) (by decide) (by rfl) (by decide) ?_
          exact law_wouldSee l hlf hC hL3 hI hn hw6 hS hc hs hl kk
        · refine lv_tableIn (off := 1735) (tgt := 1780) hx hb dL_law_45 (by decide) (by decide) (by rfl) (by decide) ?_
          exact law_heardIn l hlf hC hL3 hI hn hw6 hS hc hs hl kk
        · refine lv_tableIn (off := 1803) (tgt := 1848) hx hb dL_law_45 (by decide) (by decide) (by rfl) (by decide) ?_
          exact law_without l hlf hC hL3 hI hn hw6 hS hc hs hl kk
        · refine lv_tableIn (off := 1871) (tgt := 1916) hx hb dL_law_45 (by decide) (by decide) (by rfl) (by decide) ?_
          exact law_wouldAlarm l hlf hC hL3 hI hn hw6 hS hc hs hl kk
        · refine lv_tableIn (off := 1927) (tgt := 1972) hx hb dL_law_45 (by decide) (by decide) (by rfl) (by decide) ?_
          exact law_digest l hC hI hn hS hc hs hl kk
