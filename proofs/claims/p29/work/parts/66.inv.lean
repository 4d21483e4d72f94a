-- what holds of the class's rows, whatever is done
def JS (e n : Nat) (r : Nat → Int32) : Prop :=
  (IR (r 0) 60 200 ∧ IR (r 2) 0 47 ∧ Bd (r 3) 999 ∧ (r 5 = 0 ∨ r 5 = 1)) ∧ (∃ k, k ≤ n ∧ r 6 = nI k) ∧ ((r 6 = 0 ∧ r 7 = -1 ∧ r 8 = -1) ∨ (¬ r 6 = 0 ∧ (∃ q, q ≤ e ∧ r 7 = nI q) ∧ IR (r 8) 0 47)) ∧ Bd (r 9) 1008 ∧ Bd (r 10) 9
def JN (t : Nat → Int32) : Prop := IR (t 1) 0 9
def JR (nr i : Nat) (v : Nat → Int32) : Prop :=
  v 0 = nI i ∧ (v 9 = 0 ∨ v 9 = 1) ∧ (v 12 = -1 ∨ ∃ q, q < nr ∧ q ≠ i ∧ v 12 = nI q) ∧ Bd (v 1) 99 ∧ Bd (v 4) 12 ∧ IR (v 5) 0 12 ∧ IR (v 8) 0 9 ∧ IR (v 10) 1 24 ∧ Bd (v 11) 30
def JT (e n : Nat) (t : Nat → Int32) : Prop :=
  (∃ k, k ≤ n ∧ t 0 = nI k) ∧ ((t 0 = 0 ∧ t 1 = -1) ∨ (¬ t 0 = 0 ∧ ∃ q, q ≤ e ∧ t 1 = nI q)) ∧ (∃ a q : Nat, a ≤ n ∧ q ≤ 24 * a ∧ t 3 = nI a ∧ t 4 = nI q) ∧ (Bd (t 5) 12 ∧ IR (t 6) 0 12) ∧ 0 ≤ (t 8).toInt ∧ IR (t 12) (-1) (t 1).toInt
def JGs (n : Nat) (g : Nat → Int32) : Prop :=
  IR (g 4) 0 9 ∧ IR (g 6) (-5) 4 ∧ g 6 = g 3 - g 4 - 10 * g 5 ∧ ∃ a b : Nat, 1 ≤ a ∧ a ≤ n ∧ b ≤ n ∧ g 7 = nI a ∧ g 8 = nI b ∧ (1 ≤ b → IR (g 6) (-2) 2) ∧ (g 1 = 1 → 3 ≤ a ∧ 3 ≤ b)
def JG (n : Nat) (g : Nat → Int32) : Prop :=
  ((g 0 = 0 ∨ g 0 = 1) ∧ (g 1 = 0 ∨ g 1 = 1) ∧ (g 2 = 0 ∨ g 2 = 1)) ∧ (g 0 = 0 → g 1 = 0 ∧ g 2 = 0) ∧ (g 0 = 1 → JGs n g) ∧ (g 2 = 0 → g 9 = 0) ∧ Bd (g 10) 5394
def JX (e n nr i : Nat) (M : Nat → Nat → Int32) : Prop := JR nr i (M (30 + i)) ∧ JT e n (M (50 + i)) ∧ ∀ j, j < 8 → JG n (M (60 + 8 * i + j))
def JW (e n ns nt nr : Nat) (M : Nat → Nat → Int32) : Prop :=
  (LB ns nt nr ∧ e ≤ 2000 ∧ n ≤ 60) ∧ M 0 0 = nI e ∧ (∀ j, j < ns → JS e n (M (10 + j))) ∧ (∀ i, i < nt → JN (M (20 + i))) ∧ ∀ i, i < nr → JX e n nr i M
section IV1
variable {e n ns nt nr : Nat} {M : Nat → Nat → Int32}
theorem JS.mono {e' n' : Nat} {r : Nat → Int32} (h : JS e n r) (he : e ≤ e') (hn : n ≤ n') : JS e' n' r := by
  obtain ⟨h1, ⟨k, hk, ek⟩, h3, h4⟩ := h
  refine ⟨h1, ⟨k, Nat.le_trans hk hn, ek⟩, ?_, h4⟩
  rcases h3 with h3 | ⟨a, ⟨q, hq, eq⟩, b⟩
  · exact Or.inl h3
  · exact Or.inr ⟨a, ⟨q, Nat.le_trans hq he, eq⟩, b⟩
theorem JR.mono {nr' i : Nat} {v : Nat → Int32} (h : JR nr i v) (hn : nr ≤ nr') : JR nr' i v := by
  obtain ⟨h1, h2, h3, h4⟩ := h
  refine ⟨h1, h2, ?_, h4⟩
  rcases h3 with h3 | ⟨q, a, b, c⟩
  · exact Or.inl h3
  · exact Or.inr ⟨q, Nat.lt_of_lt_of_le a hn, b, c⟩
theorem JT.mono {e' n' : Nat} {t : Nat → Int32} (h : JT e n t) (he : e ≤ e') (hn : n ≤ n') : JT e' n' t := by
  obtain ⟨⟨k, hk, ek⟩, h2, ⟨a, q, ha, hq, e3, e4⟩, h5⟩ := h
  refine ⟨⟨k, Nat.le_trans hk hn, ek⟩, ?_, ⟨a, q, Nat.le_trans ha hn, hq, e3, e4⟩, h5⟩
  rcases h2 with h2 | ⟨a, q, hq, eq⟩
  · exact Or.inl h2
  · exact Or.inr ⟨a, q, Nat.le_trans hq he, eq⟩
theorem JG.mono {n' : Nat} {g : Nat → Int32} (h : JG n g) (hn : n ≤ n') : JG n' g := by
  obtain ⟨h1, h2, h3, h4⟩ := h
  refine ⟨h1, h2, fun q => ?_, h4⟩
  obtain ⟨a1, a2, a3, a, b, b1, b2, b3, b4⟩ := h3 q
  exact ⟨a1, a2, a3, a, b, b1, Nat.le_trans b2 hn, Nat.le_trans b3 hn, b4⟩
theorem JX.of {e' n' nr' i : Nat} {M' : Nat → Nat → Int32} (h : JX e n nr i M) (he : e ≤ e') (hn : n ≤ n') (hr : nr ≤ nr') (h3 : M' (30 + i) = M (30 + i)) (h5 : M' (50 + i) = M (50 + i)) (h6 : ∀ j, j < 8 → M' (60 + 8 * i + j) = M (60 + 8 * i + j)) : JX e' n' nr' i M' := by
  refine ⟨by rw [h3]; exact h.1.mono hr, by rw [h5]; exact h.2.1.mono he hn, fun j hj => by rw [h6 j hj]; exact (h.2.2 j hj).mono hn⟩
theorem JW.next {n' : Nat} (h : JW e n ns nt nr M) (hn : n ≤ n') (h60 : n' ≤ 60) : JW e n' ns nt nr M :=
  ⟨⟨h.1.1, h.1.2.1, h60⟩, h.2.1, fun j hj => (h.2.2.1 j hj).mono (Nat.le_refl _) hn, h.2.2.2.1, fun i hi => (h.2.2.2.2 i hi).of (Nat.le_refl _) hn (Nat.le_refl _) rfl rfl (fun _ _ => rfl)⟩
theorem JW.st1 {n' j : Nat} {r : Nat → Int32} (h : JW e n ns nt nr M) (hn : n ≤ n') (h60 : n' ≤ 60) (hj : j < ns) (hr : JS e n' r) : JW e n' ns nt nr (mset M (10 + j) r) := by
  have hL := h.1.1.1
  refine ⟨⟨h.1.1, h.1.2.1, h60⟩, by rw [mset_n (by omega)]; exact h.2.1, fun q hq => ?_, fun i hi => by rw [mset_n (by omega)]; exact h.2.2.2.1 i hi, fun i hi => (h.2.2.2.2 i hi).of (Nat.le_refl _) hn (Nat.le_refl _) (mset_n (by omega)) (mset_n (by omega)) (fun _ _ => mset_n (by omega))⟩
  by_cases e9 : q = j
  · subst e9
    rw [mset_s]
    exact hr
  · rw [mset_n (by omega)]
    exact (h.2.2.1 q hq).mono (Nat.le_refl _) hn
theorem JW.rc1 {n' i : Nat} {v : Nat → Int32} (h : JW e n ns nt nr M) (hn : n ≤ n') (h60 : n' ≤ 60) (hi : i < nr) (hv : JR nr i v) : JW e n' ns nt nr (mset M (30 + i) v) := by
  have hL1 := h.1.1.1
  have hL2 := h.1.1.2.1
  have hL3 := h.1.1.2.2
  refine ⟨⟨h.1.1, h.1.2.1, h60⟩, by rw [mset_n (by omega)]; exact h.2.1, fun q hq => by rw [mset_n (by omega)]; exact (h.2.2.1 q hq).mono (Nat.le_refl _) hn, fun q hq => by rw [mset_n (by omega)]; exact h.2.2.2.1 q hq, fun q hq => ?_⟩
  by_cases e9 : q = i
  · subst e9
    obtain ⟨-, x2, x3⟩ := h.2.2.2.2 q hq
    exact ⟨by rw [mset_s]; exact hv, by rw [mset_n (by omega)]; exact x2.mono (Nat.le_refl _) hn, fun j hj => by rw [mset_n (by omega)]; exact (x3 j hj).mono hn⟩
  · exact (h.2.2.2.2 q hq).of (Nat.le_refl _) hn (Nat.le_refl _) (mset_n (by omega)) (mset_n (by omega)) (fun _ _ => mset_n (by omega))
-- what is done to a star
theorem JS.push {r : Nat → Int32} {b : Int32} (h : JS e n r) : JS e n (upd r 2 (pFMod (r 2 + b) 48)) := by
  obtain ⟨⟨a1, a2, a3, a4⟩, h2⟩ := h
  exact ⟨⟨a1, pFMod_IR (x := r 2 + b) (c := 48) (by decide), a3, a4⟩, h2⟩
theorem JS.jump {r : Nat → Int32} {o d : Int32} (h : JS e n r) : JS e n (upd (rClock r o) 4 d) := by
  obtain ⟨⟨a1, a2, a3, a4⟩, h2⟩ := h
  exact ⟨⟨a1, a2, Bd.held _ (by decide) (by decide) (by decide), a4⟩, h2⟩
theorem JS.health {r : Nat → Int32} {b : Bool} (h : JS e n r) : JS e n (upd r 5 (bI b)) := by
  obtain ⟨⟨a1, a2, a3, a4⟩, h2⟩ := h
  exact ⟨⟨a1, a2, a3, bI_01 b⟩, h2⟩
theorem JS.pass1 {r : Nat → Int32} (h : JS e n r) : JS (e + 1) n (rPass r) := by
  obtain ⟨⟨a1, a2, a3, a4⟩, h2⟩ := h.mono (Nat.le_succ _) (Nat.le_refl _)
  exact ⟨⟨a1, pFMod_IR (x := r 2 + r 1) (c := 48) (by decide), Bd.held _ (by decide) (by decide) (by decide), a4⟩, h2⟩
theorem JS.new {ra ph sp of dr : Int32} (h1 : IR ra 60 200) (h2 : IR ph 0 47) (h3 : Bd of 999) : JS e n (rNew ra ph sp of dr) :=
  ⟨⟨h1, h2, h3, Or.inr rfl⟩, ⟨0, Nat.zero_le _, nI_0.symm⟩, Or.inl ⟨rfl, rfl, rfl⟩, Bd0 _, Bd0 _⟩
theorem JS.listen {r : Nat → Int32} {dl : Int32} (h : JS e n r) (hn : n < 60) (he : e ≤ 2000) (hd : IR dl 0 9) : JS e (n + 1) (rTake r (nI e) dl) ∧ rTake r (nI e) dl 6 = r 6 + 1 := by
  obtain ⟨⟨a1, a2, a3, a4⟩, ⟨k, hk, ek⟩, h3, h4, h5⟩ := h
  have k6 : rTake r (nI e) dl 6 = r 6 + 1 := by unfold rTake; rfl
  have hne : ¬ r 6 + 1 = 0 := by
    rw [ek, nI_1]
    exact nI_ne0 (by omega) (by omega)
  have h9 : Bd (rTake r (nI e) dl 10) 9 := by
    show Bd ((if r 6 ≤ 0 then r else if nI e - r 7 = 0 then r else upd r 10 (pHeld ((r 3 + dl - r 9) / (nI e - r 7)) 9)) 10) 9
    split
    · exact h5
    · split
      · exact h5
      · exact Bd.held _ (by decide) (by decide) (by decide)
  have hx : ∀ c, c ≠ 10 → (if r 6 ≤ 0 then r else if nI e - r 7 = 0 then r else upd r 10 (pHeld ((r 3 + dl - r 9) / (nI e - r 7)) 9)) c = r c := fun c hc => by
    split
    · rfl
    · split
      · rfl
      · exact if_neg hc
  have hc : ∀ c, c ≠ 10 → c ≠ 6 → c ≠ 7 → c ≠ 8 → c ≠ 9 → rTake r (nI e) dl c = r c := fun c c1 c2 c3 c4 c5 => by
    unfold rTake
    show upd (upd (upd (upd _ 6 _) 7 _) 8 _) 9 _ c = r c
    rw [upd_o (by omega), upd_o (by omega), upd_o (by omega), upd_o (by omega)]
    exact hx c c1
  refine ⟨⟨⟨by rw [hc 0 (by decide) (by decide) (by decide) (by decide) (by decide)]; exact a1, by rw [hc 2 (by decide) (by decide) (by decide) (by decide) (by decide)]; exact a2, by rw [hc 3 (by decide) (by decide) (by decide) (by decide) (by decide)]; exact a3, by rw [hc 5 (by decide) (by decide) (by decide) (by decide) (by decide)]; exact a4⟩, ⟨k + 1, by omega, by rw [k6, ek, nI_1]⟩, Or.inr ⟨by rw [k6]; exact hne, ⟨e, Nat.le_refl _, rfl⟩, a2⟩, ?_, h9⟩, k6⟩
  show Bd (r 3 + dl) 1008
  exact Bd.add a3 (hd.bd (K := 9) (by omega) (by omega)) (by decide)
theorem JW.pass1 (h : JW e n ns nt nr M) (he : e + 1 ≤ 2000) : JW (e + 1) n ns nt nr (pPass1 M ns) := by
  have hL1 := h.1.1.1
  have ek : ∀ k, k ≠ 0 → ¬ (10 ≤ k ∧ k < 10 + ns) → pPass1 M ns k = M k := fun k h1 h2 => by
    unfold pPass1
    rw [if_neg h1, if_neg h2]
  refine ⟨⟨h.1.1, he, h.1.2.2⟩, ?_, fun j hj => ?_, fun i hi => ?_, fun i hi => ?_⟩
  · show upd (M 0) 0 (M 0 0 + 1) 0 = nI (e + 1)
    rw [h.2.1, nI_1]
    rfl
  · have e1 : pPass1 M ns (10 + j) = rPass (M (10 + j)) := by
      unfold pPass1
      rw [if_neg (by omega), if_pos (by omega)]
    rw [e1]
    exact (h.2.2.1 j hj).pass1
  · have hL2 := h.1.1.2.1
    rw [ek (20 + i) (by omega) (by omega)]
    exact h.2.2.2.1 i hi
  · exact (h.2.2.2.2 i hi).of (Nat.le_succ _) (Nat.le_refl _) (Nat.le_refl _) (ek _ (by omega) (by omega)) (ek _ (by omega) (by omega)) (fun j hj => ek _ (by omega) (by omega))
theorem JW.pass (h : JW e n ns nt nr M) : ∀ k, e + k ≤ 2000 → JW (e + k) n ns nt nr (pPassN M ns k)
  | 0, _ => by
    rw [pPassN_0]
    exact h
  | k + 1, hk => by
    rw [pPassN_s]
    exact (JW.pass h k (by omega)).pass1 hk
-- new ones
theorem JW.star {ra ph sp of dr : Int32} (h : JW e n ns nt nr M) (h8 : ns < 8) (h1 : IR ra 60 200) (h2 : IR ph 0 47) (h3 : Bd of 999) : JW e n (ns + 1) nt nr (mset M (10 + ns) (rNew ra ph sp of dr)) := by
  obtain ⟨⟨⟨l1, l2, l3⟩, he, hn⟩, hM, hS, hT, hR⟩ := h
  refine ⟨⟨⟨by omega, l2, l3⟩, he, hn⟩, by rw [mset_n (by omega)]; exact hM, fun q hq => ?_, fun i hi => by rw [mset_n (by omega)]; exact hT i hi, fun i hi => (hR i hi).of (Nat.le_refl _) (Nat.le_refl _) (Nat.le_refl _) (mset_n (by omega)) (mset_n (by omega)) (fun _ _ => mset_n (by omega))⟩
  by_cases e9 : q = ns
  · subst e9
    rw [mset_s]
    exact JS.new h1 h2 h3
  · rw [mset_n (by omega)]
    exact hS q (by omega)
theorem JW.station {x d : Int32} (h : JW e n ns nt nr M) (h8 : nt < 3) (hd : IR d 0 9) : JW e n ns (nt + 1) nr (mset M (20 + nt) (snNew x d)) := by
  obtain ⟨⟨⟨l1, l2, l3⟩, he, hn⟩, hM, hS, hT, hR⟩ := h
  refine ⟨⟨⟨l1, by omega, l3⟩, he, hn⟩, by rw [mset_n (by omega)]; exact hM, fun q hq => by rw [mset_n (by omega)]; exact hS q hq, fun i hi => ?_, fun i hi => (hR i hi).of (Nat.le_refl _) (Nat.le_refl _) (Nat.le_refl _) (mset_n (by omega)) (mset_n (by omega)) (fun _ _ => mset_n (by omega))⟩
  by_cases e9 : i = nt
  · subst e9
    rw [mset_s]
    exact hd
  · rw [mset_n (by omega)]
    exact hT i (by omega)
theorem JG.new : JG n (fun _ => 0) := ⟨⟨Or.inl rfl, Or.inl rfl, Or.inl rfl⟩, fun _ => ⟨rfl, rfl⟩, fun q => absurd q (show ¬ (0 : Int32) = 1 by decide), fun _ => rfl, Bd0 _⟩
theorem JT.new : JT e n tNew :=
  ⟨⟨0, Nat.zero_le _, nI_0.symm⟩, Or.inl ⟨rfl, rfl⟩, ⟨0, 0, Nat.zero_le _, Nat.zero_le _, nI_0.symm, nI_0.symm⟩, ⟨Bd0 _, (show IR 0 0 12 from IR.lit (by decide))⟩, (show 0 ≤ (0 : Int32).toInt by decide), (show IR (-1) (-1) (-1 : Int32).toInt from IR.lit (by decide))⟩
theorem JW.receiver {x y b : Int32} (h : JW e n ns nt nr M) (h8 : nr < 3) (hx : Bd x 12) (hy : IR y 0 12) (hb : Bd b 99) : JW e n ns nt (nr + 1) (pNewR M nr (vNew (nI nr) x y b)) := by
  obtain ⟨⟨⟨l1, l2, l3⟩, he, hn⟩, hM, hS, hT, hR⟩ := h
  have em : ∀ k, ¬ NK nr k → pNewR M nr (vNew (nI nr) x y b) k = M k := fun k hk => pNewR_n hk
  have e3 : pNewR M nr (vNew (nI nr) x y b) (30 + nr) = vNew (nI nr) x y b := by unfold pNewR; rw [if_pos rfl]
  have e5 : pNewR M nr (vNew (nI nr) x y b) (50 + nr) = tNew := by unfold pNewR; rw [if_neg (by omega), if_pos rfl]
  have e6 : ∀ j, j < 8 → pNewR M nr (vNew (nI nr) x y b) (60 + 8 * nr + j) = fun _ => 0 := fun j hj => by unfold pNewR; rw [if_neg (by omega), if_neg (by omega), if_pos (by omega)]
  refine ⟨⟨⟨l1, l2, by omega⟩, he, hn⟩, by rw [em 0 (by unfold NK; omega)]; exact hM, fun q hq => by rw [em (10 + q) (by unfold NK; omega)]; exact hS q hq, fun i hi => by rw [em (20 + i) (by unfold NK; omega)]; exact hT i hi, fun i hi => ?_⟩
  by_cases e9 : i = nr
  · subst e9
    refine ⟨by rw [e3]; exact ⟨rfl, Or.inr rfl, Or.inl rfl, hb, hx, hy, (show IR 0 0 9 from IR.lit (by decide)), (show IR 6 1 24 from IR.lit (by decide)), Bd0 _⟩, by rw [e5]; exact JT.new, fun j hj => by rw [e6 j hj]; exact JG.new⟩
  · exact (hR i (by omega)).of (Nat.le_refl _) (Nat.le_refl _) (Nat.le_succ _) (em _ (by unfold NK; omega)) (em _ (by unfold NK; omega)) (fun _ _ => em _ (by unfold NK; omega))
theorem JW.start : JW 0 0 0 0 0 (fun _ _ => 0) :=
  ⟨⟨⟨by omega, by omega, by omega⟩, by omega, by omega⟩, nI_0.symm, fun j h => absurd h (by omega), fun j h => absurd h (by omega), fun j h => absurd h (by omega)⟩
end IV1
