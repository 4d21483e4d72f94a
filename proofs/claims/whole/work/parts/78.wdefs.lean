-- the law's own walk: what holds before a step and after it
def GXL (s : State) : Prop := vx_Zq Bundle.tN "UNASSIGNED_STACK" Bundle.steD (fun q => s.heap.size ≤ q) s s.heap ∧ vx_Zq Bundle.tN "SUPPRESSED_SENTINEL" Bundle.listD (fun q => s.heap.size ≤ q) s s.heap
theorem GXL.at {s : State} {H : Heap} {locs : List Loc} (h : GXL s) (hS : va_S (fun q => s.heap.size ≤ q) s.heap H locs) : GX s H :=
  ⟨(h.1.kept hS.2.1).narrow (fun _ f => f.elim), (h.2.kept hS.2.1).narrow (fun _ f => f.elim)⟩
/-- what holds all through the law's run -/
def LC (D : va_G) (cy : Nat → ClassId) (p : Program) (s : State) (m : MethodId) (meth : Method) (c : Code) (b L : Nat) (xs : Nat → Int32) : Prop :=
  (p.tables.exec = Jvm.exec ∧ c.code = cL_law ∧ c.maxLocals = 9 ∧ s.vm.findClass RL = some m.cls) ∧ (GK D cy s ∧ XWD s ∧ GXL s ∧ AWD s ∧ NC s) ∧ va_X b L xs s s.heap ∧ b < s.heap.size
/-- the worlds lie apart -/
def DJ (ad md : Nat → Nat) (ns nt nr o1 o2 lo : Nat) : Prop := (∀ q, CA ad ns nt nr q → lo ≤ q ∧ ¬ MA md q ∧ q ≠ o1 ∧ q ≠ o2) ∧ (∀ q, MA md q → lo ≤ q ∧ q ≠ o1 ∧ q ≠ o2) ∧ lo ≤ o1 ∧ lo ≤ o2 ∧ o1 ≠ o2
theorem DJ.grow {ad ad' md : Nat → Nat} {ns nt nr ns' nt' nr' o1 o2 lo w : Nat} (h : DJ ad md ns nt nr o1 o2 lo) (hm : ∀ q, MA md q → q < w) (h1 : o1 < w) (h2 : o2 < w) (hw : lo ≤ w) (hn : ∀ q, CA ad' ns' nt' nr' q → CA ad ns nt nr q ∨ w ≤ q) : DJ ad' md ns' nt' nr' o1 o2 lo := by
  refine ⟨fun q hq => ?_, h.2⟩
  rcases hn q hq with g | g
  · exact h.1 q g
  · exact ⟨by omega, fun k => absurd (hm q k) (by omega), by omega, by omega⟩
theorem MA.lt {D : va_G} {cy : Nat → ClassId} {md : Nat → Nat} {N : Nat → Nat → Int32} {c s : Int64} {H : Heap} (h : MW D cy md N c s H) (q : Nat) (hq : MA md q) : q < H.size := by
  obtain ⟨k, hk, rfl⟩ := hq
  exact h.lt hk
theorem CA.lt {D : va_G} {cy : Nat → ClassId} {ad : Nat → Nat} {ns nt nr : Nat} {M : Nat → Nat → Int32} {V : SX} {H : Heap} (h : CW D cy ad ns nt nr M V H) (hb : LB ns nt nr) (q : Nat) (hq : CA ad ns nt nr q) : q < H.size := by
  obtain ⟨k, hk, rfl⟩ := hq
  exact h.lt hb hk
/-- what holds after n steps -/
def LI (D : va_G) (cy : Nat → ClassId) (lo x m0 o1 o2 n : Nat) (H : Heap) : Prop := ∃ (ep ns nt nr : Nat) (M N : Nat → Nat → Int32) (V : SX) (co su : Int64) (ad md : Nat → Nat) (f1 : Nat → Int64) (f2 : Nat → UInt64),
  Rel ep n ns nt nr M N ∧ AI ad ns nt nr ∧ MI md ∧ DJ ad md ns nt nr o1 o2 lo ∧ CW D cy ad ns nt nr M V H ∧ MW D cy md N co su H ∧ oL D cy o1 f1 H ∧ oD D cy o2 f2 H ∧ ad 0 = x ∧ md 0 = m0
theorem LI.mk {D : va_G} {cy : Nat → ClassId} {lo o1 o2 n : Nat} {H : Heap} {ep ns nt nr : Nat} {M N : Nat → Nat → Int32} {V : SX} {co su : Int64} {ad md : Nat → Nat} {f1 : Nat → Int64} {f2 : Nat → UInt64} {x : Nat} (h1 : Rel ep n ns nt nr M N) (h2 : AI ad ns nt nr) (h3 : MI md) (h4 : DJ ad md ns nt nr o1 o2 lo) (h5 : CW D cy ad ns nt nr M V H) (h6 : MW D cy md N co su H) (h7 : oL D cy o1 f1 H) (h8 : oD D cy o2 f2 H) (h9 : ad 0 = x) : LI D cy lo x (md 0) o1 o2 n H :=
  ⟨ep, ns, nt, nr, M, N, V, co, su, ad, md, f1, f2, h1, h2, h3, h4, h5, h6, h7, h8, h9, rfl⟩
theorem thr_00 {N : Nat → Nat → Int32} {k : Int32} : thr N k 0 0 = k := rfl
theorem mP_00 (N : Nat → Nat → Int32) (ns : Nat) : ∀ k, mPassN N ns k 0 0 = N 0 0
  | 0 => by rw [mPassN_0]
  | k + 1 => by
    rw [mPassN_s, mStars_lo _ _ (show 0 < 10 by decide), ← mP_00 N ns k]
    unfold mEp
    rw [mset_s, upd_o (by omega)]
section WD1
variable {p : Program} {l : Launch} {e : Env} {R : Room} {s : State} {m : MethodId} {args : Array Value} {below : List Frame} {meth : Method} {c : Code} {H : Heap} {locs : List Loc} {cells slots : Nat} {Q : State → Prop}
variable {cc : ByteArray} {pc nL mc ms : Nat} {ls : Array Slot} {rest st0 : List Value} {D : va_G} {cy : Nat → ClassId} {A A0 A1 : Nat → Prop} {H0 : Heap}
theorem kc_ud {P : UInt64 → Heap → Prop} {a9 : Array Value} (hr : va_Run p l e R s m args below meth c H locs cells slots mc ms (F0 m pc ls st0) rest (UQd A1 P a9) A1) (hS : va_S A0 H0 H locs) (hA : ∀ q, A1 q → A0 q)
    (kk : ∀ (r : UInt64) (H1 : Heap) (locs1 : List Loc), P r H1 → H.size ≤ H1.size → (∀ q : Nat, q < H.size → ¬ A1 q → H1[q]? = H[q]?) → va_S A0 H0 H1 locs1 → W p l e R s m args below meth c H1 locs1 (cells + mc) (slots + ms) Q (F0 m (pc + 3) ls (.double r :: rest))) : W p l e R s m args below meth c H locs cells slots Q (F0 m pc ls st0) := by
  intro T hT X
  obtain ⟨v, st₀, t, T', L, h0, X', hL, e1, e2, ⟨⟨r, hv, hp⟩, hz, hk⟩, st⟩ := hr T hT X
  cases hv
  rw [h0] at hz hk
  obtain ⟨t2, a1, b1⟩ := kk r T'.heap (locs ++ L) (by rw [e1]; exact hp) (by rw [e1]; exact hz) (fun q h1 h2 => by rw [e1]; exact hk q h1 h2) (kS_call hS (fun q _ h => hA q h) hA hL (by rw [e1]; exact hz) (fun q h1 h2 => by rw [e1]; exact hk q h1 h2)) T' rfl X'
  exact ⟨t2, st t2 a1, b1⟩
theorem k_b2i {y : Int32} {pc8 : Nat} (hx : p.tables.exec = Jvm.exec) (hb : c.code = cc) (d0 : decode cc pc = .ok (.ifCond .eq 7, 3)) (d1 : decode cc (pc + 3) = .ok (.iconst 1, 1)) (d2 : decode cc (pc + 4) = .ok (.goto 4, 3)) (d3 : decode cc (pc + 7) = .ok (.iconst 0, 1)) (h8 : pc + 8 = pc8) (kk : W p l e R s m args below meth c H locs cells slots Q (F0 m pc8 ls (.int (bI (!(y == 0))) :: rest))) : W p l e R s m args below meth c H locs cells slots Q (F0 m pc ls (.int y :: rest)) := by
  subst h8
  refine lv_if_eq (tgt := pc + 7) hx hb d0 (by omega) (fun c9 => ?_) (fun c9 => ?_)
  · refine lv_iconst (v := 0) hx hb d3 (by decide) ?_
    rw [c9] at kk
    exact kk
  · refine lv_iconst (v := 1) hx hb d1 (by decide) ?_
    refine lv_goto (tgt := pc + 8) hx hb d2 (by omega) ?_
    rw [show (!(y == 0)) = true by simp [c9]] at kk
    exact kk
/-- one int of the script -/
theorem k_arg {b L w j : Nat} {xs : Nat → Int32} {k : Int} {kv : Int32} (hx : p.tables.exec = Jvm.exec) (hb : c.code = cc) (hX : va_X b L xs s H0) (hbl : b < H0.size) (hbA : ¬ A b) (hS : va_S A H0 H locs) (g0 : ls[0]? = some (.val (.ref b))) (g5 : ls[5]? = some (.val (.int (nI w)))) (hj : w + j < L) (hL : L < 2 ^ 31) (hk : Int32.ofInt k = kv) (hkj : kv = nI j)
    (d0 : decode cc pc = .ok (.aload_n 0, 1)) (d1 : decode cc (pc + 1) = .ok (.iload 5, 2)) (d3 : decode cc (pc + 3) = .ok (.iconst k, 1)) (d4 : decode cc (pc + 4) = .ok (.iadd, 1)) (d5 : decode cc (pc + 5) = .ok (.iaload, 1)) {pc6 : Nat} (h6 : pc + 6 = pc6)
    (kk : W p l e R s m args below meth c H locs cells slots Q (F0 m pc6 ls (.int (xs (w + j)) :: rest))) : W p l e R s m args below meth c H locs cells slots Q (F0 m pc ls rest) := by
  subst h6
  refine lv_aload_n hx hb d0 rfl g0 ?_
  refine lv_iload hx hb d1 g5 ?_
  refine lv_iconst (v := kv) hx hb d3 hk ?_
  refine lv_iadd hx hb d4 ?_
  rw [hkj, nI_add]
  refine va_sld hx hb hX hbl hbA hS (vp_in_nI hj (by omega)) d5 ?_
  rw [nI_clamp (by omega)]
  exact kk
end WD1
