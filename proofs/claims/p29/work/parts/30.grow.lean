-- objects made: the world grows
section KG
variable {p : Program} {l : Launch} {e : Env} {R : Room} {s : State} {m : MethodId} {args : Array Value} {below : List Frame} {meth : Method} {c : Code} {H : Heap} {locs : List Loc} {cells slots : Nat} {Q : State → Prop}
variable {cc bytes : ByteArray} {pc maxL mc ms : Nat} {ls : Array Slot} {rest As : List Value} {D : va_G} {cy : Nat → ClassId} {a ci : Nat} {C : String} {T : u_T} {N : Nat} {A : Nat → Prop} {H0 : Heap} {y : MethodName} {ret : Option FieldType} {rm : Room} {I : Heap → Prop} {Qc : Array Value → State → Outcome → State → Prop} {XC : String → State → State → Prop} {free : Addr → Prop}
theorem k_astq (hx : p.tables.exec = Jvm.exec) (hb : c.code = cc) (hG : GK D cy s) (t0 : Nat) {cA : ClassId} (ht : (TYS cy)[t0]? = some (cA, .object C)) (hci : vwCl[ci]? = some (C, T, N)) {n v : Nat} {vs : List Value} {f : Nat → Option Nat} (hP : va_P D vwCl [(a, .inl (cA, n, .inr (.inr (.inr (.inr f)))))] H) (hv : va_P D vwCl [(v, .inr (ci, vs))] H) (hS : va_S A H0 H locs) (hA : A a) {i : Int32} (hin : vp_in i n) (hdg : decode cc pc = .ok (.aastore, 1))
    (kk : ∀ (H1 : Heap) (locs1 : List Loc), va_P D vwCl [(a, .inl (cA, n, .inr (.inr (.inr (.inr (va_up f i.toNatClampNeg (some v)))))))] H1 → H1.size = H.size → (∀ q : Nat, q ≠ a → H1[q]? = H[q]?) → va_S A H0 H1 locs1 → W p l e R s m args below meth c H1 locs1 cells slots Q (F0 m (pc + 1) ls rest)) : W p l e R s m args below meth c H locs cells slots Q (F0 m pc ls (.ref v :: .int i :: .ref a :: rest)) := by
  have hlt : i.toNatClampNeg < n := Nat.not_le.mp fun q => hin (Or.inr q)
  have h0 : ¬ i < 0 := fun q => hin (Or.inl q)
  obtain ⟨r', hr', cellV, g1, g2, g3, -⟩ := hv 0 _ rfl
  have hcls := (hG.2.1 ci _ hci).2
  obtain ⟨kA, comp, k1, k2, k3, -⟩ := (hG.2.2 t0 _ ht).2
  have hcomp : comp = D.1 ci := Option.some.inj (k3.symm.trans hcls.1)
  subst hcomp
  obtain ⟨kC, hkC, -⟩ := hcls.2
  refine W.aast hx hb (hP 0 _ rfl) (fun q h => by cases h) (fun h => by cases h) k1 k2 rfl hkC ⟨h0, by show _ < (arrV _ _ _).slots.size; rw [arrV_size]; exact hlt⟩ g1 (fun q h => by rw [g3] at h; cases h) (by rw [g2]; exact hkC) (by rw [g2]; exact va_assign hcls) rfl rfl hdg fun H1 e z oq => ?_
  refine kk H1 _ (k_one ?_) z oq (hS.put z oq hA)
  show H1[a]? = some (vp_cell _ _)
  rw [e]
  rw [vp_cell_q, vp_cell_q, arrV_store]
  congr 2
  funext q
  by_cases hq : q = i.toNatClampNeg
  · subst hq
    simp [updV, va_up, va_rf]
  · simp [updV, va_up, hq]
def PX2 (D : va_G) (cy : Nat → ClassId) (av : List Value) (I : Heap → Prop) : Array Value → State → Prop := fun v U => PX D cy av I v U ∧ AWD U
theorem PX2.blind : FrameBlind (PX2 D cy As I) := fun a U g mk h => ⟨PX.blind a U g mk h.1, AWD.moved (u := U) (Vm.Alike.refl U.vm) h.2⟩
theorem k_bodyX2 (hy : plainName y.cls = true) (hlen : (lg_sl As).length ≤ maxL)
    (body : ∀ (p : Program) (e : Env) (s : State) (m : MethodId) (below : List Frame) (meth : Method) (c : Code) (ls : Array Slot), p.tables.exec = Jvm.exec → c.code = bytes → c.maxLocals = ls.size → s.vm.findClass y.cls = some m.cls → meth.sig.returnType = ret → meth.locks = false → (meth.name = y.name) → lv_has ls maxL (lv_args 0 As) → GK D cy s → I s.heap → (∀ x ∈ c.exceptionTable.toList, False) → XWD s → GX s s.heap → AWD s →
      W p l e rm s m As.toArray below meth c s.heap [] 0 0 (vx_MQ below Qc XC As.toArray s mc ms free) (F0 m 0 ls [])) : vx_Met l y [.code y bytes maxL ret] rm (PX2 D cy As I) Qc XC mc ms free := by
  refine vx_ofW (cc := bytes) (maxL := maxL) (ret := ret) hy rfl ?_
  intro p e s m args below meth c s₁ B hml hnx hv
  obtain ⟨⟨⟨rfl, hG, hI⟩, hX, hZ⟩, hAW⟩ := hv
  have hl := lv_entry As hlen
  rw [lg_entry_eq]
  generalize (lg_sl As ++ List.replicate (maxL - (lg_sl As).length) Slot.unset).toArray = ls at hl ⊢
  exact body p e s m below meth c ls B.exec B.bytes (hml.trans hl.1.symm) (findClass_of_methodNamed B.named) B.returns B.notSynchronized (name_of_methodNamed B.named B.method).1 hl hG hI hnx hX hZ hAW
theorem PCp.preS (hG : GK D cy s) (hI : I H) : PreS s H (PC D cy As I) As := PC.preS hG hI
end KG
theorem cC_some {cy : Nat → ClassId} {ad : Nat → Nat} {ns nt nr : Nat} {M : Nat → Nat → Int32} {V : SX} {k : Nat} (hb : LB ns nt nr) (h : LV ns nt nr k) : ∃ e, cC cy ad ns nt nr M V k = some e := by
  obtain ⟨b1, b2, b3⟩ := hb
  unfold cC
  by_cases h0 : k = 0
  · rw [if_pos h0]; exact ⟨_, rfl⟩
  rw [if_neg h0]
  by_cases h1 : k = 1
  · rw [if_pos h1]; exact ⟨_, rfl⟩
  rw [if_neg h1]
  by_cases h2 : k < 7
  · rw [if_pos h2]; exact ⟨_, rfl⟩
  rw [if_neg h2]
  by_cases h3 : k = 7
  · rw [if_pos h3]; exact ⟨_, rfl⟩
  rw [if_neg h3]
  by_cases h4 : k = 8
  · rw [if_pos h4]; exact ⟨_, rfl⟩
  rw [if_neg h4]
  by_cases h5 : k = 9
  · rw [if_pos h5]; exact ⟨_, rfl⟩
  rw [if_neg h5]
  unfold LV at h
  by_cases h6 : k < 20
  · rw [if_pos h6, if_pos (by omega)]; exact ⟨_, rfl⟩
  rw [if_neg h6]
  by_cases h7 : k < 30
  · rw [if_pos h7, if_pos (by omega)]; exact ⟨_, rfl⟩
  rw [if_neg h7]
  by_cases h8 : k < 40
  · rw [if_pos h8, if_pos (by omega)]; exact ⟨_, rfl⟩
  rw [if_neg h8]
  by_cases h9 : k < 50
  · rw [if_pos h9, if_pos (by omega)]; exact ⟨_, rfl⟩
  rw [if_neg h9]
  by_cases h10 : k < 60
  · rw [if_pos h10, if_pos (by omega)]; exact ⟨_, rfl⟩
  rw [if_neg h10, if_pos (by omega)]; exact ⟨_, rfl⟩
theorem CW.lt {D : va_G} {cy : Nat → ClassId} {ad : Nat → Nat} {ns nt nr : Nat} {M : Nat → Nat → Int32} {V : SX} {H : Heap} (h : CW D cy ad ns nt nr M V H) (hb : LB ns nt nr) {k : Nat} (hk : LV ns nt nr k) : ad k < H.size := by
  obtain ⟨e, he⟩ := cC_some (cy := cy) (ad := ad) (M := M) (V := V) hb hk
  exact (h k e he 0 _ rfl).lt
theorem rfs_eq {n : Nat} {g g' : Nat → Nat} (h : ∀ j, j < n → g' j = g j) : (fun j => if j < n then some (g' j) else none) = (fun j => if j < n then some (g j) else none) := by
  funext j
  by_cases c : j < n
  · rw [if_pos c, if_pos c, h j c]
  · rw [if_neg c, if_neg c]
theorem cC_grow {cy : Nat → ClassId} {ad ad' : Nat → Nat} {ns nt nr ns' nt' nr' : Nat} {M M' : Nat → Nat → Int32} {V : SX} {k : Nat} (hb : LB ns nt nr) (had : ∀ k, LV ns nt nr k → ad' k = ad k) (hM : M' k = M k) (hk : k ≠ 0) (hl : LV ns nt nr k) (h1 : ns ≤ ns') (h2 : nt ≤ nt') (h3 : nr ≤ nr') (h7 : k = 7 → ns' = ns) (h8 : k = 8 → nt' = nt) (h9 : k = 9 → nr' = nr) : cC cy ad' ns' nt' nr' M' V k = cC cy ad ns nt nr M V k := by
  obtain ⟨b1, b2, b3⟩ := hb
  unfold cC
  rw [if_neg hk, if_neg hk]
  by_cases e1 : k = 1
  · rw [if_pos e1, if_pos e1]
    unfold svF
    dsimp only
    rw [had (2 + 0) (Or.inl (by omega)), had (2 + 1) (Or.inl (by omega)), had (2 + 2) (Or.inl (by omega)), had (2 + 3) (Or.inl (by omega)), had (2 + 4) (Or.inl (by omega))]
  rw [if_neg e1, if_neg e1]
  by_cases e2 : k < 7
  · rw [if_pos e2, if_pos e2]
  rw [if_neg e2, if_neg e2]
  by_cases e3 : k = 7
  · rw [if_pos e3, if_pos e3, h7 e3, rfs_eq (fun j hj => had _ (LV.st hj))]
  rw [if_neg e3, if_neg e3]
  by_cases e4 : k = 8
  · rw [if_pos e4, if_pos e4, h8 e4, rfs_eq (fun j hj => had _ (LV.sn hj))]
  rw [if_neg e4, if_neg e4]
  by_cases e5 : k = 9
  · rw [if_pos e5, if_pos e5, h9 e5, rfs_eq (fun j hj => had _ (LV.rc hj))]
  rw [if_neg e5, if_neg e5]
  unfold LV at hl
  by_cases e6 : k < 20
  · rw [if_pos e6, if_pos e6, if_pos (by omega), if_pos (by omega), hM]
  rw [if_neg e6, if_neg e6]
  by_cases e7 : k < 30
  · rw [if_pos e7, if_pos e7, if_pos (by omega), if_pos (by omega), hM]
  rw [if_neg e7, if_neg e7]
  by_cases e8 : k < 40
  · rw [if_pos e8, if_pos e8, if_pos (by omega), if_pos (by omega), hM, had (k + 10) (by unfold LV; omega), had (k + 20) (by unfold LV; omega)]
  rw [if_neg e8, if_neg e8]
  by_cases e9 : k < 50
  · rw [if_pos e9, if_pos e9, if_pos (by omega), if_pos (by omega), rfs_eq (fun j hj => had (60 + 8 * (k - 40) + j) (by unfold LV; omega))]
  rw [if_neg e9, if_neg e9]
  by_cases e10 : k < 60
  · rw [if_pos e10, if_pos e10, if_pos (by omega), if_pos (by omega), hM]
  rw [if_neg e10, if_neg e10, if_pos (by omega), if_pos (by omega), hM]
theorem va_up_push {n : Nat} {g : Nat → Nat} {q : Nat} (h : g n = q) : va_up (fun j => if j < n then some (g j) else none) n (some q) = (fun j => if j < n + 1 then some (g j) else none) := by
  funext j
  unfold va_up
  by_cases e : j = n
  · rw [if_pos e, if_pos (by omega), e, h]
  · rw [if_neg e]
    show (if j < n then some (g j) else none) = _
    by_cases c : j < n
    · rw [if_pos c, if_pos (by omega)]
    · rw [if_neg c, if_neg (by omega)]
