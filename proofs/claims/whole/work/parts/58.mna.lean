-- int[n][m] and int[n][m][k] made anew
def out3 (c : ClassId) (N h0 M : Nat) : Nat → Cell
  | 0 => { cls := c, slots := Array.replicate N .null, vm := .none }
  | i + 1 => (out3 c N h0 M i).setSlot i (.ref (h0 + 1 + i * (1 + M)))
def fil3 (s : State) (c c1 c0 : ClassId) (N M K : Nat) (dv : Value) : Nat → State
  | 0 => s.pushCell (out3 c N s.heap.size M 0)
  | i + 1 => (Jvm.Free.Multi.fill (fil3 s c c1 c0 N M K dv i) c1 c0 M K dv M).setCell s.heap.size (out3 c N s.heap.size M (i + 1))
theorem out3_facts (c : ClassId) (N h0 M : Nat) : ∀ i, (out3 c N h0 M i).cls = c ∧ (out3 c N h0 M i).vm = .none ∧ (out3 c N h0 M i).slots.size = N
  | 0 => ⟨rfl, rfl, by simp [out3]⟩
  | i + 1 => by
    obtain ⟨a, b, d⟩ := out3_facts c N h0 M i
    exact ⟨by simp [out3, Cell.setSlot, a], by simp [out3, Cell.setSlot, b], by simp [out3, Cell.setSlot, d]⟩
theorem out3_arr (c : ClassId) (N h0 M : Nat) : ∀ i : Nat, out3 c N h0 M i = arrV c N (fun j => va_rf (if j < i then some (h0 + 1 + j * (1 + M)) else none))
  | 0 => by
    show ({ cls := c, slots := Array.replicate N .null, vm := .none } : Cell) = _
    rw [arrV_new]
    refine congrArg (arrV c N) (funext fun j => ?_)
    simp [va_rf]
  | i + 1 => by
    show (out3 c N h0 M i).setSlot i (.ref (h0 + 1 + i * (1 + M))) = _
    rw [out3_arr c N h0 M i, arrV_store]
    refine congrArg (arrV c N) (funext fun j => ?_)
    by_cases e : j = i
    · subst e
      simp [updV, va_rf]
    · by_cases h : j < i
      · simp [updV, e, h, Nat.lt_succ_of_lt h]
      · simp [updV, e, h, show ¬ j < i + 1 by omega]
theorem out2_arr (c : ClassId) (N h0 : Nat) : ∀ i : Nat, Jvm.Free.Multi.outerC c N h0 i = arrV c N (fun j => va_rf (if j < i then some (h0 + 1 + j) else none))
  | 0 => by
    show ({ cls := c, slots := Array.replicate N .null, vm := .none } : Cell) = _
    rw [arrV_new]
    refine congrArg (arrV c N) (funext fun j => ?_)
    simp [va_rf]
  | i + 1 => by
    show (Jvm.Free.Multi.outerC c N h0 i).setSlot i (.ref (h0 + 1 + i)) = _
    rw [out2_arr c N h0 i, arrV_store]
    refine congrArg (arrV c N) (funext fun j => ?_)
    by_cases e : j = i
    · subst e
      simp [updV, va_rf]
    · by_cases h : j < i
      · simp [updV, e, h, Nat.lt_succ_of_lt h]
      · simp [updV, e, h, show ¬ j < i + 1 by omega]
theorem fil3_facts (s : State) (c c1 c0 : ClassId) (N M K : Nat) (dv : Value) : ∀ i, (fil3 s c c1 c0 N M K dv i).heap.size = s.heap.size + 1 + i * (1 + M) ∧ (fil3 s c c1 c0 N M K dv i).heap[s.heap.size]? = some (out3 c N s.heap.size M i) ∧
    (fil3 s c c1 c0 N M K dv i).vm = s.vm ∧ (fil3 s c c1 c0 N M K dv i).slotsUsed = s.slotsUsed + N + i * (M + M * K)
  | 0 => ⟨by simp [fil3], by simp [fil3], rfl, by simp [fil3, out3]⟩
  | i + 1 => by
    obtain ⟨a, b, d, u⟩ := fil3_facts s c c1 c0 N M K dv i
    obtain ⟨a2, b2, d2, u2⟩ := Jvm.Free.Multi.fill_facts (fil3 s c c1 c0 N M K dv i) c1 c0 M K dv M
    have hlt : s.heap.size < (fil3 s c c1 c0 N M K dv i).heap.size := by omega
    have hb' : (Jvm.Free.Multi.fill (fil3 s c c1 c0 N M K dv i) c1 c0 M K dv M).heap[s.heap.size]? = some (out3 c N s.heap.size M i) := by
      rw [Jvm.Free.Multi.fill_old _ _ _ _ _ _ hlt]; exact b
    have em : (i + 1) * (1 + M) = i * (1 + M) + (1 + M) := Nat.succ_mul i (1 + M)
    have em2 : (i + 1) * (M + M * K) = i * (M + M * K) + (M + M * K) := Nat.succ_mul i (M + M * K)
    refine ⟨?_, State.heap_setCell_self hb', ?_, ?_⟩
    · show ((Jvm.Free.Multi.fill (fil3 s c c1 c0 N M K dv i) c1 c0 M K dv M).setCell s.heap.size (out3 c N s.heap.size M (i + 1))).heap.size = _
      simp [State.setCell, a2, a, em]; omega
    · show (Jvm.Free.Multi.fill (fil3 s c c1 c0 N M K dv i) c1 c0 M K dv M).vm = _
      rw [d2, d]
    · show (Jvm.Free.Multi.fill (fil3 s c c1 c0 N M K dv i) c1 c0 M K dv M).slotsUsed = _
      rw [u2, u, em2]; omega
theorem fil3_setTop (s : State) (f : JFrame) (c c1 c0 : ClassId) (N M K : Nat) (dv : Value) : ∀ i, fil3 (s.setTop f) c c1 c0 N M K dv i = (fil3 s c c1 c0 N M K dv i).setTop f
  | 0 => rfl
  | i + 1 => by simp only [fil3, fil3_setTop s f c c1 c0 N M K dv i, Jvm.Free.Multi.fill_setTop, State.heap_setTop, State.setCell_setTop]
theorem fil3_old (s : State) (c c1 c0 : ClassId) (N M K : Nat) (dv : Value) {a : Addr} (ha : a < s.heap.size) : ∀ i, (fil3 s c c1 c0 N M K dv i).heap[a]? = s.heap[a]?
  | 0 => State.heap_pushCell_of_lt _ _ ha
  | i + 1 => by
    have f1 := (fil3_facts s c c1 c0 N M K dv i).1
    have hlt : a < (fil3 s c c1 c0 N M K dv i).heap.size := Nat.lt_of_lt_of_le ha (by rw [f1]; omega)
    show ((Jvm.Free.Multi.fill (fil3 s c c1 c0 N M K dv i) c1 c0 M K dv M).setCell s.heap.size _).heap[a]? = _
    rw [State.heap_setCell_other (Nat.ne_of_gt ha), Jvm.Free.Multi.fill_old _ _ _ _ _ _ hlt]
    exact fil3_old s c c1 c0 N M K dv ha i
theorem fil3_in (s : State) (c c1 c0 : ClassId) (N M K : Nat) (dv : Value) : ∀ i j, j < i → (fil3 s c c1 c0 N M K dv i).heap[s.heap.size + 1 + j * (1 + M)]? = some (Jvm.Free.Multi.outerC c1 M (s.heap.size + 1 + j * (1 + M)) M) ∧ ∀ u, u < M → (fil3 s c c1 c0 N M K dv i).heap[s.heap.size + 1 + j * (1 + M) + 1 + u]? = some (Jvm.Free.Multi.innerC c0 K dv)
  | 0, _, h => absurd h (Nat.not_lt_zero _)
  | i + 1, j, h => by
    have f1 := (fil3_facts s c c1 c0 N M K dv i).1
    obtain ⟨a2, b2, d2, u2⟩ := Jvm.Free.Multi.fill_facts (fil3 s c c1 c0 N M K dv i) c1 c0 M K dv M
    have hin := Jvm.Free.Multi.fill_inner (fil3 s c c1 c0 N M K dv i) c1 c0 M K dv M
    rcases Nat.lt_or_ge j i with hj | hj
    · obtain ⟨g1, g2⟩ := fil3_in s c c1 c0 N M K dv i j hj
      have hmul : (j + 1) * (1 + M) ≤ i * (1 + M) := Nat.mul_le_mul_right _ hj
      have em : (j + 1) * (1 + M) = j * (1 + M) + (1 + M) := Nat.succ_mul j (1 + M)
      refine ⟨?_, fun u hu => ?_⟩
      · show ((Jvm.Free.Multi.fill (fil3 s c c1 c0 N M K dv i) c1 c0 M K dv M).setCell s.heap.size _).heap[_]? = _
        have hb1 : s.heap.size + 1 + j * (1 + M) < (fil3 s c c1 c0 N M K dv i).heap.size := by rw [f1]; omega
        rw [State.heap_setCell_other (show s.heap.size ≠ s.heap.size + 1 + j * (1 + M) by omega), Jvm.Free.Multi.fill_old (fil3 s c c1 c0 N M K dv i) c1 c0 M K dv hb1]
        exact g1
      · show ((Jvm.Free.Multi.fill (fil3 s c c1 c0 N M K dv i) c1 c0 M K dv M).setCell s.heap.size _).heap[_]? = _
        have hb1 : s.heap.size + 1 + j * (1 + M) + 1 + u < (fil3 s c c1 c0 N M K dv i).heap.size := by rw [f1]; omega
        rw [State.heap_setCell_other (show s.heap.size ≠ s.heap.size + 1 + j * (1 + M) + 1 + u by omega), Jvm.Free.Multi.fill_old (fil3 s c c1 c0 N M K dv i) c1 c0 M K dv hb1]
        exact g2 u hu
    · have e : j = i := by omega
      subst e
      rw [f1] at b2 hin
      refine ⟨?_, fun u hu => ?_⟩
      · show ((Jvm.Free.Multi.fill (fil3 s c c1 c0 N M K dv j) c1 c0 M K dv M).setCell s.heap.size _).heap[_]? = _
        rw [State.heap_setCell_other (show s.heap.size ≠ s.heap.size + 1 + j * (1 + M) by omega)]
        exact b2
      · show ((Jvm.Free.Multi.fill (fil3 s c c1 c0 N M K dv j) c1 c0 M K dv M).setCell s.heap.size _).heap[_]? = _
        rw [State.heap_setCell_other (show s.heap.size ≠ s.heap.size + 1 + j * (1 + M) + 1 + u by omega)]
        exact hin u hu
section KM3
variable {E : CtlPost} {e : Env} {d : Bool} {acts : List Action} {s : State}
theorem wp_make3 {c c1 c0 cc : ClassId} {k k1 k0 : Class} {t0 t1 type : FieldType} {n m q : Int32} (hk : s.vm.classes[c]? = some k) (hkind : k.kind = .array c1 t0) (href : t0.isReference = true)
    (hk1 : s.vm.classes[c1]? = some k1) (hkind1 : k1.kind = .array c0 t1) (href1 : t1.isReference = true) (hk0 : s.vm.classes[c0]? = some k0) (hkind0 : k0.kind = .array cc type) (hn : ¬ n < 0) (hm : ¬ m < 0) (hq9 : ¬ q < 0)
    (hl1 : ¬ n.toNatClampNeg > e.platform.arrayLengthLimit) (hh1 : ¬ n.toNatClampNeg * componentBytes t0 > e.platform.maxHeapBytes)
    (hl2 : ¬ m.toNatClampNeg > e.platform.arrayLengthLimit) (hh2 : ¬ m.toNatClampNeg * componentBytes t1 > e.platform.maxHeapBytes)
    (hl3 : ¬ q.toNatClampNeg > e.platform.arrayLengthLimit) (hh3 : ¬ q.toNatClampNeg * componentBytes type > e.platform.maxHeapBytes)
    (hdf : fits type (defaultValue type) = true) (hdd : (defaultValue type).isDefault = true)
    (hc : s.heap.size + 1 + n.toNatClampNeg * (1 + m.toNatClampNeg) ≤ e.platform.maxCells) (hs : s.slotsUsed + n.toNatClampNeg + n.toNatClampNeg * (m.toNatClampNeg + m.toNatClampNeg * q.toNatClampNeg) ≤ e.platform.maxSlots)
    {Q : Addr → Pre} (hq : ∀ d' acts', Q s.heap.size d' acts' (fil3 s c c1 c0 n.toNatClampNeg m.toNatClampNeg q.toNatClampNeg (defaultValue type) n.toNatClampNeg)) :
    wp (multianewarray.make c [n, m, q]) Q E e d acts s := by
  have hfind : ([m, q].find? (· < 0)) = none := by simp [hm, hq9]
  rw [multianewarray.make]
  simp only [wp_bind', W.ite, hn, if_false, wp_pure', W.theClass, hk, hkind, Option.some.injEq, exists_eq_left']
  refine Jvm.Free.Multi.wp_newArray hk hkind hl1 hh1 (Jvm.Free.Multi.refFits href _ (Or.inl rfl)) rfl (by omega) (by omega) ?_
  simp only [hfind]
  rw [ite_self, wp_bind', Std.Legacy.Range.forIn_eq_forIn_range']
  have hsz : ([:n.toNatClampNeg] : Std.Legacy.Range).size = n.toNatClampNeg := by simp [Std.Legacy.Range.size]
  rw [hsz]
  show wp (forIn (List.range' 0 n.toNatClampNeg 1) PUnit.unit _) _ E e d acts _
  refine wp_forIn_inv (fun rest s' => ∃ i, i ≤ n.toNatClampNeg ∧ rest = List.range' i (n.toNatClampNeg - i) ∧ s' = fil3 s c c1 c0 n.toNatClampNeg m.toNatClampNeg q.toNatClampNeg (defaultValue type) i) _ _ ⟨0, Nat.zero_le _, rfl, rfl⟩ ?_ ?_
  · rintro x rest s' d' acts' Q' ⟨i, hi, hl, rfl⟩ hnext
    have hlt : i < n.toNatClampNeg := by
      rcases Nat.lt_or_ge i n.toNatClampNeg with h | h
      · exact h
      · rw [show n.toNatClampNeg - i = 0 from by omega] at hl; simp at hl
    obtain ⟨rfl, hrest⟩ : x = i ∧ rest = List.range' (i + 1) (n.toNatClampNeg - (i + 1)) := by
      rw [show n.toNatClampNeg - i = (n.toNatClampNeg - (i + 1)) + 1 from by omega, List.range'_succ] at hl
      exact ⟨(List.cons.inj hl).1, (List.cons.inj hl).2⟩
    obtain ⟨f1, f2, f3, f4⟩ := fil3_facts s c c1 c0 n.toNatClampNeg m.toNatClampNeg q.toNatClampNeg (defaultValue type) x
    obtain ⟨o1, o2, o3⟩ := out3_facts c n.toNatClampNeg s.heap.size m.toNatClampNeg x
    have hmul : x * (1 + m.toNatClampNeg) + (1 + m.toNatClampNeg) ≤ n.toNatClampNeg * (1 + m.toNatClampNeg) := by
      have := Nat.mul_le_mul_right (1 + m.toNatClampNeg) (show x + 1 ≤ n.toNatClampNeg from hlt)
      rw [Nat.succ_mul] at this; exact this
    have hmul2 : x * (m.toNatClampNeg + m.toNatClampNeg * q.toNatClampNeg) + (m.toNatClampNeg + m.toNatClampNeg * q.toNatClampNeg) ≤ n.toNatClampNeg * (m.toNatClampNeg + m.toNatClampNeg * q.toNatClampNeg) := by
      have := Nat.mul_le_mul_right (m.toNatClampNeg + m.toNatClampNeg * q.toNatClampNeg) (show x + 1 ≤ n.toNatClampNeg from hlt)
      rw [Nat.succ_mul] at this; exact this
    simp only [wp_bind']
    refine Jvm.Free.Multi.wp_make2 (by rw [f3]; exact hk1) hkind1 href1 (by rw [f3]; exact hk0) hkind0 hm hq9 hl2 hh2 hl3 hh3 hdf hdd (by rw [f1]; omega) (by rw [f4]; omega) (fun d2 acts2 => ?_)
    have hlt0 : s.heap.size < (fil3 s c c1 c0 n.toNatClampNeg m.toNatClampNeg q.toNatClampNeg (defaultValue type) x).heap.size := by rw [f1]; omega
    obtain ⟨g1, g2, g3, g4⟩ := Jvm.Free.Multi.fill_facts (fil3 s c c1 c0 n.toNatClampNeg m.toNatClampNeg q.toNatClampNeg (defaultValue type) x) c1 c0 m.toNatClampNeg q.toNatClampNeg (defaultValue type) m.toNatClampNeg
    simp only [wp_bind', W.writeLoc, wp_pure']
    refine ⟨out3 c n.toNatClampNeg s.heap.size m.toNatClampNeg x, by rw [Jvm.Free.Multi.fill_old _ _ _ _ _ _ hlt0]; exact f2, by rw [o2]; simp, by rw [o3]; exact hlt, ?_, hnext _ _ _ ⟨x + 1, hlt, hrest, ?_⟩⟩
    · rw [o1, o2]
      simp [State.fitsSlot, State.slotType?, g3, f3, hk, hkind, Jvm.Free.Multi.refFits href _ (Or.inr ⟨_, rfl⟩)]
    · rw [f1]; rfl
  · rintro s' d' acts' ⟨i, hi, hl, rfl⟩
    have hiN : i = n.toNatClampNeg := by
      rcases Nat.lt_or_ge i n.toNatClampNeg with h | h
      · rw [show n.toNatClampNeg - i = (n.toNatClampNeg - (i + 1)) + 1 from by omega, List.range'_succ] at hl; cases hl
      · omega
    subst hiN
    simp only [wp_pure']
    exact hq _ _
end KM3
section KM4
variable {p : Program} {l : Launch} {e : Env} {R : Room} {s : State} {m : MethodId} {args : Array Value} {below : List Frame} {meth : Method} {c : Code} {T : State} {locs : List Loc} {cells slots : Nat}
theorem stand3 (X : Stand p l e R s m args below meth c T locs cells slots) (cA c1 c0 : ClassId) (N M K : Nat) (dv : Value) :
    ∀ i, Stand p l e R s m args below meth c (fil3 T cA c1 c0 N M K dv i) locs (cells + 1 + i * (1 + M)) (slots + N + i * (M + M * K))
  | 0 => by
    have h := X.pushed (out3 cA N T.heap.size M 0)
    rw [(out3_facts cA N T.heap.size M 0).2.2] at h
    simpa [fil3] using h
  | i + 1 => by
    have Xi := stand3 X cA c1 c0 N M K dv i
    obtain ⟨f1, f2, f3, f4⟩ := fil3_facts T cA c1 c0 N M K dv i
    have hlt0 : T.heap.size < (fil3 T cA c1 c0 N M K dv i).heap.size := by rw [f1]; omega
    have Xf := (Xi.filled c1 c0 M K dv M).dropFresh (fun x hx => by
      obtain ⟨j, -, rfl⟩ := List.mem_map.mp hx
      exact Xi.heapGrown)
    have hcell : (Jvm.Free.Multi.fill (fil3 T cA c1 c0 N M K dv i) c1 c0 M K dv M).heap[T.heap.size]? = some (out3 cA N T.heap.size M i) := by rw [Jvm.Free.Multi.fill_old _ _ _ _ _ _ hlt0]; exact f2
    have h := (Xf.stored hcell i (.ref (T.heap.size + 1 + i * (1 + M)))).dropFresh (fun x hx => by
      rw [List.mem_singleton] at hx
      subst hx
      exact X.heapGrown)
    have e3 : slots + N + (i + 1) * (M + M * K) = slots + N + i * (M + M * K) + M + M * K := by rw [Nat.succ_mul]; omega
    have e4 : cells + 1 + (i + 1) * (1 + M) = cells + 1 + i * (1 + M) + 1 + M := by rw [Nat.succ_mul]; omega
    rw [e3, e4]
    exact h
theorem mna3F (X : Stand p l e R s m args below meth c T locs cells slots) (hexec : p.tables.exec = Jvm.exec) {own : String} {index : Nat} {ty : FieldType}
    (hown : s.vm.findClass own = some m.cls) (hclink : (Cond.classLink own index ("[" ++ (FieldType.array (.array ty)).toString)).before args s = true)
    (hover : (Cond.arrayOver (.array (.array ty))).before args s = true) (hover1 : (Cond.arrayOver (.array ty)).before args s = true) (harr : (Cond.arrayClass ty).before args s = true)
    {g : JFrame} (hg : g.method = m) (hdg : decode c.code g.pc = .ok (.multianewarray index 3, 4)) {n k q : Int32} {rest : List Value} (hstack : g.stack = .int q :: .int k :: .int n :: rest)
    (hn : ¬ n < 0) (hk : ¬ k < 0) (hq : ¬ q < 0) (hb1 : n.toNatClampNeg * 4 ≤ 536870912) (hb2 : k.toNatClampNeg * 4 ≤ 536870912) (hb3 : q.toNatClampNeg * componentBytes ty ≤ 536870912) (hb4 : q.toNatClampNeg ≤ 536870912)
    (hdf : fits ty (defaultValue ty) = true) (hdd : (defaultValue ty).isDefault = true)
    (hcells : cells + (1 + n.toNatClampNeg * (1 + k.toNatClampNeg)) ≤ R.cells) (hslots : slots + (n.toNatClampNeg + n.toNatClampNeg * (k.toNatClampNeg + k.toNatClampNeg * q.toNatClampNeg)) ≤ R.slots) :
    ∃ (vm₁ : Vm) (cA c1 c0 : ClassId), s.WarmedH vm₁ ∧ s.vm.findClass ("[" ++ (FieldType.array (.array ty)).toString) = some cA ∧ s.vm.findClass ("[" ++ (FieldType.array ty).toString) = some c1 ∧ s.vm.findClass (FieldType.array ty).toString = some c0 ∧
      Stand p l e R s m args below meth c (fil3 (T.setVm vm₁) cA c1 c0 n.toNatClampNeg k.toNatClampNeg q.toNatClampNeg (defaultValue ty) n.toNatClampNeg) locs (cells + 1 + n.toNatClampNeg * (1 + k.toNatClampNeg)) (slots + n.toNatClampNeg + n.toNatClampNeg * (k.toNatClampNeg + k.toNatClampNeg * q.toNatClampNeg)) ∧
      ∀ target, Steps p.tables e below ((fil3 (T.setVm vm₁) cA c1 c0 n.toNatClampNeg k.toNatClampNeg q.toNatClampNeg (defaultValue ty) n.toNatClampNeg).setTop { g with pc := g.pc + 4, stack := .ref T.heap.size :: rest }) target →
        Steps p.tables e below (T.setTop g) target := by
  subst hg
  have hpl : e.platform.magicAccessors = ({} : Platform).magicAccessors := by rw [X.admits.platform]
  obtain ⟨comp, cA, kA, hcomp, hkA, hkindA, hnameA⟩ := Cond.arrayOver_specA hover
  obtain ⟨comp1, c1, k1, hcomp1, hk1, hkind1, hname1⟩ := Cond.arrayOver_specA hover1
  obtain ⟨comp', kC, cc, hcomp', hkC, hkindC⟩ := Cond.arrayClass_spec harr
  have ecomp : comp' = comp1 := Option.some.inj (hcomp'.symm.trans hcomp1)
  subst ecomp
  have ecomp1 : comp = c1 := Option.some.inj (hcomp.symm.trans hname1)
  subst ecomp1
  obtain ⟨c9, hfc0, hcl⟩ := Cond.classLink_spec hown hclink e.platform hpl
  cases hnameA.symm.trans hfc0
  obtain ⟨hg₁, hwarm₁, hready₁⟩ := State.classEntry (e := e) X.warmed hcl
  generalize T.vm.noted g.method.cls index (.cls cA) = vm₁ at hg₁ hwarm₁ hready₁
  have hal : s.vm.Alike vm₁ := hwarm₁.alike
  obtain ⟨kA₁, hkA₁, heA⟩ := hal.2.2 _ _ hkA
  obtain ⟨k1₁, hk1₁, he1⟩ := hal.2.2 _ _ hk1
  obtain ⟨kC₁, hkC₁, heC⟩ := hal.2.2 _ _ hkC
  have hkindA₁ : kA₁.kind = .array comp (.array (.array ty)) := by rw [heA]; exact hkindA
  have hkind1₁ : k1₁.kind = .array comp' (.array ty) := by rw [he1]; exact hkind1
  have hkindC₁ : kC₁.kind = .array cc ty := by rw [heC]; exact hkindC
  have X₁ := X.noted hwarm₁
  obtain ⟨hr1, hr2⟩ := X.roomAbove hcells hslots
  refine ⟨vm₁, cA, comp, comp', hwarm₁, hnameA, hname1, hcomp1, stand3 X₁ cA comp comp' _ _ _ _ _, fun target hrest => ?_⟩
  have hl1 : ¬ n.toNatClampNeg > e.platform.arrayLengthLimit := by rw [Launch.admits_arrayLengthLimit X.admits]; omega
  have hh1 : ¬ n.toNatClampNeg * componentBytes (.array (.array ty)) > e.platform.maxHeapBytes := by
    rw [Launch.admits_maxHeapBytes X.admits]; show ¬ n.toNatClampNeg * 4 > 536870912; omega
  have hl2 : ¬ k.toNatClampNeg > e.platform.arrayLengthLimit := by rw [Launch.admits_arrayLengthLimit X.admits]; omega
  have hh2 : ¬ k.toNatClampNeg * componentBytes (.array ty) > e.platform.maxHeapBytes := by
    rw [Launch.admits_maxHeapBytes X.admits]; show ¬ k.toNatClampNeg * 4 > 536870912; omega
  have hl3 : ¬ q.toNatClampNeg > e.platform.arrayLengthLimit := by rw [Launch.admits_arrayLengthLimit X.admits]; omega
  have hh3 : ¬ q.toNatClampNeg * componentBytes ty > e.platform.maxHeapBytes := by rw [Launch.admits_maxHeapBytes X.admits]; omega
  jvm_step X.here [hexec, hdg]
  simp only [multianewarray.sem, wp_bind', W.resolveClassAt_links (State.method?_setTop g X.here.top) hg₁]
  rw [W.popN, if_neg (by decide)]
  refine ⟨g, State.topJava?_setTop' (s := T.setVm vm₁) g X.here.top, [.int n, .int k, .int q], rest, rfl, hstack, ?_⟩
  simp only [List.mapM_cons, List.mapM_nil, wp_bind', wp_pure']
  refine wp_make3 (k := kA₁) (k1 := k1₁) (k0 := kC₁) (c1 := comp) (c0 := comp') (cc := cc) (t0 := .array (.array ty)) (t1 := .array ty) (type := ty) hkA₁ hkindA₁ rfl hk1₁ hkind1₁ rfl hkC₁ hkindC₁ hn hk hq hl1 hh1 hl2 hh2 hl3 hh3 hdf hdd (by show T.heap.size + 1 + _ ≤ _; omega) (by show T.slotsUsed + _ + _ ≤ _; omega) (fun d' acts' => ?_)
  have XF := stand3 X₁ cA comp comp' n.toNatClampNeg k.toNatClampNeg q.toNatClampNeg (defaultValue ty) n.toNatClampNeg
  have eS : ((T.setTop g).setVm vm₁).setTop { g with stack := rest } = (T.setVm vm₁).setTop { g with stack := rest } := by
    show ((T.setVm vm₁).setTop g).setTop _ = _
    rw [State.setTop_setTop]
  rw [eS, fil3_setTop]
  simp only [wp_bind', W.mark, W.pushRef, State.topJava?_setTop' _ XF.here.top, Option.some.injEq, exists_eq_left', State.setTop_setTop, State.heap_setTop]
  intro acts
  simp [jvm, XF.here.top]
  exact hrest
end KM4
section KM5
variable {p : Program} {l : Launch} {e : Env} {R : Room} {s : State} {m : MethodId} {args : Array Value} {below : List Frame} {meth : Method} {c : Code} {H : Heap} {locs : List Loc} {cells slots : Nat} {Q : State → Prop}
variable {cc : ByteArray} {pc index : Nat} {ls : Array Slot} {rest : List Value} {D : va_G} {cy : Nat → ClassId} {own : String} {A : Nat → Prop} {H0 : Heap}
theorem k_mna2 (hx : p.tables.exec = Jvm.exec) (hb : c.code = cc) (hown : s.vm.findClass own = some m.cls) (hG : GK D cy s) (hS : va_S A H0 H locs) {q0 : Nat} (hq0 : H.size = q0) (hcl : Cond.classLink own index "[[I" ∈ lw_tbl) (hAW : AWD s) {n k : Int32} {N' K' : Nat} (hn : ¬ n < 0) (hk : ¬ k < 0) (hN : n.toNatClampNeg = N') (hM : k.toNatClampNeg = K') (hb1 : N' * 4 ≤ 536870912) (hb2 : K' * 4 ≤ 536870912) (hcells : cells + (1 + N') ≤ R.cells) (hslots : slots + (N' + N' * K') ≤ R.slots) (hdg : decode cc pc = .ok (.multianewarray index 2, 4))
    (kk : ∀ H1 : Heap, va_P D vwCl [(q0, .inl (cy 5, N', rfs (fun i => if i < N' then some (q0 + 1 + i) else none)))] H1 → (∀ i, i < N' → va_P D vwCl [(q0 + 1 + i, .inl (cy 0, K', .inl (fun _ => 0)))] H1) → H1.size = q0 + 1 + N' → (∀ q, q < q0 → H1[q]? = H[q]?) → va_S A H0 H1 locs →
      W p l e R s m args below meth c H1 locs (cells + 1 + N') (slots + N' + N' * K') Q (F0 m (pc + 4) ls (.ref q0 :: rest))) : W p l e R s m args below meth c H locs cells slots Q (F0 m pc ls (.int k :: .int n :: rest)) := by
  subst hq0
  subst hN
  subst hM
  intro T hT Xs
  obtain ⟨vm₁, cA, comp, -, fA, fC, -, -, X', step⟩ := Xs.multianewarray2F hx hown (ty := .int) (hG.w hcl rfl) (hAW.use wAO__array_int_ rfl) (hG.w wAC_int rfl) (g := F0 m pc ls (.int k :: .int n :: rest)) rfl (by rw [hb]; exact hdg) rfl hn hk hb1 hb2 (by omega) rfl rfl hcells hslots
  have e0 : comp = cy 0 := Option.some.inj (fC.symm.trans (hG.2.2 0 _ rfl).2)
  have e5 : cA = cy 5 := Option.some.inj (fA.symm.trans (hG.2.2 5 _ rfl).2)
  subst e0 e5
  generalize hF : Jvm.Free.Multi.fill (T.setVm vm₁) (cy 5) (cy 0) n.toNatClampNeg k.toNatClampNeg (defaultValue .int) n.toNatClampNeg = F at X' step
  have hTh : (T.setVm vm₁).heap = H := hT
  obtain ⟨f1, f2, -, -⟩ := Jvm.Free.Multi.fill_facts (T.setVm vm₁) (cy 5) (cy 0) n.toNatClampNeg k.toNatClampNeg (defaultValue .int) n.toNatClampNeg
  rw [hF, hTh] at f1 f2
  have hold : ∀ x : Nat, x < H.size → F.heap[x]? = H[x]? := fun x hx9 => by
    have := Jvm.Free.Multi.fill_old (T.setVm vm₁) (cy 5) (cy 0) n.toNatClampNeg k.toNatClampNeg (defaultValue .int) (a := x) (by rw [hTh]; exact hx9) n.toNatClampNeg
    rw [hF, hTh] at this
    exact this
  have hrow : ∀ j : Nat, j < n.toNatClampNeg → F.heap[H.size + 1 + j]? = some (Jvm.Free.Multi.innerC (cy 0) k.toNatClampNeg (defaultValue .int)) := fun j hj => by
    have := Jvm.Free.Multi.fill_inner (T.setVm vm₁) (cy 5) (cy 0) n.toNatClampNeg k.toNatClampNeg (defaultValue .int) n.toNatClampNeg j hj
    rw [hF, hTh] at this
    exact this
  rw [out2_arr] at f2
  obtain ⟨t, a1, b1⟩ := kk F.heap (k_one (by show F.heap[H.size]? = some (vp_cell _ _); rw [show vp_cell (cy 5) (n.toNatClampNeg, rfs (fun i => if i < n.toNatClampNeg then some (H.size + 1 + i) else none)) = arrV (cy 5) n.toNatClampNeg (fun j => va_rf (if j < n.toNatClampNeg then some (H.size + 1 + j) else none)) from rfl]; exact f2))
    (fun i hi => k_one (by show F.heap[H.size + 1 + i]? = some (vp_cell _ _); rw [vp_cell_i, hrow i hi, ← arrV_new]; rfl))
    f1 hold ⟨by rw [f1]; have := hS.1; omega, fun x h1 h2 => (hold x (Nat.lt_of_lt_of_le h1 hS.1)).trans (hS.2.1 x h1 h2), hS.2.2⟩ F rfl X'
  refine ⟨t, step t ?_, b1⟩
  have e9 : T.heap.size = H.size := by rw [hT]
  rw [e9]
  exact a1
theorem k_mna3 (hx : p.tables.exec = Jvm.exec) (hb : c.code = cc) (hown : s.vm.findClass own = some m.cls) (hG : GK D cy s) (hS : va_S A H0 H locs) {q0 : Nat} (hq0 : H.size = q0) (hcl : Cond.classLink own index "[[[I" ∈ lw_tbl) (hAW : AWD s) {n k u : Int32} {N' K' U' : Nat} (hn : ¬ n < 0) (hk : ¬ k < 0) (hu : ¬ u < 0) (hN : n.toNatClampNeg = N') (hM : k.toNatClampNeg = K') (hU : u.toNatClampNeg = U') (hb1 : N' * 4 ≤ 536870912) (hb2 : K' * 4 ≤ 536870912) (hb3 : U' * 4 ≤ 536870912) (hcells : cells + (1 + N' * (1 + K')) ≤ R.cells) (hslots : slots + (N' + N' * (K' + K' * U')) ≤ R.slots) (hdg : decode cc pc = .ok (.multianewarray index 3, 4))
    (kk : ∀ H1 : Heap, va_P D vwCl [(q0, .inl (cy 6, N', rfs (fun i => if i < N' then some (q0 + 1 + i * (1 + K')) else none)))] H1 → (∀ i, i < N' → va_P D vwCl [(q0 + 1 + i * (1 + K'), .inl (cy 5, K', rfs (fun j => if j < K' then some (q0 + 1 + i * (1 + K') + 1 + j) else none)))] H1) → (∀ i j, i < N' → j < K' → va_P D vwCl [(q0 + 1 + i * (1 + K') + 1 + j, .inl (cy 0, U', .inl (fun _ => 0)))] H1) → H1.size = q0 + 1 + N' * (1 + K') → (∀ q, q < q0 → H1[q]? = H[q]?) → va_S A H0 H1 locs →
      W p l e R s m args below meth c H1 locs (cells + 1 + N' * (1 + K')) (slots + N' + N' * (K' + K' * U')) Q (F0 m (pc + 4) ls (.ref q0 :: rest))) : W p l e R s m args below meth c H locs cells slots Q (F0 m pc ls (.int u :: .int k :: .int n :: rest)) := by
  subst hq0
  subst hN
  subst hM
  subst hU
  intro T hT Xs
  obtain ⟨vm₁, cA, c1, c0, -, fA, fB, fC, X', step⟩ := mna3F Xs hx hown (ty := .int) (hG.w hcl rfl) (hAW.use wAO__array_array_int_ rfl) (hAW.use wAO__array_int_ rfl) (hG.w wAC_int rfl) (g := F0 m pc ls (.int u :: .int k :: .int n :: rest)) rfl (by rw [hb]; exact hdg) rfl hn hk hu hb1 hb2 hb3 (by omega) rfl rfl hcells hslots
  have e0 : c0 = cy 0 := Option.some.inj (fC.symm.trans (hG.2.2 0 _ rfl).2)
  have e5 : c1 = cy 5 := Option.some.inj (fB.symm.trans (hG.2.2 5 _ rfl).2)
  have e6 : cA = cy 6 := Option.some.inj (fA.symm.trans (hG.2.2 6 _ rfl).2)
  subst e0 e5 e6
  generalize hF : fil3 (T.setVm vm₁) (cy 6) (cy 5) (cy 0) n.toNatClampNeg k.toNatClampNeg u.toNatClampNeg (defaultValue .int) n.toNatClampNeg = F at X' step
  have hTh : (T.setVm vm₁).heap = H := hT
  obtain ⟨f1, f2, -, -⟩ := fil3_facts (T.setVm vm₁) (cy 6) (cy 5) (cy 0) n.toNatClampNeg k.toNatClampNeg u.toNatClampNeg (defaultValue .int) n.toNatClampNeg
  rw [hF, hTh] at f1 f2
  have hold : ∀ x : Nat, x < H.size → F.heap[x]? = H[x]? := fun x hx9 => by
    have := fil3_old (T.setVm vm₁) (cy 6) (cy 5) (cy 0) n.toNatClampNeg k.toNatClampNeg u.toNatClampNeg (defaultValue .int) (a := x) (by rw [hTh]; exact hx9) n.toNatClampNeg
    rw [hF, hTh] at this
    exact this
  have hin := fil3_in (T.setVm vm₁) (cy 6) (cy 5) (cy 0) n.toNatClampNeg k.toNatClampNeg u.toNatClampNeg (defaultValue .int) n.toNatClampNeg
  rw [hF, hTh] at hin
  rw [out3_arr] at f2
  obtain ⟨t, a1, b1⟩ := kk F.heap (k_one (by show F.heap[H.size]? = some (vp_cell _ _); rw [show vp_cell (cy 6) (n.toNatClampNeg, rfs (fun i => if i < n.toNatClampNeg then some (H.size + 1 + i * (1 + k.toNatClampNeg)) else none)) = arrV (cy 6) n.toNatClampNeg (fun j => va_rf (if j < n.toNatClampNeg then some (H.size + 1 + j * (1 + k.toNatClampNeg)) else none)) from rfl]; exact f2))
    (fun i hi => k_one (by have h := (hin i hi).1; rw [out2_arr] at h; exact h))
    (fun i j hi hj => k_one (by show F.heap[_]? = some (vp_cell _ _); rw [vp_cell_i, (hin i hi).2 j hj, ← arrV_new]; rfl))
    f1 hold ⟨by rw [f1]; have := hS.1; omega, fun x h1 h2 => (hold x (Nat.lt_of_lt_of_le h1 hS.1)).trans (hS.2.1 x h1 h2), hS.2.2⟩ F rfl X'
  refine ⟨t, step t ?_, b1⟩
  have e9 : T.heap.size = H.size := by rw [hT]
  rw [e9]
  exact a1
end KM5
