-- the search over what is used, packed and with gaps, is the same
section SQ1
def Cmp (F L : Nat → Nat → Int32) (n : Nat) : Prop := ∀ j, j < n → ¬ L 9 j = 0 → F 0 (wC L j) = L 6 j ∧ F 1 (wC L j) = L 7 j ∧ F 2 (wC L j) = L 8 j ∧ F 3 (wC L j) = L 9 j
def Lo (L L' : Nat → Nat → Int32) (lo : Int32) (n : Nat) : Prop := (L' 6 = L 6 ∧ L' 7 = L 7 ∧ L' 8 = L 8) ∧ ∀ j, j < n → (L 9 j = 0 → L' 9 j = 0) ∧ (¬ L 9 j = 0 → (nI (wC L j) = lo ∧ L' 9 j = 0) ∨ (¬ nI (wC L j) = lo ∧ L' 9 j = L 9 j))
variable {F L L' : Nat → Nat → Int32} {lo : Int32} {n : Nat}
theorem eOv (hc : Cmp F L n) (hl : Lo L L' lo n) {j : Nat} (hj : j < n) (h : ¬ L 9 j = 0) (px py : Int32) : pOv F px py (wC L j) = mOver L' px py j := by
  obtain ⟨h0, h1, h2, -⟩ := hc j hj h
  unfold pOv mOver
  rw [h0, h1, h2, hl.1.1, hl.1.2.1, hl.1.2.2]
theorem eSw (hc : Cmp F L n) (hl : Lo L L' lo n) (px py : Int32) : ∀ m, m ≤ n → pSum F px py lo (wC L m) = mSw L' px py m
  | 0, _ => by rw [mSw_0, wC, pSum]
  | m + 1, hm => by
    have ih := eSw hc hl px py m (by omega)
    rw [wC_s, mSw_s]
    by_cases c : L 9 m = 0
    · rw [if_pos c, Nat.add_zero, if_pos ((hl.2 m (by omega)).1 c), ih]
    · rw [if_neg c, pSum]
      rcases (hl.2 m (by omega)).2 c with ⟨e1, e2⟩ | ⟨e1, e2⟩
      · rw [if_pos e1, if_pos e2, ih]
      · rw [if_neg e1, e2, if_neg c, ih, eOv hc hl (by omega) c, (hc m (by omega) c).2.2.2]
theorem eAw (hc : Cmp F L n) (hl : Lo L L' lo n) : ∀ m, m ≤ n → pWt F lo (wC L m) = mAw L' m
  | 0, _ => by rw [mAw_0, wC, pWt]
  | m + 1, hm => by
    have ih := eAw hc hl m (by omega)
    rw [wC_s, mAw_s]
    by_cases c : L 9 m = 0
    · rw [if_pos c, Nat.add_zero, if_pos ((hl.2 m (by omega)).1 c), ih]
    · rw [if_neg c, pWt]
      rcases (hl.2 m (by omega)).2 c with ⟨e1, e2⟩ | ⟨e1, e2⟩
      · rw [if_pos e1, if_pos e2, ih]
      · rw [if_neg e1, e2, if_neg c, ih, (hc m (by omega) c).2.2.2]
theorem eCw (hc : Cmp F L n) (hl : Lo L L' lo n) (px py tm : Int32) : ∀ m, m ≤ n → pCs (pOv F px py) (F 3) tm lo (wC L m) = mCw L' px py tm m
  | 0, _ => by rw [mCw_0, wC, pCs]
  | m + 1, hm => by
    have ih := eCw hc hl px py tm m (by omega)
    rw [wC_s, mCw_s]
    by_cases c : L 9 m = 0
    · rw [if_pos c, Nat.add_zero, if_pos ((hl.2 m (by omega)).1 c), ih]
    · rw [if_neg c, pCs]
      rcases (hl.2 m (by omega)).2 c with ⟨e1, e2⟩ | ⟨e1, e2⟩
      · rw [if_pos e1, if_pos e2, ih]
      · rw [if_neg e1, e2, if_neg c, ih, eOv hc hl (by omega) c, (hc m (by omega) c).2.2.2]
/-- no cost is less than none -/
def HN (L : Nat → Nat → Int32) (n : Nat) : Prop := ∀ x y : Int32, Bd x 12 → Bd y 12 → (0 : Int64) ≤ mCw L x y (mTm L n x y) n
def Pn (b : Bst) : Prop := (0 : Int64) ≤ b.2.2.2
theorem Pn.ne {b : Bst} (h : Pn b) : ¬ isM1 b.2.2.2 = true := by
  intro q
  have e := (isM1_iff _).mp q
  unfold Pn at h
  rw [e] at h
  exact absurd h (by decide)
theorem Bd.px : ∀ k, k < 25 → Bd (nI k + (-12)) 12 := by
  unfold Bd
  decide
theorem Bd.py : ∀ k, k < 13 → Bd (nI k) 12 := by
  unfold Bd
  decide
theorem mTry_pn (hn : HN L n) {px py : Int32} (hx : Bd px 12) (hy : Bd py 12) {b : Bst} (h : Pn b) : Pn (mTry L n px py b) := by
  unfold mTry
  by_cases c : lg_cmp (mCw L px py (mTm L n px py) n) b.2.2.2 < 0
  · rw [if_pos c]
    exact hn px py hx hy
  · rw [if_neg c]
    exact h
theorem eTm (hc : Cmp F L n) (hl : Lo L L' lo n) (ha : ¬ mAw L' n = 0) (px py : Int32) : pTm F px py lo (wC L n) = mTm L' n px py := by
  unfold pTm mTm
  rw [eAw hc hl n (Nat.le_refl _), if_neg ha, eSw hc hl px py n (Nat.le_refl _)]
theorem eTry (hc : Cmp F L n) (hl : Lo L L' lo n) (ha : ¬ mAw L' n = 0) (px py : Int32) {b : Bst} (hb : Pn b) : pTry F (wC L n) lo px py b = mTry L' n px py b := by
  have e1 := eTm hc hl ha px py
  unfold pTry mTry
  rw [e1, eCw hc hl px py _ n (Nat.le_refl _), if_neg hb.ne]
  by_cases c : lg_cmp (mCw L' px py (mTm L' n px py) n) b.2.2.2 < 0
  · rw [if_pos c, if_neg (Int32.not_le.mpr c)]
  · rw [if_neg c, if_pos (Int32.not_lt.mp c)]
theorem eTry0 (hc : Cmp F L n) (hl : Lo L L' lo n) (ha : ¬ mAw L' n = 0) (px py : Int32) {b b' : Bst} (hb : b.2.2.2 = -1) (hq : lg_cmp (mCw L' px py (mTm L' n px py) n) b'.2.2.2 < 0) : pTry F (wC L n) lo px py b = mTry L' n px py b' := by
  have e1 := eTm hc hl ha px py
  unfold pTry mTry
  rw [e1, eCw hc hl px py _ n (Nat.le_refl _), if_pos ((isM1_iff _).mpr hb), if_pos hq]
theorem eRow (hc : Cmp F L n) (hl : Lo L L' lo n) (ha : ¬ mAw L' n = 0) (hn : HN L' n) {py : Int32} (hy : Bd py 12) {b : Bst} (hb : Pn b) : ∀ k, k ≤ 25 → pRowS F (wC L n) lo py k b = mRowT L' n py k b ∧ Pn (mRowT L' n py k b)
  | 0, _ => by rw [pRowS_0, mRowT_0]; exact ⟨rfl, hb⟩
  | k + 1, h => by
    obtain ⟨e, p⟩ := eRow hc hl ha hn hy hb k (by omega)
    rw [pRowS_s, mRowT_s, e]
    exact ⟨eTry hc hl ha _ _ p, mTry_pn hn (Bd.px k (by omega)) hy p⟩
theorem eRow0 (hc : Cmp F L n) (hl : Lo L L' lo n) (ha : ¬ mAw L' n = 0) (hn : HN L' n) {py : Int32} (hy : Bd py 12) {b b' : Bst} (hb : b.2.2.2 = -1) (hb' : Pn b') (hq : lg_cmp (mCw L' (nI 0 + (-12)) py (mTm L' n (nI 0 + (-12)) py) n) b'.2.2.2 < 0) : ∀ k, k < 25 → pRowS F (wC L n) lo py (k + 1) b = mRowT L' n py (k + 1) b' ∧ Pn (mRowT L' n py (k + 1) b')
  | 0, _ => by
    rw [pRowS_s, mRowT_s, pRowS_0, mRowT_0]
    exact ⟨eTry0 hc hl ha _ _ hb hq, mTry_pn hn (Bd.px 0 (by omega)) hy hb'⟩
  | k + 1, h => by
    obtain ⟨e, p⟩ := eRow0 hc hl ha hn hy hb hb' hq k (by omega)
    rw [pRowS_s, mRowT_s, e]
    exact ⟨eTry hc hl ha _ _ p, mTry_pn hn (Bd.px (k + 1) (by omega)) hy p⟩
theorem eSrch (hc : Cmp F L n) (hl : Lo L L' lo n) (ha : ¬ mAw L' n = 0) (hn : HN L' n) {b b' : Bst} (hb : b.2.2.2 = -1) (hb' : Pn b') (hq : lg_cmp (mCw L' (nI 0 + (-12)) (nI 0) (mTm L' n (nI 0 + (-12)) (nI 0)) n) b'.2.2.2 < 0) : ∀ k, k < 13 → pSrch F (wC L n) lo (k + 1) b = mSrch L' n (k + 1) b' ∧ Pn (mSrch L' n (k + 1) b')
  | 0, _ => by
    rw [pSrch_s, mSrch_s, pSrch_0, mSrch_0]
    exact eRow0 hc hl ha hn (Bd.py 0 (by omega)) hb hb' hq 24 (by omega)
  | k + 1, h => by
    obtain ⟨e, p⟩ := eSrch hc hl ha hn hb hb' hq k (by omega)
    rw [pSrch_s, mSrch_s, e]
    exact eRow hc hl ha hn (Bd.py (k + 1) (by omega)) p 25 (by omega)
/-- the first place is better than none -/
def HQ (L : Nat → Nat → Int32) (n : Nat) : Prop := lg_cmp (mCw L (nI 0 + (-12)) (nI 0) (mTm L n (nI 0 + (-12)) (nI 0)) n) 9223372036854775807 < 0
theorem mRowT_ind {y : Int32} {B B' : Bst} (h : mTry L n (nI 0 + (-12)) y B = mTry L n (nI 0 + (-12)) y B') : ∀ k, mRowT L n y (k + 1) B = mRowT L n y (k + 1) B'
  | 0 => by rw [mRowT_s, mRowT_s, mRowT_0, mRowT_0, h]
  | k + 1 => by rw [mRowT_s, mRowT_ind h k, ← mRowT_s]
theorem mSrch_ind {B B' : Bst} (h : mRowT L n (nI 0) 25 B = mRowT L n (nI 0) 25 B') : ∀ k, mSrch L n (k + 1) B = mSrch L n (k + 1) B'
  | 0 => by rw [mSrch_s, mSrch_s, mSrch_0, mSrch_0, h]
  | k + 1 => by rw [mSrch_s, mSrch_ind h k, ← mSrch_s]
theorem mFind_ind (hq : HQ L n) (B B' : Bst) : mFind L n B = mFind L n B' := by
  unfold mFind
  refine mSrch_ind (mRowT_ind ?_ 24) 12
  unfold mTry
  dsimp only
  unfold HQ at hq
  rw [if_pos hq, if_pos hq]
theorem eFind (hc : Cmp F L n) (hl : Lo L L' lo n) (ha : ¬ mAw L' n = 0) (hq : HQ L' n) (hn : HN L' n) (b b' : Bst) : pFind F (wC L n) lo b = mFind L' n b' := by
  unfold pFind mFind
  exact (eSrch hc hl ha hn (b := (b.1, b.2.1, b.2.2.1, -1)) (b' := (b'.1, b'.2.1, b'.2.2.1, 9223372036854775807)) rfl (show (0 : Int64) ≤ 9223372036854775807 by decide) hq 12 (by omega)).1
def Less (L : Nat → Nat → Int32) (k : Nat) : Nat → Nat → Int32 := mset L 9 (upd (L 9) k 0)
theorem wC_mono (L : Nat → Nat → Int32) : ∀ {a b : Nat}, a ≤ b → wC L a ≤ wC L b
  | a, 0, h => by rw [show a = 0 by omega]; exact Nat.le_refl _
  | a, b + 1, h => by
    by_cases e : a = b + 1
    · rw [e]; exact Nat.le_refl _
    · have := wC_mono L (a := a) (b := b) (by omega)
      rw [wC_s]
      omega
theorem wC_used {a b : Nat} (h : a < b) (ha : ¬ L 9 a = 0) : wC L a < wC L b := by
  have := wC_mono L (show a + 1 ≤ b from h)
  rw [wC_s, if_neg ha] at this
  omega
theorem Lo_all (h : n ≤ 8) : Lo L L (-1) n := by
  refine ⟨⟨rfl, rfl, rfl⟩, fun j hj => ⟨fun q => q, fun q => Or.inr ⟨fun e => ?_, rfl⟩⟩⟩
  have h1 := wC_le L j
  have h2 : ¬ nI (wC L j) < 0 := nI_pos (by omega)
  rw [e] at h2
  exact h2 (by decide)
theorem Lo_less {k : Nat} (h : n ≤ 8) (hk : k < n) (hu : ¬ L 9 k = 0) : Lo L (Less L k) (nI (wC L k)) n := by
  unfold Less
  refine ⟨⟨mset_n (by decide), mset_n (by decide), mset_n (by decide)⟩, fun j hj => ?_⟩
  have h1 := wC_le L j
  have h2 := wC_le L k
  rw [mset_s]
  by_cases e : j = k
  · subst e
    exact ⟨fun q => absurd q hu, fun _ => Or.inl ⟨rfl, upd_at⟩⟩
  · have e9 : upd (L 9) k 0 j = L 9 j := if_neg e
    rw [e9]
    refine ⟨fun q => q, fun q => Or.inr ⟨fun w => ?_, rfl⟩⟩
    have w2 := (nI_eq (by omega) (by omega)).mp w
    rcases Nat.lt_or_ge j k with c | c
    · have := wC_used c q
      omega
    · have := wC_used (show k < j by omega) hu
      omega
theorem eFar (hc : Cmp F L n) (h8 : n ≤ 8) (ha : ∀ k, k < n → ¬ L 9 k = 0 → ¬ mAw (Less L k) n = 0) (hq : ∀ k, k < n → ¬ L 9 k = 0 → HQ (Less L k) n) (hn : ∀ k, k < n → ¬ L 9 k = 0 → HN (Less L k) n) (x y : Int32) (b B : Bst) : ∀ m, m ≤ n → (pFar F (wC L n) x y b (wC L m)).1 = (mLev L n x y B m).1
  | 0, _ => by rw [mLev_0, wC, pFar_0]
  | m + 1, hm => by
    have ih := eFar hc h8 ha hq hn x y b B m (by omega)
    rw [wC_s, mLev_s]
    by_cases c : L 9 m = 0
    · rw [if_pos c, Nat.add_zero, if_pos c, ih]
    · rw [if_neg c, if_neg c, pFar_s, eFind hc (Lo_less h8 (by omega) c) (ha m (by omega) c) (hq m (by omega) c) (hn m (by omega) c) (pFar F (wC L n) x y b (wC L m)).2 (mLev L n x y B m).2, ih]
      rfl
end SQ1
