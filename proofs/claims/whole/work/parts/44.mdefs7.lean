-- the model's look at a star
def mKp (g : Nat → Int32) (nx : Int32) : Int32 := if nx = 0 then 1 else if g 11 = 1 then g 4 + 1 else 1
def mCt (code wave : Int32) : Int32 := pFDiv (code - wave + 5) 10
def mLf (code wave : Int32) : Int32 := code - wave - 10 * mCt code wave
def mFx (kp lf b1 b2 : Int32) : Int32 := if kp < 3 then 0 else if bI (mIs lf (-2) 2) = 0 then 0 else if bI (mIs b1 (-2) 2) = 0 then 0 else if bI (mIs b2 (-2) 2) = 0 then 0 else 1
def mSeeT (g : Nat → Int32) (nx code wave : Int32) : Nat → Int32 :=
  upd (upd (upd (upd (upd (upd (upd (upd (upd (upd (upd (upd g 11 1) 5 0) 6 0) 7 0) 9 (g 8)) 8 (g 3)) 4 (mKp g nx)) 0 code) 1 wave) 2 (mCt code wave)) 3 (mLf code wave)) 5 (mFx (mKp g nx) (mLf code wave) (g 3) (g 8))
def mSee (N : Nat → Nat → Int32) (i j : Nat) (nx : Int32) : Nat → Int32 :=
  if bI (mSees (N (40 + i)) (N (10 + j)) 0) = 0 then upd (upd (upd (upd (N (60 + 8 * i + j)) 11 0) 5 0) 6 0) 7 0
  else mSeeT (N (60 + 8 * i + j)) nx (mCode (N 0 1) (N (40 + i)) (N (10 + j)) i j) (pFMod (mTrue (N (40 + i)) (N (10 + j))) 10)
