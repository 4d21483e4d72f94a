-- what constructors lay
def rNew (ra ph sp of dr : Int32) : Nat → Int32 := upd (upd (upd (upd (upd (upd (upd (upd (fun _ => 0) 0 ra) 2 ph) 1 sp) 3 of) 4 dr) 5 1) 7 (-1)) 8 (-1)
def snNew (x d : Int32) : Nat → Int32 := upd (upd (fun _ => 0) 0 x) 1 d
def tNew : Nat → Int32 := upd (upd (upd (fun _ => 0) 1 (-1)) 9 99) 12 (-1)
def vNew (n x y b : Int32) : Nat → Int32 := upd (upd (upd (upd (upd (upd (upd (upd (fun _ => 0) 0 n) 4 x) 5 y) 1 b) 6 5) 7 5) 10 6) 12 (-1)
def rc0 : List Value := [.int 0, .int 0, .null, .null, .int 0, .int 0, .int 0, .int 0, .int 0, .int 0, .int 0, .int 0, .int 0]
def sv0 : List Value := [.null, .null, .null, .null, .null, .int 0, .int 0, .int 0, .int 0, .long 0, .int 0, .int 0, .int 0, .int 0, .long 0]
def ps0 : List Value := [.null, .null, .null, .null, .int 0, .int 0, .int 0, .int 0]
theorem df0 : ∀ j, j < 13 → defaultValue (tyX0 j) = vp_V rc0 j := by decide +kernel
theorem df1 : ∀ j, j < 11 → defaultValue (tyX1 j) = vp_V (stF (fun _ => 0)) j := by decide +kernel
theorem df2 : ∀ j, j < 15 → defaultValue (tyX2 j) = vp_V sv0 j := by decide +kernel
theorem df3 : ∀ j, j < 11 → defaultValue (tyX3 j) = vp_V (stF (fun _ => 0)) j := by decide +kernel
theorem df4 : ∀ j, j < 2 → defaultValue (tyX4 j) = vp_V (snF (fun _ => 0)) j := by decide +kernel
theorem df5 : ∀ j, j < 13 → defaultValue (tyX5 j) = vp_V (trF (fun _ => 0)) j := by decide +kernel
theorem df6 : ∀ j, j < 8 → defaultValue (tyX6 j) = vp_V ps0 j := by decide +kernel
def svA (b0 b1 b2 b3 b4 : Value) : List Value := [b0, b1, b2, b3, b4, .int 0, .int 0, .int 0, .int 0, .long 0, .int 0, .int 0, .int 0, .int 0, .long 0]
