/-! a quotient of two numbers of sectors is a number -/
def wlF (x y : Nat) : UInt32 := FP.fdiv (FP.i2f (iI x)) (FP.i2f (iI y))
def wlE (d : UInt64) : Bool := decide (d &&& 0x7fffffffffffffff ≤ 0x7ff0000000000000) && decide (FP.dcmp d d = some .eq)
def wlD (r : UInt32) : Bool := decide (r &&& 0x7fffffff ≤ 0x7f800000) && wlE (FP.f2d r)
def wlY (y : Nat) : Bool := (List.range (y + 2)).all (fun x => wlD (wlF x (y + 1)))
theorem wl_1 : (List.range 100).all wlY = true := by decide +kernel
