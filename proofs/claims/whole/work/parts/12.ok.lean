theorem ok_X9_reg {o0 : Nat} {x1 : Int32} (h : o0 < 6) : f_X9_reg o0 x1 < 583 := by
  have h1 : (x1 &&& 15).toNatClampNeg < 16 := inb_lt (inb_and 15 4 (by decide) (by decide))
  unfold f_X9_reg
  omega
