def zz_mark : Nat := 0
