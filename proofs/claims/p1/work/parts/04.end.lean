theorem zz_probe : (2 : Int32) + 3 = 5 := by decide +kernel
