/-! what bounds say of an int -/
theorem kl1 {L x a : Int32} (h : L < x) (d : a.toInt ≤ L.toInt) : a < x := by
  rw [Int32.lt_iff_toInt_lt] at h ⊢
  omega
theorem kl2 {L x a : Int32} (h : ¬ x < L) (d : a.toInt < L.toInt) : a < x := by
  rw [Int32.lt_iff_toInt_lt] at h ⊢
  omega
theorem kl3 {U x a : Int32} (h : x < U) (d : U.toInt ≤ a.toInt + 1) : ¬ a < x := by
  rw [Int32.lt_iff_toInt_lt] at h ⊢
  omega
theorem kl4 {U x a : Int32} (h : ¬ U < x) (d : U.toInt ≤ a.toInt) : ¬ a < x := by
  rw [Int32.lt_iff_toInt_lt] at h ⊢
  omega
theorem ku1 {U x b : Int32} (h : x < U) (d : U.toInt ≤ b.toInt) : x < b := by
  rw [Int32.lt_iff_toInt_lt] at h ⊢
  omega
theorem ku2 {U x b : Int32} (h : ¬ U < x) (d : U.toInt < b.toInt) : x < b := by
  rw [Int32.lt_iff_toInt_lt] at h ⊢
  omega
theorem ku3 {L x b : Int32} (h : L < x) (d : b.toInt ≤ L.toInt + 1) : ¬ x < b := by
  rw [Int32.lt_iff_toInt_lt] at h ⊢
  omega
theorem ku4 {L x b : Int32} (h : ¬ x < L) (d : b.toInt ≤ L.toInt) : ¬ x < b := by
  rw [Int32.lt_iff_toInt_lt] at h ⊢
  omega
theorem kne1 {x a : Int32} (h : a < x) : ¬ x = a := fun e => Int32.lt_irrefl (e ▸ h)
theorem kne2 {x a : Int32} (h : x < a) : ¬ x = a := fun e => Int32.lt_irrefl (e ▸ h)
theorem kne3 {x a b : Int32} (h : x = b) (d : ¬ b = a) : ¬ x = a := fun e => d (h.symm.trans e)
theorem keq {x a : Int32} (h1 : ¬ a < x) (h2 : ¬ x < a) : x = a := Int32.le_antisymm (Int32.not_lt.mp h1) (Int32.not_lt.mp h2)
