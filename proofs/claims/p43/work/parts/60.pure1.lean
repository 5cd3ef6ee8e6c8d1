theorem i_fit {A : Int} (h : -2147483648 ≤ A ∧ A < 2147483648) : A.bmod 4294967296 = A := by
  rw [Int.bmod_def]
  split <;> omega
theorem i_add {a b : Int32} {A B : Int} (ha : a.toInt = A) (hb : b.toInt = B) (h : -2147483648 ≤ A + B ∧ A + B < 2147483648) : (a + b).toInt = A + B := by
  rw [Int32.toInt_add, ha, hb]; exact i_fit h
theorem i_sub {a b : Int32} {A B : Int} (ha : a.toInt = A) (hb : b.toInt = B) (h : -2147483648 ≤ A - B ∧ A - B < 2147483648) : (a - b).toInt = A - B := by
  rw [Int32.toInt_sub, ha, hb]; exact i_fit h
theorem i_mul {a b : Int32} {A B : Int} (ha : a.toInt = A) (hb : b.toInt = B) (h : -2147483648 ≤ A * B ∧ A * B < 2147483648) : (a * b).toInt = A * B := by
  rw [Int32.toInt_mul, ha, hb]; exact i_fit h
theorem i_neg {a : Int32} {A : Int} (ha : a.toInt = A) (h : -2147483648 ≤ -A ∧ -A < 2147483648) : (-a).toInt = -A := by
  rw [Int32.toInt_neg, ha]; exact i_fit h
theorem i_lt {a b : Int32} {A B : Int} (ha : a.toInt = A) (hb : b.toInt = B) : a < b ↔ A < B := by rw [Int32.lt_iff_toInt_lt, ha, hb]
theorem i_le {a b : Int32} {A B : Int} (ha : a.toInt = A) (hb : b.toInt = B) : a ≤ b ↔ A ≤ B := by rw [Int32.le_iff_toInt_le, ha, hb]
theorem i_eq {a b : Int32} {A B : Int} (ha : a.toInt = A) (hb : b.toInt = B) : a = b ↔ A = B := by rw [← Int32.toInt_inj, ha, hb]
theorem i_nI {n : Nat} (h : n < 2147483648) : (nI n).toInt = (n : Int) := nI_toInt h
