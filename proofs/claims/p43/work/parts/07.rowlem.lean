theorem le_clamp {e : Int32} {i : Nat} (h : i < 2 ^ 31) : e ≤ nI i ↔ e.toNatClampNeg ≤ i := by
  rw [Int32.le_iff_toInt_le, nI_toInt h]
  show e.toInt ≤ i ↔ e.toInt.toNat ≤ i
  omega
theorem lt_clamp {e : Int32} {i : Nat} (h : i < 2 ^ 31) (hn : ¬ e ≤ nI i) : i < e.toNatClampNeg := by
  rw [le_clamp h] at hn
  omega
theorem rTake_succ {M : List Int32} {i : Nat} (h : i < M.length) (hM : M.length ≤ 18) : ((M.take i ++ [M.getD i 0]).take 18) = M.take (i + 1) := by
  rw [List.take_of_length_le (by simp; omega), List.take_succ]
  simp [List.getD, h]
theorem rTake_one {M : List Int32} {i : Nat} (h : i < M.length) : M.take (i + 1) = M.take i ++ [M.getD i 0] := by
  rw [List.take_succ]
  simp [List.getD, h]
theorem rWithout_out {M : List Int32} {j : Int32} {i : Nat} (h : i < M.length) (hj : jOf (M.getD i 0) = j) : rWithout (M.take (i + 1)) j = rWithout (M.take i) j := by
  rw [rTake_one h]
  unfold rWithout
  rw [List.filter_append]
  generalize M.getD i 0 = x at hj ⊢
  simp [List.filter_cons, hj]
theorem rWithout_in {M : List Int32} {j : Int32} {i : Nat} (h : i < M.length) (hM : M.length ≤ 18) (hj : ¬ jOf (M.getD i 0) = j) : ((rWithout (M.take i) j ++ [M.getD i 0]).take 18) = rWithout (M.take (i + 1)) j := by
  have hl : (rWithout (M.take i) j).length ≤ i := Nat.le_trans (List.length_filter_le _ _) (by rw [List.length_take]; omega)
  rw [List.take_of_length_le (by simp; omega), rTake_one h]
  unfold rWithout
  rw [List.filter_append]
  generalize M.getD i 0 = x at hj ⊢
  simp [List.filter_cons, hj]
