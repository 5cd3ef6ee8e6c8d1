/-! below: a number from 0 on, below another one -/
theorem low31 (v : Int32) : ∃ m : Nat, m < 2147483648 ∧ v &&& 2147483647 = nI m := by
  refine ⟨v.toBitVec.toNat % 2 ^ 31, Nat.mod_lt _ (by decide), ?_⟩
  refine Int32.toBitVec_inj.mp (BitVec.eq_of_toNat_eq ?_)
  have h1 : (2147483647 : Int32).toBitVec.toNat = 2 ^ 31 - 1 := by decide
  have h2 : (v &&& 2147483647).toBitVec.toNat = v.toBitVec.toNat &&& (2147483647 : Int32).toBitVec.toNat := by
    show (v.toBitVec &&& (2147483647 : Int32).toBitVec).toNat = _
    exact BitVec.toNat_and ..
  rw [h2, h1, Nat.and_two_pow_sub_one_eq_mod]
  show _ = (BitVec.ofNat 32 (v.toBitVec.toNat % 2 ^ 31)).toNat
  rw [BitVec.toNat_ofNat]
  have := Nat.mod_lt v.toBitVec.toNat (show 0 < 2 ^ 31 by decide)
  rw [Nat.mod_eq_of_lt (a := v.toBitVec.toNat % 2 ^ 31) (by omega)]
theorem nI_div {m n : Nat} (hm : m < 2147483648) (h0 : 0 < n) (hn : n < 2147483648) : nI m / nI n = nI (m / n) := by
  have h9 := Nat.div_le_self m n
  have e : ((m : Int) / (n : Int)) = ((m / n : Nat) : Int) := rfl
  generalize m / n = q at h9 e ⊢
  refine Int32.toInt_inj.mp ?_
  rw [Int32.toInt_div, nI_toInt hm, nI_toInt hn, nI_toInt (n := q) (by omega), Int.tdiv_eq_ediv_of_nonneg (by omega), e]
  exact i_fit (by omega)
theorem below_k (v : Int32) {n : Nat} (h0 : 0 < n) (hn : n < 2147483648) : ∃ k, k < n ∧ (v &&& 2147483647) - (v &&& 2147483647) / nI n * nI n = nI k := by
  obtain ⟨m, hm, e⟩ := low31 v
  have h1 : m / n * n + m % n = m := by rw [Nat.mul_comm]; exact Nat.div_add_mod m n
  have h2 := Nat.mod_lt m h0
  refine ⟨m % n, h2, ?_⟩
  rw [e, nI_div hm h0 hn, nI_mul]
  generalize m / n * n = z at h1 ⊢
  generalize m % n = r at h1 h2 ⊢
  refine Int32.toInt_inj.mp ?_
  rw [Int32.toInt_sub, nI_toInt hm, nI_toInt (n := z) (by omega), nI_toInt (n := r) (by omega)]
  refine (i_fit (by omega)).trans ?_
  omega
