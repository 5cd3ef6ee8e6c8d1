/-! nothing is fuller than full: the double -/
section
theorem full_core {A B : Int} {x y : Jvm.FP.Core.Datum} (hx : Jvm.FP.Core.Whole A x) (hy : Jvm.FP.Core.Whole B y) (h0 : 0 ≤ A) (hAB : A ≤ B) (hB : 0 < B) :
    Jvm.FP.Core.quotient Jvm.FP.Core.b64 x y ≠ .nan ∧ 0 ≤ Jvm.FP.Core.zval Jvm.FP.Core.b64 (Jvm.FP.Core.quotient Jvm.FP.Core.b64 x y) ∧ Jvm.FP.Core.zval Jvm.FP.Core.b64 (Jvm.FP.Core.quotient Jvm.FP.Core.b64 x y) ≤ Jvm.FP.Core.zval Jvm.FP.Core.b64 (Jvm.FP.Core.val64 Jvm.FP.Core.dconst1) := by
  cases x with
  | nan => exact hx.elim
  | inf => exact hx.elim
  | fin s c q =>
  cases y with
  | nan => exact hy.elim
  | inf => exact hy.elim
  | fin t d r =>
  have hd : d ≠ 0 := fun h => by have := (Jvm.FP.Core.whole_zero hy).mp h; omega
  have e : Jvm.FP.Core.quotient Jvm.FP.Core.b64 (.fin s c q) (.fin t d r) = Jvm.FP.Core.roundRatio Jvm.FP.Core.b64 (s != t) c d (q - r) := by
    show (if d = 0 then (if c = 0 then Jvm.FP.Core.Datum.nan else .inf (s != t)) else Jvm.FP.Core.roundRatio Jvm.FP.Core.b64 (s != t) c d (q - r)) = _
    rw [if_neg hd]
  have e1 : Jvm.FP.Core.zval Jvm.FP.Core.b64 (Jvm.FP.Core.val64 Jvm.FP.Core.dconst1) = (Jvm.FP.Core.zmag Jvm.FP.Core.b64 (Jvm.FP.Core.val64 Jvm.FP.Core.dconst1) : Int) := by rw [Jvm.FP.Core.val64_dconst1]; rfl
  rw [e]
  refine ⟨Jvm.FP.Core.roundRatio_ne_nan _ _ _ _ _, ?_⟩
  by_cases hA : A = 0
  · have hc : c = 0 := (Jvm.FP.Core.whole_zero hx).mpr hA
    have e2 : Jvm.FP.Core.roundRatio Jvm.FP.Core.b64 (s != t) c d (q - r) = .fin (s != t) 0 Jvm.FP.Core.b64.qmin := by unfold Jvm.FP.Core.roundRatio; rw [if_pos hc]
    have e3 : Jvm.FP.Core.zval Jvm.FP.Core.b64 (.fin (s != t) 0 Jvm.FP.Core.b64.qmin) = 0 := by
      unfold Jvm.FP.Core.zval
      show Jvm.FP.Core.signed (s != t) (Jvm.FP.Core.inUnits 0 Jvm.FP.Core.b64.qmin Jvm.FP.Core.b64.qmin) = 0
      unfold Jvm.FP.Core.inUnits
      rw [Nat.zero_mul]
      cases (s != t) <;> rfl
    rw [e2, e3, e1]
    exact ⟨Int.le_refl _, Int.natCast_nonneg _⟩
  · have hs := Jvm.FP.Core.whole_sign hx hA
    have ht := Jvm.FP.Core.whole_sign hy (by omega)
    rw [decide_eq_false (by omega)] at hs ht
    subst hs ht
    have e3 : Jvm.FP.Core.zval Jvm.FP.Core.b64 (Jvm.FP.Core.roundRatio Jvm.FP.Core.b64 (false != false) c d (q - r)) = (Jvm.FP.Core.zmag Jvm.FP.Core.b64 (Jvm.FP.Core.roundRatio Jvm.FP.Core.b64 (false != false) c d (q - r)) : Int) := by
      unfold Jvm.FP.Core.zval
      rw [Jvm.FP.Core.sgn_roundRatio]
      rfl
    have e4 : Jvm.FP.Core.zval Jvm.FP.Core.b64 (Jvm.FP.Core.val64 Jvm.FP.Core.dconst1) = (Jvm.FP.Core.zmag Jvm.FP.Core.b64 (Jvm.FP.Core.val64 Jvm.FP.Core.dconst1) : Int) := by rw [Jvm.FP.Core.val64_dconst1]; rfl
    have e5 : Jvm.FP.Core.zmag Jvm.FP.Core.b64 (Jvm.FP.Core.val64 Jvm.FP.Core.dconst1) = 2 ^ 52 * 2 ^ (-52 - Jvm.FP.Core.b64.qmin).toNat := by
      rw [Jvm.FP.Core.val64_dconst1]
      show Jvm.FP.Core.inUnits (2 ^ 52) (-52) Jvm.FP.Core.b64.qmin = _
      unfold Jvm.FP.Core.inUnits
      rfl
    rw [e3, e4]
    refine ⟨Int.natCast_nonneg _, Int.ofNat_le.mpr ?_⟩
    have hq : Jvm.FP.Core.b64.qmin = -1074 := by decide
    have u1 := Jvm.FP.Core.whole_units hx (e := min q r) (by omega)
    have u2 := Jvm.FP.Core.whole_units hy (e := min q r) (by omega)
    have p1 : (0 : Int) < ((2 ^ (min q r).toNat : Nat) : Int) := by have := Nat.two_pow_pos (min q r).toNat; omega
    have p2 : (0 : Int) < ((2 ^ (-(min q r)).toNat : Nat) : Int) := by have := Nat.two_pow_pos (-(min q r)).toNat; omega
    have hu : Jvm.FP.Core.inUnits c q (min q r) ≤ Jvm.FP.Core.inUnits d r (min q r) := by
      have h1 : A * ((2 ^ (-(min q r)).toNat : Nat) : Int) ≤ B * ((2 ^ (-(min q r)).toNat : Nat) : Int) := Int.mul_le_mul_of_nonneg_right hAB (by omega)
      rw [← u1, ← u2] at h1
      have h2 := Int.le_of_mul_le_mul_right h1 p1
      exact Int.ofNat_le.mp h2
    obtain ⟨e0, he0⟩ : ∃ e0 : Int, e0 = min (-1074) (min q r - r) := ⟨_, rfl⟩
    refine Jvm.FP.Core.zmag_roundRatio_le Jvm.FP.Core.good_b64 (Nat.pos_of_ne_zero hd) (Jvm.FP.Core.val64_fits Jvm.FP.Core.dconst1) (by rw [Jvm.FP.Core.val64_dconst1]; exact Jvm.FP.Core.Datum.noConfusion) (e0 := e0) (by omega) (by omega) ?_
    rw [e5]
    obtain ⟨K, hK⟩ : ∃ K : Nat, (K : Int) = min q r - r - e0 := ⟨(min q r - r - e0).toNat, by omega⟩
    have k1 : (q - r - e0).toNat = (q - min q r).toNat + K := by omega
    have k2 : 52 + (-52 - Jvm.FP.Core.b64.qmin).toNat + (Jvm.FP.Core.b64.qmin - e0).toNat = (r - min q r).toNat + K := by rw [hq]; omega
    have h3 := Nat.mul_le_mul_right (2 ^ K) hu
    unfold Jvm.FP.Core.inUnits at h3 ⊢
    rw [k1]
    calc c * 2 ^ ((q - min q r).toNat + K) = c * 2 ^ (q - min q r).toNat * 2 ^ K := by rw [Nat.pow_add, Nat.mul_assoc]
      _ ≤ d * 2 ^ (r - min q r).toNat * 2 ^ K := h3
      _ = d * 2 ^ ((r - min q r).toNat + K) := by rw [Nat.pow_add, Nat.mul_assoc]
      _ = d * 2 ^ (52 + (-52 - Jvm.FP.Core.b64.qmin).toNat + (Jvm.FP.Core.b64.qmin - e0).toNat) := by rw [k2]
      _ = 2 ^ 52 * 2 ^ (-52 - Jvm.FP.Core.b64.qmin).toNat * 2 ^ (Jvm.FP.Core.b64.qmin - e0).toNat * d := by rw [Nat.pow_add, Nat.pow_add, Nat.mul_comm]
theorem full_d {a b : Int32} (h0 : 0 ≤ a.toInt) (hab : a.toInt ≤ b.toInt) (hb : 0 < b.toInt) :
    Jvm.FP.Core.dIsNaN (Jvm.FP.Core.ddiv (Jvm.FP.Core.i2d a) (Jvm.FP.Core.i2d b)) = false ∧ (Jvm.FP.Core.dcmp (Jvm.FP.Core.ddiv (Jvm.FP.Core.i2d a) (Jvm.FP.Core.i2d b)) Jvm.FP.Core.dconst0 = some .gt ∨ Jvm.FP.Core.dcmp (Jvm.FP.Core.ddiv (Jvm.FP.Core.i2d a) (Jvm.FP.Core.i2d b)) Jvm.FP.Core.dconst0 = some .eq) ∧ (Jvm.FP.Core.dcmp (Jvm.FP.Core.ddiv (Jvm.FP.Core.i2d a) (Jvm.FP.Core.i2d b)) Jvm.FP.Core.dconst1 = some .lt ∨ Jvm.FP.Core.dcmp (Jvm.FP.Core.ddiv (Jvm.FP.Core.i2d a) (Jvm.FP.Core.i2d b)) Jvm.FP.Core.dconst1 = some .eq) := by
  obtain ⟨h1, h2, h3⟩ := full_core (Jvm.FP.Core.i2d_int a) (Jvm.FP.Core.i2d_int b) h0 hab hb
  rw [← Jvm.FP.Core.val64_ddiv] at h1 h2 h3
  have n0 : Jvm.FP.Core.val64 Jvm.FP.Core.dconst0 ≠ .nan := by rw [Jvm.FP.Core.val64_dconst0]; exact Jvm.FP.Core.Datum.noConfusion
  have n1 : Jvm.FP.Core.val64 Jvm.FP.Core.dconst1 ≠ .nan := by rw [Jvm.FP.Core.val64_dconst1]; exact Jvm.FP.Core.Datum.noConfusion
  have z0 : Jvm.FP.Core.zval Jvm.FP.Core.b64 (Jvm.FP.Core.val64 Jvm.FP.Core.dconst0) = 0 := by rw [Jvm.FP.Core.val64_dconst0]; rfl
  have c0 : Jvm.FP.Core.dcmp (Jvm.FP.Core.ddiv (Jvm.FP.Core.i2d a) (Jvm.FP.Core.i2d b)) Jvm.FP.Core.dconst0 = some (compare (Jvm.FP.Core.zval Jvm.FP.Core.b64 (Jvm.FP.Core.val64 (Jvm.FP.Core.ddiv (Jvm.FP.Core.i2d a) (Jvm.FP.Core.i2d b)))) (Jvm.FP.Core.zval Jvm.FP.Core.b64 (Jvm.FP.Core.val64 Jvm.FP.Core.dconst0))) := Jvm.FP.Core.order_zval Jvm.FP.Core.good_b64 (Jvm.FP.Core.val64_fits _) (Jvm.FP.Core.val64_fits _) h1 n0
  have c1 : Jvm.FP.Core.dcmp (Jvm.FP.Core.ddiv (Jvm.FP.Core.i2d a) (Jvm.FP.Core.i2d b)) Jvm.FP.Core.dconst1 = some (compare (Jvm.FP.Core.zval Jvm.FP.Core.b64 (Jvm.FP.Core.val64 (Jvm.FP.Core.ddiv (Jvm.FP.Core.i2d a) (Jvm.FP.Core.i2d b)))) (Jvm.FP.Core.zval Jvm.FP.Core.b64 (Jvm.FP.Core.val64 Jvm.FP.Core.dconst1))) := Jvm.FP.Core.order_zval Jvm.FP.Core.good_b64 (Jvm.FP.Core.val64_fits _) (Jvm.FP.Core.val64_fits _) h1 n1
  refine ⟨?_, ?_, ?_⟩
  · unfold Jvm.FP.Core.dIsNaN Jvm.FP.Core.isNaN
    exact decide_eq_false h1
  · rw [c0, z0]
    generalize Jvm.FP.Core.zval Jvm.FP.Core.b64 (Jvm.FP.Core.val64 (Jvm.FP.Core.ddiv (Jvm.FP.Core.i2d a) (Jvm.FP.Core.i2d b))) = z at h2 ⊢
    simp only [compare, compareOfLessAndEq]
    by_cases c : z = 0
    · right; rw [if_neg (by omega), if_pos c]
    · left; rw [if_neg (by omega), if_neg c]
  · rw [c1]
    generalize Jvm.FP.Core.zval Jvm.FP.Core.b64 (Jvm.FP.Core.val64 (Jvm.FP.Core.ddiv (Jvm.FP.Core.i2d a) (Jvm.FP.Core.i2d b))) = z at h3 ⊢
    generalize Jvm.FP.Core.zval Jvm.FP.Core.b64 (Jvm.FP.Core.val64 Jvm.FP.Core.dconst1) = o at h3 ⊢
    simp only [compare, compareOfLessAndEq]
    by_cases c : z = o
    · right; rw [if_neg (by omega), if_pos c]
    · left; rw [if_pos (by omega)]
end
