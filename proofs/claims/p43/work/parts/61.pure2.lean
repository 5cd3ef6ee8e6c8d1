/-! the facts, in whole numbers -/
def DI (w : Nat → Nat → Int32) (p q : Nat) : Int := (w 2 (p * 12 + q)).toInt
def plc (w : Nat → Nat → Int32) (s : Nat) : Nat := (w 4 s).toNatClampNeg
def gOk (NP : Nat) (w : Nat → Nat → Int32) : Prop := NP ≤ 12 ∧ (∀ p, p < NP → 0 ≤ (w 0 p).toInt ∧ (w 0 p).toInt ≤ 60 ∧ 0 ≤ (w 1 p).toInt ∧ (w 1 p).toInt ≤ 60) ∧
  ∀ p q, p < NP → q < NP → DI w p q = (max ((w 0 p).toInt - (w 0 q).toInt) ((w 0 q).toInt - (w 0 p).toInt)) + (max ((w 1 p).toInt - (w 1 q).toInt) ((w 1 q).toInt - (w 1 p).toInt))
def sOk (NP : Nat) (w : Nat → Nat → Int32) (s : Nat) : Prop := (∃ p, p < NP ∧ w 4 s = nI p) ∧ (0 ≤ (w 7 s).toInt ∧ (w 7 s).toInt ≤ 30) ∧ (0 ≤ (w 5 s).toInt ∧ (w 5 s).toInt ≤ 1440) ∧ (0 ≤ (w 6 s).toInt ∧ (w 6 s).toInt ≤ 1440) ∧ (-20 ≤ (w 8 s).toInt ∧ (w 8 s).toInt ≤ 20)
def jOk (NP NJ : Nat) (w : Nat → Nat → Int32) : Prop := NJ ≤ 9 ∧ (∀ s, s < 2 * NJ → sOk NP w s) ∧ ∀ J, J < NJ → 1 ≤ (w 8 (2 * J)).toInt ∧ (w 8 (2 * J + 1)).toInt = - (w 8 (2 * J)).toInt ∧ 0 ≤ (w 3 J).toInt ∧ (w 3 J).toInt ≤ 999
def vOk (NP : Nat) (v : Nat → Int32) : Prop := (∃ h, h < NP ∧ v 0 = nI h) ∧ (1 ≤ (v 1).toInt ∧ (v 1).toInt ≤ 50) ∧ (0 ≤ (v 2).toInt ∧ (v 2).toInt ≤ (v 3).toInt ∧ (v 3).toInt ≤ 1440) ∧ (1 ≤ (v 4).toInt ∧ (v 4).toInt ≤ 9) ∧ (0 ≤ (v 5).toInt ∧ (v 5).toInt ≤ 200)
section
variable {NP NJ : Nat} {w : Nat → Nat → Int32}
theorem gOk.rng (h : gOk NP w) {p q : Nat} (hp : p < NP) (hq : q < NP) : 0 ≤ DI w p q ∧ DI w p q ≤ 120 := by
  have h1 := h.2.1 p hp
  have h2 := h.2.1 q hq
  rw [h.2.2 p q hp hq]
  omega
theorem gOk.tri (h : gOk NP w) {p q r : Nat} (hp : p < NP) (hq : q < NP) (hr : r < NP) : DI w p r ≤ DI w p q + DI w q r := by
  rw [h.2.2 p q hp hq, h.2.2 q r hq hr, h.2.2 p r hp hr]
  omega
theorem gOk.self (h : gOk NP w) {p : Nat} (hp : p < NP) : DI w p p = 0 := by
  rw [h.2.2 p p hp hp]
  omega
theorem wayF_nI (h : gOk NP w) {p q : Nat} (hp : p < NP) (hq : q < NP) : (wayF NP (w 2) (nI p) (nI q)).toInt = DI w p q := by
  have h12 := h.1
  unfold wayF
  rw [if_neg (nI_pos (by omega)), if_neg (fun c => absurd ((nI_leN (by omega) (by omega)).mp c) (by omega)), if_neg (nI_pos (by omega)), if_pos (nI_lt hq (by omega))]
  rw [show (12 : Int32) = nI 12 from rfl, nI_mul, nI_add, nI_clamp (by omega)]
  rfl
theorem sOk_pl {s : Nat} (h : sOk NP w s) (h12 : NP ≤ 12) : plc w s < NP ∧ w 4 s = nI (plc w s) := by
  obtain ⟨⟨p, hp, e⟩, -⟩ := h
  have e2 : plc w s = p := by unfold plc; rw [e]; exact nI_clamp (by omega)
  rw [e2]; exact ⟨hp, e⟩
/-- a ride's numbers: place, arrives, begins, leaves, load, set stops, waited, length, carried, right -/
def ti (a0 a1 a2 a3 a4 a5 a6 a7 a8 a9 : Int) : Nat → Int := fun k => match k with
  | 0 => a0
  | 1 => a1
  | 2 => a2
  | 3 => a3
  | 4 => a4
  | 5 => a5
  | 6 => a6
  | 7 => a7
  | 8 => a8
  | _ => a9
def iArr (w : Nat → Nat → Int32) (T : Nat → Int) (s : Nat) : Int := T 3 + DI w (T 0).toNat (plc w s)
def iBeg (w : Nat → Nat → Int32) (T : Nat → Int) (s : Nat) : Int := max (iArr w T s) (w 5 s).toInt
def iV (w : Nat → Nat → Int32) (ck cap : Int) (T : Nat → Int) (s : Nat) : Nat → Int :=
  ti (plc w s) (iArr w T s) (iBeg w T s) (iBeg w T s + (w 7 s).toInt) (T 4 + (w 8 s).toInt) (if ck ≤ T 3 then T 5 else T 5 + 1) (T 6 + (iBeg w T s - iArr w T s)) (T 7 + DI w (T 0).toNat (plc w s)) (T 8 + DI w (T 0).toNat (plc w s) * T 4)
    (if (w 6 s).toInt < iBeg w T s then 0 else if T 4 + (w 8 s).toInt ≤ cap then T 9 else 0)
/-- the class's numbers are these, and how large they are after n stops -/
def iRel (NP n : Nat) (t : Nat → Int32) (T : Nat → Int) : Prop := (∀ k, k < 10 → (t k).toInt = T k) ∧ (∃ p : Nat, p < NP ∧ T 0 = p) ∧ (0 ≤ T 3 ∧ T 3 ≤ 1440 + 150 * n) ∧ (-(20 * n : Int) ≤ T 4 ∧ T 4 ≤ 20 * n) ∧ (0 ≤ T 5 ∧ T 5 ≤ n) ∧ (0 ≤ T 6 ∧ T 6 ≤ 1440 * n) ∧ (0 ≤ T 7 ∧ T 7 ≤ 120 * n) ∧ (-(45000 * n : Int) ≤ T 8 ∧ T 8 ≤ 45000 * n)
theorem toI_mx {a b : Int32} {A B : Int} (ha : a.toInt = A) (hb : b.toInt = B) : (mx a b).toInt = max A B := by
  unfold mx
  by_cases h : a < b
  · rw [if_pos h, hb]; have := (i_lt ha hb).mp h; omega
  · rw [if_neg h, ha]; have := (not_congr (i_lt ha hb)).mp h; omega
theorem isStopB_nI {s : Nat} (hJ : NJ ≤ 9) (h : s < 2 * NJ) : isStopB NJ (nI s) = true := by
  unfold isStopB
  rw [show (2 : Int32) = nI 2 from rfl, nI_mul]
  have h1 := nI_pos (n := s) (by omega)
  have h2 : ¬ nI (2 * NJ) ≤ nI s := fun c => absurd ((nI_leN (by omega) (by omega)).mp c) (by omega)
  simp [h1, h2]
theorem bMul {a b : Int} (h1 : 0 ≤ a) (h2 : a ≤ 120) (h3 : -360 ≤ b) (h4 : b ≤ 360) : -45000 ≤ a * b ∧ a * b ≤ 45000 := by
  have e1 : a * b ≤ a * 360 := Int.mul_le_mul_of_nonneg_left h4 h1
  have e2 : a * (-360) ≤ a * b := Int.mul_le_mul_of_nonneg_left h3 h1
  omega
theorem iV_step {n s : Nat} {ck cap : Int32} {t : Nat → Int32} {T : Nat → Int} (hg : gOk NP w) (hj : jOk NP NJ w) (hs : s < 2 * NJ) (hn : n < 18) (h : iRel NP n t T) : iRel NP (n + 1) (tVisit NP NJ w ck cap t (nI s)) (iV w ck.toInt cap.toInt T s) := by
  obtain ⟨hk, ⟨p, hp, hp0⟩, h3, h4, h5, h6, h7, h8⟩ := h
  have hso := hj.2.1 s hs
  obtain ⟨hq, eq⟩ := sOk_pl hso hg.1
  obtain ⟨-, hm, ho, hc, hl⟩ := hso
  have hw := hg.rng hp hq
  have e0 : t 0 = nI p := (i_eq (hk 0 (by omega)) (nI_toInt (by have := hg.1; omega))).mpr hp0
  have ec : (nI s).toNatClampNeg = s := nI_clamp (by have := hj.1; omega)
  have ew : (wayF NP (w 2) (t 0) (w 4 s)).toInt = DI w (T 0).toNat (plc w s) := by rw [e0, eq, hp0]; exact wayF_nI hg hp hq
  rw [hp0] at ew
  have et : ((p : Int)).toNat = p := Int.toNat_natCast p
  rw [et] at ew
  have ea : (t 3 + wayF NP (w 2) (t 0) (w 4 s)).toInt = T 3 + DI w p (plc w s) := i_add (hk 3 (by omega)) ew (by omega)
  have eb := toI_mx ea (rfl : (w 5 s).toInt = (w 5 s).toInt)
  have el := i_add (hk 4 (by omega)) (rfl : (w 8 s).toInt = (w 8 s).toInt) (by omega)
  have bm := bMul hw.1 hw.2 (b := T 4) (by omega) (by omega)
  have eA : iArr w T s = T 3 + DI w p (plc w s) := by unfold iArr; rw [hp0, et]
  have eB : iBeg w T s = max (T 3 + DI w p (plc w s)) (w 5 s).toInt := by unfold iBeg; rw [eA]
  have e8 : T 8 + DI w (T 0).toNat (plc w s) * T 4 = T 8 + DI w p (plc w s) * T 4 := by rw [hp0, et]
  unfold tVisit
  rw [if_pos (isStopB_nI hj.1 hs), ec]
  refine ⟨fun k hk9 => ?_, ⟨plc w s, hq, rfl⟩, ?_, ?_, ?_, ?_, ?_, ?_⟩
  · rcases (by omega : k = 0 ∨ k = 1 ∨ k = 2 ∨ k = 3 ∨ k = 4 ∨ k = 5 ∨ k = 6 ∨ k = 7 ∨ k = 8 ∨ k = 9) with rfl | rfl | rfl | rfl | rfl | rfl | rfl | rfl | rfl | rfl
    · show (w 4 s).toInt = _
      rw [eq]; exact nI_toInt (by have := hg.1; omega)
    · show _ = iArr w T s
      rw [eA]; exact ea
    · show _ = iBeg w T s
      rw [eB]; exact eb
    · show _ = iBeg w T s + (w 7 s).toInt
      rw [eB]; exact i_add eb rfl (by omega)
    · exact el
    · show (if ck ≤ t 3 then t 5 else t 5 + 1).toInt = (if ck.toInt ≤ T 3 then T 5 else T 5 + 1)
      by_cases hc9 : ck ≤ t 3
      · rw [if_pos hc9, if_pos ((i_le rfl (hk 3 (by omega))).mp hc9)]; exact hk 5 (by omega)
      · rw [if_neg hc9, if_neg ((not_congr (i_le rfl (hk 3 (by omega)))).mp hc9)]; exact i_add (hk 5 (by omega)) rfl (by have : (1 : Int32).toInt = 1 := rfl; omega)
    · show _ = T 6 + (iBeg w T s - iArr w T s)
      rw [eB, eA]; exact i_add (hk 6 (by omega)) (i_sub eb ea (by omega)) (by omega)
    · show _ = T 7 + DI w (T 0).toNat (plc w s)
      rw [hp0, et]; exact i_add (hk 7 (by omega)) ew (by omega)
    · show _ = T 8 + DI w (T 0).toNat (plc w s) * T 4
      rw [e8]; exact i_add (hk 8 (by omega)) (i_mul ew (hk 4 (by omega)) (by omega)) (by omega)
    · show (if _ < _ then (0 : Int32) else if _ ≤ cap then t 9 else 0).toInt = (if (w 6 s).toInt < iBeg w T s then 0 else if T 4 + (w 8 s).toInt ≤ cap.toInt then T 9 else 0)
      rw [eB]
      by_cases c1 : w 6 s < mx (t 3 + wayF NP (w 2) (t 0) (w 4 s)) (w 5 s)
      · rw [if_pos c1, if_pos ((i_lt rfl eb).mp c1)]; rfl
      · rw [if_neg c1, if_neg ((not_congr (i_lt rfl eb)).mp c1)]
        by_cases c2 : t 4 + w 8 s ≤ cap
        · rw [if_pos c2, if_pos ((i_le el rfl).mp c2)]; exact hk 9 (by omega)
        · rw [if_neg c2, if_neg ((not_congr (i_le el rfl)).mp c2)]; rfl
  · show 0 ≤ iBeg w T s + (w 7 s).toInt ∧ iBeg w T s + (w 7 s).toInt ≤ _
    rw [eB]; omega
  · show _ ≤ T 4 + (w 8 s).toInt ∧ T 4 + (w 8 s).toInt ≤ _
    omega
  · show 0 ≤ (if ck.toInt ≤ T 3 then T 5 else T 5 + 1) ∧ (if ck.toInt ≤ T 3 then T 5 else T 5 + 1) ≤ _
    split <;> omega
  · show 0 ≤ T 6 + (iBeg w T s - iArr w T s) ∧ T 6 + (iBeg w T s - iArr w T s) ≤ _
    rw [eB, eA]; omega
  · show 0 ≤ T 7 + DI w (T 0).toNat (plc w s) ∧ T 7 + DI w (T 0).toNat (plc w s) ≤ _
    rw [hp0, et]; omega
  · show _ ≤ T 8 + DI w (T 0).toNat (plc w s) * T 4 ∧ T 8 + DI w (T 0).toNat (plc w s) * T 4 ≤ _
    rw [e8]; omega
end
