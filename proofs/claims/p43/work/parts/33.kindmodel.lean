/-- the best change of a kind, over what is kept so far -/
def skF (NP NJ NV : Nat) (w : Nat → Nat → Int32) (ck : Int32) (vv : Nat → Nat → Int32) (R : Nat → List Int32) (S : Nat → Nat) (kd : Nat) (q : IY) : IY :=
  if kd = 0 then mvJ NP NJ NV w ck vv R S 0 q else if kd = 1 then swJ NP NJ NV w ck vv R 0 q else if kd = 2 then trN NP NJ NV w ck vv R S 0 q else enA NP NJ NV w ck vv R S 0 q
/-- how late one may arrive at the stop s, with n stops behind it yet to be looked at -/
def slStep (NP NJ : Nat) (w : Nat → Nat → Int32) (q : Int32 × Int32) (x : Int32) : Int32 × Int32 := (mn (w 6 x.toNatClampNeg) ((q.1 - wayF NP (w 2) (w 4 x.toNatClampNeg) q.2) - w 7 x.toNatClampNeg), w 4 x.toNatClampNeg)
def slGo (NP NJ : Nat) (w : Nat → Nat → Int32) (L : List Int32) (s : Nat) (arr : Int32) : Nat → Int32 × Int32 → Int32
  | 0, q => if arr ≤ q.1 then q.1 - arr else -1
  | n + 1, q => if isStopB NJ (L.getD (s + n) 0) = true then
      (if w 5 (L.getD (s + n) 0).toNatClampNeg ≤ (slStep NP NJ w q (L.getD (s + n) 0)).1 then slGo NP NJ w L s arr n (slStep NP NJ w q (L.getD (s + n) 0)) else -1)
    else -1
/-- slack of the stop s of a row, arr being when one arrives there -/
def slF (NP NJ : Nat) (w : Nat → Nat → Int32) (v : Nat → Int32) (L : List Int32) (s : Nat) (arr : Int32) : Int32 := slGo NP NJ w L s arr (L.length - s) (v 3, v 0)
theorem stop_k {NJ K : Nat} (h : K < 2 * NJ) (hNJ : NJ ≤ 9) : isStopB NJ (nI K) = true := by
  unfold isStopB
  rw [show (2 : Int32) * nI NJ = nI (2 * NJ) by rw [show (2 : Int32) = nI 2 from rfl, nI_mul]]
  simp only [Bool.and_eq_true, Bool.not_eq_true', decide_eq_false_iff_not]
  exact ⟨nI_pos (by omega), fun q => absurd ((nI_leI (by omega) (by omega)).mp q) (by omega)⟩
