/-! the plan: who carries a job, what an insertion adds, slack -/
def mn (a b : Int32) : Int32 := if b < a then b else a
def carrF (NV : Nat) (R : Nat → List Int32) (j : Int32) : Int32 :=
  if nI NV ≤ nI 0 then -1 else if rFind (R 0) (fOf j) = -1 then
    (if nI NV ≤ nI 1 then -1 else if rFind (R 1) (fOf j) = -1 then
      (if nI NV ≤ nI 2 then -1 else if rFind (R 2) (fOf j) = -1 then -1 else nI 2) else nI 1) else nI 0
def boundF (NV : Nat) (R : Nat → List Int32) (vv : Nat → Nat → Int32) (j : Int32) : Bool :=
  if nI NV ≤ nI 0 then false else if rFind (R 0) (fOf j) = -1 then
    (if nI NV ≤ nI 1 then false else if rFind (R 1) (fOf j) = -1 then
      (if nI NV ≤ nI 2 then false else if rFind (R 2) (fOf j) = -1 then false else !decide (vv 2 6 ≤ rFind (R 2) (fOf j))) else !decide (vv 1 6 ≤ rFind (R 1) (fOf j))) else !decide (vv 0 6 ≤ rFind (R 0) (fOf j))
def movF (NV : Nat) (R : Nat → List Int32) (vv : Nat → Nat → Int32) (j : Int32) : Bool := !decide (carrF NV R j = -1) && !boundF NV R vv j
def detF (NP : Nat) (W : Nat → Int32) (a o b : Int32) : Int32 := (wayF NP W a o + wayF NP W o b) - wayF NP W a b
def placeF (NJ : Nat) (w : Nat → Nat → Int32) (v : Nat → Int32) (L : List Int32) (s : Int32) : Int32 := if isStopB NJ (rAt L s) = true then w 4 (rAt L s).toNatClampNeg else v 0
def addsF (NP NJ : Nat) (w : Nat → Nat → Int32) (v : Nat → Int32) (L : List Int32) (j i k : Int32) : Int32 :=
  v 4 * (if k = i + 1 then
      detF NP (w 2) (placeF NJ w v L (i - 1)) (w 4 (fOf j).toNatClampNeg) (placeF NJ w v L i) + detF NP (w 2) (w 4 (fOf j).toNatClampNeg) (w 4 (bOf j).toNatClampNeg) (placeF NJ w v L i)
    else detF NP (w 2) (placeF NJ w v L (i - 1)) (w 4 (fOf j).toNatClampNeg) (placeF NJ w v L i) + detF NP (w 2) (placeF NJ w v L (k - 2)) (w 4 (bOf j).toNatClampNeg) (placeF NJ w v L (k - 1)))
    + (if nI L.length = 0 then v 5 else 0)
theorem fOf_nI (J : Nat) : fOf (nI J) = nI (2 * J) := by unfold fOf; rw [show (2 : Int32) = nI 2 from rfl, nI_mul]
theorem bOf_nI (J : Nat) : bOf (nI J) = nI (2 * J + 1) := by unfold bOf; rw [show (2 : Int32) = nI 2 from rfl, nI_mul, nI_1]
theorem stop_b {NJ J : Nat} (hNJ : NJ ≤ 9) (h : J < NJ) : isStopB NJ (bOf (nI J)) = true := by
  unfold isStopB
  rw [bOf_nI, show (2 : Int32) * nI NJ = nI (2 * NJ) by rw [show (2 : Int32) = nI 2 from rfl, nI_mul]]
  simp only [Bool.and_eq_true, Bool.not_eq_true', decide_eq_false_iff_not]
  exact ⟨nI_pos (by omega), fun q => absurd ((nI_leI (by omega) (by omega)).mp q) (by omega)⟩
theorem f_in {NJ J : Nat} (hNJ : NJ ≤ 9) (h : J < NJ) : vp_in (fOf (nI J)) 18 := by rw [fOf_nI]; exact vp_in_nI (by omega) (by omega)
theorem b_in {NJ J : Nat} (hNJ : NJ ≤ 9) (h : J < NJ) : vp_in (bOf (nI J)) 18 := by rw [bOf_nI]; exact vp_in_nI (by omega) (by omega)
