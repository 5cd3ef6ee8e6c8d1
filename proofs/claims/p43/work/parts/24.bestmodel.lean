/-! the start of a search, what it keeps, making it -/
theorem va_ne {A : Nat → Prop} {ws : va_W} (hD : va_D A ws) (i j : Nat) {p q : Nat × va_E} (hi : ws[i]? = some p) (hj : ws[j]? = some q) (h : i ≠ j) : p.1 ≠ q.1 := fun e => h (hD.1 i j p q hi hj e)
def jrStep (NP NJ : Nat) (w : Nat → Nat → Int32) (ck : Int32) (v : Nat → Int32) (L : List Int32) (q : Int32 × Int32 × Int32) (J : Nat) : Int32 × Int32 × Int32 :=
  if v 6 ≤ rFind L (fOf (nI J)) then
    if tRide NP NJ w ck v (rWithout L (nI J)) 9 = 0 then (nI J, q.2)
    else if q.2.1 = -1 then (nI J, nI J, tCost NP NJ w ck v (rWithout L (nI J)))
    else if q.2.2 ≤ tCost NP NJ w ck v (rWithout L (nI J)) then (nI J, q.2) else (nI J, nI J, tCost NP NJ w ck v (rWithout L (nI J)))
  else q
def jrFrom (NP NJ : Nat) (w : Nat → Nat → Int32) (ck : Int32) (v : Nat → Int32) (L : List Int32) (J : Nat) (q : Int32 × Int32 × Int32) : Int32 × Int32 × Int32 := (List.range' J (NJ - J)).foldl (jrStep NP NJ w ck v L) q
theorem jrFrom_step {NP NJ : Nat} {w : Nat → Nat → Int32} {ck : Int32} {v : Nat → Int32} {L : List Int32} {J : Nat} {q : Int32 × Int32 × Int32} (h : J < NJ) : jrFrom NP NJ w ck v L J q = jrFrom NP NJ w ck v L (J + 1) (jrStep NP NJ w ck v L q J) := by
  unfold jrFrom
  rw [range_cons h]
  rfl
theorem jrFrom_end {NP NJ : Nat} {w : Nat → Nat → Int32} {ck : Int32} {v : Nat → Int32} {L : List Int32} {J : Nat} {q : Int32 × Int32 × Int32} (h : NJ ≤ J) : jrFrom NP NJ w ck v L J q = q := by
  unfold jrFrom
  rw [range_nil h]
  rfl
def jrF (NP NJ : Nat) (w : Nat → Nat → Int32) (ck : Int32) (v : Nat → Int32) (L : List Int32) : Int32 := if (jrFrom NP NJ w ck v L 0 (-1, -1, 0)).2.1 = -1 then (jrFrom NP NJ w ck v L 0 (-1, -1, 0)).1 else (jrFrom NP NJ w ck v L 0 (-1, -1, 0)).2.1
/-- a vehicle with another cost told ahead -/
def vx (v : Nat → Int32) (b : Int32) : Nat → Int32 := fun k => if k = 7 then b else v k
def ssStep (NP NJ : Nat) (w : Nat → Nat → Int32) (ck : Int32) (R : Nat → List Int32) (q : (Nat → Nat → Int32) × (Nat → List Int32)) (n : Nat) : (Nat → Nat → Int32) × (Nat → List Int32) := (va_up q.1 n (vx (q.1 n) (tCost NP NJ w ck (q.1 n) (R n))), va_up q.2 n (R n))
def ssFrom (NP NJ NV : Nat) (w : Nat → Nat → Int32) (ck : Int32) (R : Nat → List Int32) (n : Nat) (q : (Nat → Nat → Int32) × (Nat → List Int32)) : (Nat → Nat → Int32) × (Nat → List Int32) := (List.range' n (NV - n)).foldl (ssStep NP NJ w ck R) q
theorem ssFrom_step {NP NJ NV : Nat} {w : Nat → Nat → Int32} {ck : Int32} {R : Nat → List Int32} {n : Nat} {q : (Nat → Nat → Int32) × (Nat → List Int32)} (h : n < NV) : ssFrom NP NJ NV w ck R n q = ssFrom NP NJ NV w ck R (n + 1) (ssStep NP NJ w ck R q n) := by
  unfold ssFrom
  rw [range_cons h]
  rfl
theorem ssFrom_end {NP NJ NV : Nat} {w : Nat → Nat → Int32} {ck : Int32} {R : Nat → List Int32} {n : Nat} {q : (Nat → Nat → Int32) × (Nat → List Int32)} (h : NV ≤ n) : ssFrom NP NJ NV w ck R n q = q := by
  unfold ssFrom
  rw [range_nil h]
  rfl
def mbStep (Y : Nat → List Int32) (R : Nat → List Int32) (n : Nat) : Nat → List Int32 := va_up R n (Y n)
def mbFrom (NV : Nat) (Y : Nat → List Int32) (n : Nat) (R : Nat → List Int32) : Nat → List Int32 := (List.range' n (NV - n)).foldl (mbStep Y) R
theorem mbFrom_step {NV : Nat} {Y : Nat → List Int32} {n : Nat} {R : Nat → List Int32} (h : n < NV) : mbFrom NV Y n R = mbFrom NV Y (n + 1) (mbStep Y R n) := by
  unfold mbFrom
  rw [range_cons h]
  rfl
theorem mbFrom_end {NV : Nat} {Y : Nat → List Int32} {n : Nat} {R : Nat → List Int32} (h : NV ≤ n) : mbFrom NV Y n R = R := by
  unfold mbFrom
  rw [range_nil h]
  rfl
def kpStep (a b : Nat) (R X : Nat → List Int32) (Y : Nat → List Int32) (n : Nat) : Nat → List Int32 := va_up Y n (if n = a then X n else if n = b then X n else R n)
def kpFrom (NV a b : Nat) (R X : Nat → List Int32) (n : Nat) (Y : Nat → List Int32) : Nat → List Int32 := (List.range' n (NV - n)).foldl (kpStep a b R X) Y
theorem kpFrom_step {NV a b : Nat} {R X : Nat → List Int32} {n : Nat} {Y : Nat → List Int32} (h : n < NV) : kpFrom NV a b R X n Y = kpFrom NV a b R X (n + 1) (kpStep a b R X Y n) := by
  unfold kpFrom
  rw [range_cons h]
  rfl
theorem kpFrom_end {NV a b : Nat} {R X : Nat → List Int32} {n : Nat} {Y : Nat → List Int32} (h : NV ≤ n) : kpFrom NV a b R X n Y = Y := by
  unfold kpFrom
  rw [range_nil h]
  rfl
