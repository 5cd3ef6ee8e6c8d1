/-! what a search keeps, by the two rows that are tried -/
def kp2Step (a : Nat) (La : List Int32) (b : Nat) (Lb : List Int32) (R : Nat → List Int32) (Y : Nat → List Int32) (n : Nat) : Nat → List Int32 := va_up Y n (if n = a then La else if n = b then Lb else R n)
def kp2 (NV a : Nat) (La : List Int32) (b : Nat) (Lb : List Int32) (R : Nat → List Int32) (Y : Nat → List Int32) : Nat → List Int32 := (List.range' 0 NV).foldl (kp2Step a La b Lb R) Y
theorem kp2_of {NV a b : Nat} {R X Y : Nat → List Int32} : kpFrom NV a b R X 0 Y = kp2 NV a (X a) b (X b) R Y := by
  unfold kpFrom kp2
  congr 1
  funext Y n
  unfold kpStep kp2Step
  congr 1
  split
  · rename_i h; rw [h]
  · split
    · rename_i h; rw [h]
    · rfl
abbrev IY : Type := Int32 × (Nat → List Int32)
def gn (NP NJ : Nat) (w : Nat → Nat → Int32) (ck : Int32) (v : Nat → Int32) (L : List Int32) : Int32 := v 7 - tCost NP NJ w ck v L
def off2 (NP NJ NV : Nat) (w : Nat → Nat → Int32) (ck : Int32) (vv : Nat → Nat → Int32) (R : Nat → List Int32) (a : Nat) (La : List Int32) (b : Nat) (Lb : List Int32) (q : IY) : IY :=
  if tAllowed (tRide NP NJ w ck (vv a) La) (vv a) = true then
    if b = a then (if gn NP NJ w ck (vv a) La ≤ q.1 then q else (gn NP NJ w ck (vv a) La, kp2 NV a La b Lb R q.2))
    else if tAllowed (tRide NP NJ w ck (vv b) Lb) (vv b) = true then
      (if gn NP NJ w ck (vv a) La + gn NP NJ w ck (vv b) Lb ≤ q.1 then q else (gn NP NJ w ck (vv a) La + gn NP NJ w ck (vv b) Lb, kp2 NV a La b Lb R q.2))
    else q
  else q
/-- kind 2 -/
def trStep (NP NJ NV : Nat) (w : Nat → Nat → Int32) (ck : Int32) (vv : Nat → Nat → Int32) (R : Nat → List Int32) (n i : Nat) (q : IY) (k : Nat) : IY := if rHolds (R n) i k = true then q else off2 NP NJ NV w ck vv R n (rTurned (R n) i k) n (rTurned (R n) i k) q
def trK (NP NJ NV : Nat) (w : Nat → Nat → Int32) (ck : Int32) (vv : Nat → Nat → Int32) (R : Nat → List Int32) (n i k : Nat) (q : IY) : IY := (List.range' k ((R n).length - k)).foldl (trStep NP NJ NV w ck vv R n i) q
def trI (NP NJ NV : Nat) (w : Nat → Nat → Int32) (ck : Int32) (vv : Nat → Nat → Int32) (R : Nat → List Int32) (n i : Nat) (q : IY) : IY := (List.range' i ((R n).length - i)).foldl (fun q i => trK NP NJ NV w ck vv R n i (i + 1) q) q
def trN (NP NJ NV : Nat) (w : Nat → Nat → Int32) (ck : Int32) (vv : Nat → Nat → Int32) (R : Nat → List Int32) (S : Nat → Nat) (n : Nat) (q : IY) : IY := (List.range' n (NV - n)).foldl (fun q n => trI NP NJ NV w ck vv R n (S n) q) q
theorem trK_step {NP NJ NV : Nat} {w : Nat → Nat → Int32} {ck : Int32} {vv : Nat → Nat → Int32} {R : Nat → List Int32} {n i k : Nat} {q : IY} (h : k < (R n).length) : trK NP NJ NV w ck vv R n i k q = trK NP NJ NV w ck vv R n i (k + 1) (trStep NP NJ NV w ck vv R n i q k) := by
  unfold trK
  rw [range_cons h]
  rfl
theorem trK_end {NP NJ NV : Nat} {w : Nat → Nat → Int32} {ck : Int32} {vv : Nat → Nat → Int32} {R : Nat → List Int32} {n i k : Nat} {q : IY} (h : (R n).length ≤ k) : trK NP NJ NV w ck vv R n i k q = q := by
  unfold trK
  rw [range_nil h]
  rfl
theorem trI_step {NP NJ NV : Nat} {w : Nat → Nat → Int32} {ck : Int32} {vv : Nat → Nat → Int32} {R : Nat → List Int32} {n i : Nat} {q : IY} (h : i < (R n).length) : trI NP NJ NV w ck vv R n i q = trI NP NJ NV w ck vv R n (i + 1) (trK NP NJ NV w ck vv R n i (i + 1) q) := by
  unfold trI
  rw [range_cons h]
  rfl
theorem trI_end {NP NJ NV : Nat} {w : Nat → Nat → Int32} {ck : Int32} {vv : Nat → Nat → Int32} {R : Nat → List Int32} {n i : Nat} {q : IY} (h : (R n).length ≤ i) : trI NP NJ NV w ck vv R n i q = q := by
  unfold trI
  rw [range_nil h]
  rfl
theorem trN_step {NP NJ NV : Nat} {w : Nat → Nat → Int32} {ck : Int32} {vv : Nat → Nat → Int32} {R : Nat → List Int32} {S : Nat → Nat} {n : Nat} {q : IY} (h : n < NV) : trN NP NJ NV w ck vv R S n q = trN NP NJ NV w ck vv R S (n + 1) (trI NP NJ NV w ck vv R n (S n) q) := by
  unfold trN
  rw [range_cons h]
  rfl
theorem trN_end {NP NJ NV : Nat} {w : Nat → Nat → Int32} {ck : Int32} {vv : Nat → Nat → Int32} {R : Nat → List Int32} {S : Nat → Nat} {n : Nat} {q : IY} (h : NV ≤ n) : trN NP NJ NV w ck vv R S n q = q := by
  unfold trN
  rw [range_nil h]
  rfl
/-- kind 3 -/
def enStep (NP NJ NV : Nat) (w : Nat → Nat → Int32) (ck : Int32) (vv : Nat → Nat → Int32) (R : Nat → List Int32) (a b i : Nat) (q : IY) (k : Nat) : IY :=
  if rSplits (R a) i = true then q else if rSplits (R b) k = true then q else off2 NP NJ NV w ck vv R a (rJoined (R a) (R b) i k) b (rJoined (R b) (R a) k i) q
def enK (NP NJ NV : Nat) (w : Nat → Nat → Int32) (ck : Int32) (vv : Nat → Nat → Int32) (R : Nat → List Int32) (a b i k : Nat) (q : IY) : IY := (List.range' k ((R b).length + 1 - k)).foldl (enStep NP NJ NV w ck vv R a b i) q
def enI (NP NJ NV : Nat) (w : Nat → Nat → Int32) (ck : Int32) (vv : Nat → Nat → Int32) (R : Nat → List Int32) (S : Nat → Nat) (a b i : Nat) (q : IY) : IY := (List.range' i ((R a).length + 1 - i)).foldl (fun q i => enK NP NJ NV w ck vv R a b i (S b) q) q
def enB (NP NJ NV : Nat) (w : Nat → Nat → Int32) (ck : Int32) (vv : Nat → Nat → Int32) (R : Nat → List Int32) (S : Nat → Nat) (a b : Nat) (q : IY) : IY := (List.range' b (NV - b)).foldl (fun q b => enI NP NJ NV w ck vv R S a b (S a) q) q
def enA (NP NJ NV : Nat) (w : Nat → Nat → Int32) (ck : Int32) (vv : Nat → Nat → Int32) (R : Nat → List Int32) (S : Nat → Nat) (a : Nat) (q : IY) : IY := (List.range' a (NV - a)).foldl (fun q a => enB NP NJ NV w ck vv R S a (a + 1) q) q
theorem enK_step {NP NJ NV : Nat} {w : Nat → Nat → Int32} {ck : Int32} {vv : Nat → Nat → Int32} {R : Nat → List Int32} {a b i k : Nat} {q : IY} (h : k ≤ (R b).length) : enK NP NJ NV w ck vv R a b i k q = enK NP NJ NV w ck vv R a b i (k + 1) (enStep NP NJ NV w ck vv R a b i q k) := by
  unfold enK
  rw [range_cons (show k < (R b).length + 1 by omega)]
  rfl
theorem enK_end {NP NJ NV : Nat} {w : Nat → Nat → Int32} {ck : Int32} {vv : Nat → Nat → Int32} {R : Nat → List Int32} {a b i k : Nat} {q : IY} (h : (R b).length < k) : enK NP NJ NV w ck vv R a b i k q = q := by
  unfold enK
  rw [range_nil (by omega)]
  rfl
theorem enI_step {NP NJ NV : Nat} {w : Nat → Nat → Int32} {ck : Int32} {vv : Nat → Nat → Int32} {R : Nat → List Int32} {S : Nat → Nat} {a b i : Nat} {q : IY} (h : i ≤ (R a).length) : enI NP NJ NV w ck vv R S a b i q = enI NP NJ NV w ck vv R S a b (i + 1) (enK NP NJ NV w ck vv R a b i (S b) q) := by
  unfold enI
  rw [range_cons (show i < (R a).length + 1 by omega)]
  rfl
theorem enI_end {NP NJ NV : Nat} {w : Nat → Nat → Int32} {ck : Int32} {vv : Nat → Nat → Int32} {R : Nat → List Int32} {S : Nat → Nat} {a b i : Nat} {q : IY} (h : (R a).length < i) : enI NP NJ NV w ck vv R S a b i q = q := by
  unfold enI
  rw [range_nil (by omega)]
  rfl
theorem enB_step {NP NJ NV : Nat} {w : Nat → Nat → Int32} {ck : Int32} {vv : Nat → Nat → Int32} {R : Nat → List Int32} {S : Nat → Nat} {a b : Nat} {q : IY} (h : b < NV) : enB NP NJ NV w ck vv R S a b q = enB NP NJ NV w ck vv R S a (b + 1) (enI NP NJ NV w ck vv R S a b (S a) q) := by
  unfold enB
  rw [range_cons h]
  rfl
theorem enB_end {NP NJ NV : Nat} {w : Nat → Nat → Int32} {ck : Int32} {vv : Nat → Nat → Int32} {R : Nat → List Int32} {S : Nat → Nat} {a b : Nat} {q : IY} (h : NV ≤ b) : enB NP NJ NV w ck vv R S a b q = q := by
  unfold enB
  rw [range_nil h]
  rfl
theorem enA_step {NP NJ NV : Nat} {w : Nat → Nat → Int32} {ck : Int32} {vv : Nat → Nat → Int32} {R : Nat → List Int32} {S : Nat → Nat} {a : Nat} {q : IY} (h : a < NV) : enA NP NJ NV w ck vv R S a q = enA NP NJ NV w ck vv R S (a + 1) (enB NP NJ NV w ck vv R S a (a + 1) q) := by
  unfold enA
  rw [range_cons h]
  rfl
theorem enA_end {NP NJ NV : Nat} {w : Nat → Nat → Int32} {ck : Int32} {vv : Nat → Nat → Int32} {R : Nat → List Int32} {S : Nat → Nat} {a : Nat} {q : IY} (h : NV ≤ a) : enA NP NJ NV w ck vv R S a q = q := by
  unfold enA
  rw [range_nil h]
  rfl
