/-! how full, and the digest: models -/
section
variable {NP NJ NV : Nat} {w vv : Nat → Nat → Int32} {ck : Int32} {R : Nat → List Int32}
def fuStep (NP NJ : Nat) (w : Nat → Nat → Int32) (ck : Int32) (vv : Nat → Nat → Int32) (R : Nat → List Int32) (q : Int32 × Int32) (n : Nat) : Int32 × Int32 := (q.1 + tRide NP NJ w ck (vv n) (R n) 8, q.2 + tRide NP NJ w ck (vv n) (R n) 7 * vv n 1)
def fuFrom (NP NJ NV : Nat) (w : Nat → Nat → Int32) (ck : Int32) (vv : Nat → Nat → Int32) (R : Nat → List Int32) (n : Nat) (q : Int32 × Int32) : Int32 × Int32 := (List.range' n (NV - n)).foldl (fuStep NP NJ w ck vv R) q
theorem fuFrom_step {n : Nat} {q : Int32 × Int32} (h : n < NV) : fuFrom NP NJ NV w ck vv R n q = fuFrom NP NJ NV w ck vv R (n + 1) (fuStep NP NJ w ck vv R q n) := by
  unfold fuFrom
  rw [range_cons h]
  rfl
theorem fuFrom_end {n : Nat} {q : Int32 × Int32} (h : NV ≤ n) : fuFrom NP NJ NV w ck vv R n q = q := by
  unfold fuFrom
  rw [range_nil h]
  rfl
/-- what is carried against the room -/
def fuD (q : Int32 × Int32) : UInt64 := if q.2 = 0 then FP.dconst0 else FP.ddiv (FP.i2d q.1) (FP.i2d q.2)
theorem n64_of {r : UInt64} (h : Jvm.FP.Core.dIsNaN r = false) : vf_n64 r := by
  unfold vf_n64
  rw [UInt64.le_iff_toNat_le, UInt64.toNat_and]
  have h1 : (0x7fffffffffffffff : UInt64).toNat = 2 ^ 63 - 1 := by decide
  have h2 : (0x7ff0000000000000 : UInt64).toNat = 9218868437227405312 := by decide
  rw [h1, h2, Nat.and_two_pow_sub_one_eq_mod]
  rw [← Bool.not_eq_true, Jvm.FP.Core.isNaN_bits] at h
  omega
theorem fu_nn {a b : Int32} (h : ¬ b = 0) : vf_n64 (FP.ddiv (FP.i2d a) (FP.i2d b)) :=
  n64_of (Jvm.FP.Core.ddiv_out (Jvm.FP.Core.i2d_fin a).notNaN (Jvm.FP.Core.i2d_fin b) (fun q => Jvm.FP.Core.i2d_ne_zero h ((Jvm.FP.Core.zero_bits2 _).mp q)))
/-- the gain that a kind of change foresees, by the plan -/
def gF (NP NJ NV : Nat) (w : Nat → Nat → Int32) (ck : Int32) (vv : Nat → Nat → Int32) (R : Nat → List Int32) (S : Nat → Nat) (kd : Nat) : Int32 := (skF NP NJ NV w ck (ssFrom NP NJ NV w ck R 0 (vv, R)).1 R S kd (0, (ssFrom NP NJ NV w ck R 0 (vv, R)).2)).1
/-- a digest, a number further -/
def dS (d : Int64) (x : Int32) : Int64 := d * 31 + x.toInt64
def bI (b : Bool) : Int32 := if b = true then 1 else 0
def nzI (x : Int32) : Int32 := if x = 0 then 0 else 1
def dgS (NP NJ : Nat) (w : Nat → Nat → Int32) (ck : Int32) (v : Nat → Int32) (L : List Int32) (d : Int64) (k : Nat) : Int64 :=
  dS (dS (dS (dS (dS (dS d (jOf (L.getD k 0))) (bI (isF (L.getD k 0)))) (tRun NP NJ w ck v (L.take (k + 1)) 1)) (tRun NP NJ w ck v (L.take (k + 1)) 2)) (tRun NP NJ w ck v (L.take (k + 1)) 4)) (slF NP NJ w v L k (tRun NP NJ w ck v (L.take (k + 1)) 1))
def dgSF (NP NJ : Nat) (w : Nat → Nat → Int32) (ck : Int32) (v : Nat → Int32) (L : List Int32) (k : Nat) (d : Int64) : Int64 := (List.range' k (L.length - k)).foldl (dgS NP NJ w ck v L) d
theorem dgSF_step {v : Nat → Int32} {L : List Int32} {k : Nat} {d : Int64} (h : k < L.length) : dgSF NP NJ w ck v L k d = dgSF NP NJ w ck v L (k + 1) (dgS NP NJ w ck v L d k) := by
  unfold dgSF
  rw [range_cons h]
  rfl
theorem dgSF_end {v : Nat → Int32} {L : List Int32} {k : Nat} {d : Int64} (h : L.length ≤ k) : dgSF NP NJ w ck v L k d = d := by
  unfold dgSF
  rw [range_nil h]
  rfl
def dgH (NP NJ : Nat) (w : Nat → Nat → Int32) (ck : Int32) (v : Nat → Int32) (L : List Int32) (d : Int64) : Int64 :=
  dS (dS (dS (dS (dS (dS (dS d (nI L.length)) (v 6)) (tRide NP NJ w ck v L 1)) (tRide NP NJ w ck v L 6)) (nzI (tRide NP NJ w ck v L 9))) (tRide NP NJ w ck v L 7)) (tCost NP NJ w ck v L)
def dgV (NP NJ : Nat) (w : Nat → Nat → Int32) (ck : Int32) (v : Nat → Int32) (L : List Int32) (d : Int64) : Int64 := dgSF NP NJ w ck v L 0 (dgH NP NJ w ck v L d)
def dgVF (NP NJ NV : Nat) (w : Nat → Nat → Int32) (ck : Int32) (vv : Nat → Nat → Int32) (R : Nat → List Int32) (n : Nat) (d : Int64) : Int64 := (List.range' n (NV - n)).foldl (fun d n => dgV NP NJ w ck (vv n) (R n) d) d
theorem dgVF_step {n : Nat} {d : Int64} (h : n < NV) : dgVF NP NJ NV w ck vv R n d = dgVF NP NJ NV w ck vv R (n + 1) (dgV NP NJ w ck (vv n) (R n) d) := by
  unfold dgVF
  rw [range_cons h]
  rfl
theorem dgVF_end {n : Nat} {d : Int64} (h : NV ≤ n) : dgVF NP NJ NV w ck vv R n d = d := by
  unfold dgVF
  rw [range_nil h]
  rfl
def dgJ (NV : Nat) (vv : Nat → Nat → Int32) (R : Nat → List Int32) (d : Int64) (J : Nat) : Int64 := dS (dS d (carrF NV R (nI J))) (bI (boundF NV R vv (nI J)))
def dgJF (NJ NV : Nat) (vv : Nat → Nat → Int32) (R : Nat → List Int32) (J : Nat) (d : Int64) : Int64 := (List.range' J (NJ - J)).foldl (dgJ NV vv R) d
theorem dgJF_step {J : Nat} {d : Int64} (h : J < NJ) : dgJF NJ NV vv R J d = dgJF NJ NV vv R (J + 1) (dgJ NV vv R d J) := by
  unfold dgJF
  rw [range_cons h]
  rfl
theorem dgJF_end {J : Nat} {d : Int64} (h : NJ ≤ J) : dgJF NJ NV vv R J d = d := by
  unfold dgJF
  rw [range_nil h]
  rfl
def dg0 (NP NJ NV : Nat) (w : Nat → Nat → Int32) (ck : Int32) (vv : Nat → Nat → Int32) (R : Nat → List Int32) : Int64 := dS (dS (dS (dS (dS 58033 ck) (nI NP)) (nI NV)) (nI NJ)) (costF NP NJ NV w ck vv R)
def dgF (NP NJ NV : Nat) (w : Nat → Nat → Int32) (ck : Int32) (vv : Nat → Nat → Int32) (R : Nat → List Int32) (S : Nat → Nat) : Int64 :=
  dS (dS (dS (dS (dgJF NJ NV vv R 0 (dgVF NP NJ NV w ck vv R 0 (dg0 NP NJ NV w ck vv R))) (gF NP NJ NV w ck vv R S 0)) (gF NP NJ NV w ck vv R S 1)) (gF NP NJ NV w ck vv R S 2)) (gF NP NJ NV w ck vv R S 3)
end
