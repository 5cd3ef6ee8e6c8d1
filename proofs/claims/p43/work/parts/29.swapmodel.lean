/-- kind 1 -/
def swStep (NP NJ NV : Nat) (w : Nat → Nat → Int32) (ck : Int32) (vv : Nat → Nat → Int32) (R : Nat → List Int32) (J1 : Nat) (q : IY) (J2 : Nat) : IY :=
  if carrF NV R (nI J1) < 0 then q else if nI NV ≤ carrF NV R (nI J1) then q else if carrF NV R (nI J2) < 0 then q else if carrF NV R (nI J2) < nI NV then
    (if boundF NV R vv (nI J1) = true then q else if boundF NV R vv (nI J2) = true then q else
      off2 NP NJ NV w ck vv R (carrF NV R (nI J1)).toNatClampNeg ((R (carrF NV R (nI J1)).toNatClampNeg).map (rSwap (nI J1) (nI J2))) (carrF NV R (nI J2)).toNatClampNeg ((R (carrF NV R (nI J2)).toNatClampNeg).map (rSwap (nI J1) (nI J2))) q)
  else q
def swK (NP NJ NV : Nat) (w : Nat → Nat → Int32) (ck : Int32) (vv : Nat → Nat → Int32) (R : Nat → List Int32) (J1 J2 : Nat) (q : IY) : IY := (List.range' J2 (NJ - J2)).foldl (swStep NP NJ NV w ck vv R J1) q
def swJ (NP NJ NV : Nat) (w : Nat → Nat → Int32) (ck : Int32) (vv : Nat → Nat → Int32) (R : Nat → List Int32) (J1 : Nat) (q : IY) : IY := (List.range' J1 (NJ - J1)).foldl (fun q J1 => swK NP NJ NV w ck vv R J1 (J1 + 1) q) q
theorem swK_step {NP NJ NV : Nat} {w : Nat → Nat → Int32} {ck : Int32} {vv : Nat → Nat → Int32} {R : Nat → List Int32} {J1 J2 : Nat} {q : IY} (h : J2 < NJ) : swK NP NJ NV w ck vv R J1 J2 q = swK NP NJ NV w ck vv R J1 (J2 + 1) (swStep NP NJ NV w ck vv R J1 q J2) := by
  unfold swK
  rw [range_cons h]
  rfl
theorem swK_end {NP NJ NV : Nat} {w : Nat → Nat → Int32} {ck : Int32} {vv : Nat → Nat → Int32} {R : Nat → List Int32} {J1 J2 : Nat} {q : IY} (h : NJ ≤ J2) : swK NP NJ NV w ck vv R J1 J2 q = q := by
  unfold swK
  rw [range_nil h]
  rfl
theorem swJ_step {NP NJ NV : Nat} {w : Nat → Nat → Int32} {ck : Int32} {vv : Nat → Nat → Int32} {R : Nat → List Int32} {J1 : Nat} {q : IY} (h : J1 < NJ) : swJ NP NJ NV w ck vv R J1 q = swJ NP NJ NV w ck vv R (J1 + 1) (swK NP NJ NV w ck vv R J1 (J1 + 1) q) := by
  unfold swJ
  rw [range_cons h]
  rfl
theorem swJ_end {NP NJ NV : Nat} {w : Nat → Nat → Int32} {ck : Int32} {vv : Nat → Nat → Int32} {R : Nat → List Int32} {J1 : Nat} {q : IY} (h : NJ ≤ J1) : swJ NP NJ NV w ck vv R J1 q = q := by
  unfold swJ
  rw [range_nil h]
  rfl
