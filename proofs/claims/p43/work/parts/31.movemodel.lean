/-- kind 0 -/
def mvPut (NP NJ NV : Nat) (w : Nat → Nat → Int32) (ck : Int32) (vv : Nat → Nat → Int32) (R : Nat → List Int32) (S : Nat → Nat) (J K n : Nat) (row : List Int32) (q : IY) : IY :=
  if (siC NP NJ w ck (vv n) row (nI J) (S n) (gn NP NJ w ck (vv K) (rWithout (R K) (nI J)) - q.1)).2.1 = -1 then q
  else (gn NP NJ w ck (vv K) (rWithout (R K) (nI J)) - (siC NP NJ w ck (vv n) row (nI J) (S n) (gn NP NJ w ck (vv K) (rWithout (R K) (nI J)) - q.1)).2.1,
    kp2 NV K (if n = K then rWith row (nI J) (siC NP NJ w ck (vv n) row (nI J) (S n) (gn NP NJ w ck (vv K) (rWithout (R K) (nI J)) - q.1)).2.2.1.toNatClampNeg ((siC NP NJ w ck (vv n) row (nI J) (S n) (gn NP NJ w ck (vv K) (rWithout (R K) (nI J)) - q.1)).2.2.2.toNatClampNeg - 1) else rWithout (R K) (nI J))
      n (rWith row (nI J) (siC NP NJ w ck (vv n) row (nI J) (S n) (gn NP NJ w ck (vv K) (rWithout (R K) (nI J)) - q.1)).2.2.1.toNatClampNeg ((siC NP NJ w ck (vv n) row (nI J) (S n) (gn NP NJ w ck (vv K) (rWithout (R K) (nI J)) - q.1)).2.2.2.toNatClampNeg - 1)) R q.2)
def mvStep (NP NJ NV : Nat) (w : Nat → Nat → Int32) (ck : Int32) (vv : Nat → Nat → Int32) (R : Nat → List Int32) (S : Nat → Nat) (J K : Nat) (q : IY) (n : Nat) : IY :=
  if n = K then mvPut NP NJ NV w ck vv R S J K n (rWithout (R K) (nI J)) q
  else if tAllowed (tRide NP NJ w ck (vv K) (rWithout (R K) (nI J))) (vv K) = true then mvPut NP NJ NV w ck vv R S J K n (R n) q else q
def mvN (NP NJ NV : Nat) (w : Nat → Nat → Int32) (ck : Int32) (vv : Nat → Nat → Int32) (R : Nat → List Int32) (S : Nat → Nat) (J K n : Nat) (q : IY) : IY := (List.range' n (NV - n)).foldl (mvStep NP NJ NV w ck vv R S J K) q
theorem mvN_step {NP NJ NV : Nat} {w : Nat → Nat → Int32} {ck : Int32} {vv : Nat → Nat → Int32} {R : Nat → List Int32} {S : Nat → Nat} {J K n : Nat} {q : IY} (h : n < NV) : mvN NP NJ NV w ck vv R S J K n q = mvN NP NJ NV w ck vv R S J K (n + 1) (mvStep NP NJ NV w ck vv R S J K q n) := by
  unfold mvN
  rw [range_cons h]
  rfl
theorem mvN_end {NP NJ NV : Nat} {w : Nat → Nat → Int32} {ck : Int32} {vv : Nat → Nat → Int32} {R : Nat → List Int32} {S : Nat → Nat} {J K n : Nat} {q : IY} (h : NV ≤ n) : mvN NP NJ NV w ck vv R S J K n q = q := by
  unfold mvN
  rw [range_nil h]
  rfl
def mvOne (NP NJ NV : Nat) (w : Nat → Nat → Int32) (ck : Int32) (vv : Nat → Nat → Int32) (R : Nat → List Int32) (S : Nat → Nat) (q : IY) (J : Nat) : IY :=
  if carrF NV R (nI J) < 0 then q else if nI NV ≤ carrF NV R (nI J) then q else if boundF NV R vv (nI J) = true then q else mvN NP NJ NV w ck vv R S J (carrF NV R (nI J)).toNatClampNeg 0 q
def mvJ (NP NJ NV : Nat) (w : Nat → Nat → Int32) (ck : Int32) (vv : Nat → Nat → Int32) (R : Nat → List Int32) (S : Nat → Nat) (J : Nat) (q : IY) : IY := (List.range' J (NJ - J)).foldl (mvOne NP NJ NV w ck vv R S) q
theorem mvJ_step {NP NJ NV : Nat} {w : Nat → Nat → Int32} {ck : Int32} {vv : Nat → Nat → Int32} {R : Nat → List Int32} {S : Nat → Nat} {J : Nat} {q : IY} (h : J < NJ) : mvJ NP NJ NV w ck vv R S J q = mvJ NP NJ NV w ck vv R S (J + 1) (mvOne NP NJ NV w ck vv R S q J) := by
  unfold mvJ
  rw [range_cons h]
  rfl
theorem mvJ_end {NP NJ NV : Nat} {w : Nat → Nat → Int32} {ck : Int32} {vv : Nat → Nat → Int32} {R : Nat → List Int32} {S : Nat → Nat} {J : Nat} {q : IY} (h : NJ ≤ J) : mvJ NP NJ NV w ck vv R S J q = q := by
  unfold mvJ
  rw [range_nil h]
  rfl
/-- the indices of what was found, as written where it is kept -/
theorem found_ix {NP NJ : Nat} {w : Nat → Nat → Int32} {ck : Int32} {v : Nat → Int32} {L : List Int32} {j : Int32} {S : Nat} {lim : Int32} {uf : Nat → Int32} (h4 : (siC NP NJ w ck v L j S lim).2.1 = uf 4) (h23 : ¬ uf 4 = -1 → (siC NP NJ w ck v L j S lim).2.2.1 = uf 2 ∧ (siC NP NJ w ck v L j S lim).2.2.2 = uf 3) (hn : ¬ uf 4 = -1) :
    ∃ a b : Nat, uf 2 = nI a ∧ uf 3 = nI (b + 1) ∧ a ≤ b ∧ b ≤ L.length ∧ (siC NP NJ w ck v L j S lim).2.2.1 = nI a ∧ (siC NP NJ w ck v L j S lim).2.2.2 = nI (b + 1) := by
  obtain ⟨a, b, h1, h2, h3⟩ := siC_ix (by rw [h4]; exact hn)
  have e1 := congrArg Prod.fst h1
  have e2 := congrArg Prod.snd h1
  exact ⟨a, b, (h23 hn).1.symm.trans e1, (h23 hn).2.symm.trans e2, h2, h3, e1, e2⟩
