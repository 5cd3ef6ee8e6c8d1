/-! the best insertion of all vehicles, and its regret -/
abbrev I6 : Type := Int32 × Int32 × Int32 × Int32 × Int32 × Int32
def siRel (q r : I4) : Prop := q.1 = r.1 ∧ q.2.1 = r.2.1 ∧ (¬ q.2.1 = -1 → q.2.2 = r.2.2)
theorem siRel_step {NP NJ : Nat} {w : Nat → Nat → Int32} {ck : Int32} {v : Nat → Int32} {L : List Int32} {j : Int32} {i k : Nat} {q r : I4} (h : siRel q r) : siRel (siStep NP NJ w ck v L j i q k) (siStep NP NJ w ck v L j i r k) := by
  obtain ⟨h1, h2, h3⟩ := h
  unfold siStep
  rw [h1]
  split
  · split
    · exact ⟨rfl, rfl, fun _ => rfl⟩
    · exact ⟨h1, h2, h3⟩
  · exact ⟨h1, h2, h3⟩
theorem siRel_fold {NP NJ : Nat} {w : Nat → Nat → Int32} {ck : Int32} {v : Nat → Int32} {L : List Int32} {j : Int32} {i : Nat} : ∀ (l : List Nat) {q r : I4}, siRel q r → siRel (l.foldl (siStep NP NJ w ck v L j i) q) (l.foldl (siStep NP NJ w ck v L j i) r)
  | [], _, _, h => h
  | _ :: l, _, _, h => siRel_fold l (siRel_step h)
theorem siRel_fold2 {NP NJ : Nat} {w : Nat → Nat → Int32} {ck : Int32} {v : Nat → Int32} {L : List Int32} {j : Int32} : ∀ (l : List Nat) {q r : I4}, siRel q r → siRel (l.foldl (siIn NP NJ w ck v L j) q) (l.foldl (siIn NP NJ w ck v L j) r)
  | [], _, _, h => h
  | _ :: l, _, _, h => siRel_fold2 l (siRel_fold _ h)
/-- the best insertion into a row, whatever stood where it is kept -/
def siC (NP NJ : Nat) (w : Nat → Nat → Int32) (ck : Int32) (v : Nat → Int32) (L : List Int32) (j : Int32) (S : Nat) (lim : Int32) : I4 := siAll NP NJ w ck v L j S (lim, -1, 0, 0)
theorem si_can {NP NJ : Nat} {w : Nat → Nat → Int32} {ck : Int32} {v : Nat → Int32} {L : List Int32} {j : Int32} {S : Nat} {lim : Int32} {fd uf : Nat → Int32} (h : uf = fdSet fd (siAll NP NJ w ck v L j S (lim, -1, fd 2, fd 3))) :
    (siC NP NJ w ck v L j S lim).2.1 = uf 4 ∧ (¬ uf 4 = -1 → (siC NP NJ w ck v L j S lim).2.2.1 = uf 2 ∧ (siC NP NJ w ck v L j S lim).2.2.2 = uf 3) := by
  have hr : siRel (siAll NP NJ w ck v L j S (lim, -1, fd 2, fd 3)) (siC NP NJ w ck v L j S lim) := siRel_fold2 _ ⟨rfl, rfl, fun q => absurd rfl q⟩
  subst h
  refine ⟨hr.2.1.symm, fun q => ?_⟩
  have h3 := hr.2.2 q
  exact ⟨(congrArg Prod.fst h3).symm, (congrArg Prod.snd h3).symm⟩
theorem up_ok {X : Nat → List Int32} {xf : Nat → Nat → Int32} {L : List Int32} {f : Nat → Int32} (hX : ∀ k, rw_ok (X k) (xf k)) (h : rw_ok L f) (n : Nat) : ∀ k, rw_ok (va_up X n L k) (va_up xf n f k) := fun k => by
  unfold va_up
  by_cases e : k = n
  · rw [if_pos e, if_pos e]; exact h
  · rw [if_neg e, if_neg e]; exact hX k
def saStep (NP NJ : Nat) (w : Nat → Nat → Int32) (ck : Int32) (vv : Nat → Nat → Int32) (R : Nat → List Int32) (j : Int32) (S : Nat → Nat) (q : I6) (n : Nat) : I6 :=
  if (siC NP NJ w ck (vv n) (R n) j (S n) 1000000).2.1 = -1 then q
  else if q.1 ≤ (siC NP NJ w ck (vv n) (R n) j (S n) 1000000).2.1 then
    (if q.2.1 ≤ (siC NP NJ w ck (vv n) (R n) j (S n) 1000000).2.1 then q else (q.1, (siC NP NJ w ck (vv n) (R n) j (S n) 1000000).2.1, q.2.2))
  else ((siC NP NJ w ck (vv n) (R n) j (S n) 1000000).2.1, q.1, nI n, (siC NP NJ w ck (vv n) (R n) j (S n) 1000000).2.1, (siC NP NJ w ck (vv n) (R n) j (S n) 1000000).2.2.1, (siC NP NJ w ck (vv n) (R n) j (S n) 1000000).2.2.2)
def saFrom (NP NJ NV : Nat) (w : Nat → Nat → Int32) (ck : Int32) (vv : Nat → Nat → Int32) (R : Nat → List Int32) (j : Int32) (S : Nat → Nat) (n : Nat) (q : I6) : I6 := (List.range' n (NV - n)).foldl (saStep NP NJ w ck vv R j S) q
theorem saFrom_step {NP NJ NV : Nat} {w : Nat → Nat → Int32} {ck : Int32} {vv : Nat → Nat → Int32} {R : Nat → List Int32} {j : Int32} {S : Nat → Nat} {n : Nat} {q : I6} (h : n < NV) : saFrom NP NJ NV w ck vv R j S n q = saFrom NP NJ NV w ck vv R j S (n + 1) (saStep NP NJ w ck vv R j S q n) := by
  unfold saFrom
  rw [range_cons h]
  rfl
theorem saFrom_end {NP NJ NV : Nat} {w : Nat → Nat → Int32} {ck : Int32} {vv : Nat → Nat → Int32} {R : Nat → List Int32} {j : Int32} {S : Nat → Nat} {n : Nat} {q : I6} (h : NV ≤ n) : saFrom NP NJ NV w ck vv R j S n q = q := by
  unfold saFrom
  rw [range_nil h]
  rfl
def saBest (j : Int32) (q : I6) : Nat → Int32 := iv j q.2.2.1 q.2.2.2.2.1 q.2.2.2.2.2 q.2.2.2.1 (if q.2.1 = 1000000 then 9999 else q.2.1 - q.1)
