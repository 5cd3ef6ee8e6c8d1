/-! which job is put next, and putting it -/
theorem nI_ix {x : Int32} {N : Nat} (h1 : ¬ x < 0) (h2 : x < nI N) (hN : N < 2 ^ 31) : ∃ n, n < N ∧ x = nI n := by
  obtain ⟨j, hj, rfl⟩ := nI_of h1
  exact ⟨j, (nI_ltI hj hN).mp h2, rfl⟩
def putR (NV : Nat) (R : Nat → List Int32) (b : Nat → Int32) : Nat → List Int32 :=
  if b 1 < 0 then R else if b 1 < nI NV then va_up R (b 1).toNatClampNeg (rWith (R (b 1).toNatClampNeg) (b 0) (b 2).toNatClampNeg ((b 3).toNatClampNeg - 1)) else R
def putOk (NV : Nat) (R : Nat → List Int32) (b : Nat → Int32) : Prop := ∀ n, n < NV → b 1 = nI n → ∃ i k : Nat, b 2 = nI i ∧ b 3 = nI (k + 1) ∧ i ≤ k ∧ k ≤ (R n).length
theorem putR_at {NV : Nat} {R : Nat → List Int32} {b : Nat → Int32} {n i k : Nat} (h1 : ¬ b 1 < 0) (h2 : b 1 < nI NV) (hn : b 1 = nI n) (hb : n < 2 ^ 31) (hi : b 2 = nI i) (hk : b 3 = nI (k + 1)) (hib : i < 2 ^ 30) (hkb : k < 2 ^ 30) : putR NV R b = va_up R n (rWith (R n) (b 0) i k) := by
  unfold putR
  rw [if_neg h1, if_pos h2, hn, nI_clamp hb, hi, nI_clamp (by omega), hk, nI_clamp (by omega), Nat.add_sub_cancel]
def cmpB (b c : Nat → Int32) : Bool := decide (c 5 < b 5) || (decide (b 5 = c 5) && decide (b 4 < c 4))
def saRel (q r : I6) : Prop := q.1 = r.1 ∧ q.2.1 = r.2.1 ∧ q.2.2.1 = r.2.2.1 ∧ q.2.2.2.1 = r.2.2.2.1 ∧ (¬ q.2.2.2.1 = -1 → q.2.2.2.2 = r.2.2.2.2)
theorem saRel_step {NP NJ : Nat} {w : Nat → Nat → Int32} {ck : Int32} {vv : Nat → Nat → Int32} {R : Nat → List Int32} {j : Int32} {S : Nat → Nat} {q r : I6} {n : Nat} (h : saRel q r) : saRel (saStep NP NJ w ck vv R j S q n) (saStep NP NJ w ck vv R j S r n) := by
  obtain ⟨h1, h2, h3, h4, h5⟩ := h
  unfold saStep
  rw [h1, h2]
  split
  · exact ⟨h1, h2, h3, h4, h5⟩
  · split
    · split
      · exact ⟨h1, h2, h3, h4, h5⟩
      · exact ⟨rfl, rfl, h3, h4, h5⟩
    · exact ⟨rfl, rfl, rfl, rfl, fun _ => rfl⟩
theorem saRel_fold {NP NJ : Nat} {w : Nat → Nat → Int32} {ck : Int32} {vv : Nat → Nat → Int32} {R : Nat → List Int32} {j : Int32} {S : Nat → Nat} : ∀ (l : List Nat) {q r : I6}, saRel q r → saRel (l.foldl (saStep NP NJ w ck vv R j S) q) (l.foldl (saStep NP NJ w ck vv R j S) r)
  | [], _, _, h => h
  | _ :: l, _, _, h => saRel_fold l (saRel_step h)
/-- the best insertion of all vehicles, whatever stood where it is kept -/
def saC (NP NJ NV : Nat) (w : Nat → Nat → Int32) (ck : Int32) (vv : Nat → Nat → Int32) (R : Nat → List Int32) (j : Int32) (S : Nat → Nat) : Nat → Int32 := saBest j (saFrom NP NJ NV w ck vv R j S 0 (1000000, 1000000, -1, -1, 0, 0))
theorem sa_can {NP NJ NV : Nat} {w : Nat → Nat → Int32} {ck : Int32} {vv : Nat → Nat → Int32} {R : Nat → List Int32} {j : Int32} {S : Nat → Nat} {b2 b3 : Int32} {b : Nat → Int32} (h : b = saBest j (saFrom NP NJ NV w ck vv R j S 0 (1000000, 1000000, -1, -1, b2, b3))) :
    saC NP NJ NV w ck vv R j S 4 = b 4 ∧ (¬ b 4 = -1 → saC NP NJ NV w ck vv R j S = b) ∧ saC NP NJ NV w ck vv R j S 1 = b 1 := by
  have hr : saRel (saFrom NP NJ NV w ck vv R j S 0 (1000000, 1000000, -1, -1, b2, b3)) (saFrom NP NJ NV w ck vv R j S 0 (1000000, 1000000, -1, -1, 0, 0)) := saRel_fold _ ⟨rfl, rfl, rfl, rfl, fun q => absurd rfl q⟩
  subst h
  refine ⟨hr.2.2.2.1.symm, fun q => ?_, hr.2.2.1.symm⟩
  have h5 := hr.2.2.2.2 q
  unfold saC saBest
  rw [hr.1, hr.2.1, hr.2.2.1, hr.2.2.2.1, h5]
/-- the indices of an insertion that was found -/
theorem siStep_ix {NP NJ : Nat} {w : Nat → Nat → Int32} {ck : Int32} {v : Nat → Int32} {L : List Int32} {j : Int32} {i k : Nat} {q : I4} (hik : i ≤ k) (hk : k ≤ L.length) (h : q.2.1 = -1 ∨ ∃ a b : Nat, q.2.2 = (nI a, nI (b + 1)) ∧ a ≤ b ∧ b ≤ L.length) :
    (siStep NP NJ w ck v L j i q k).2.1 = -1 ∨ ∃ a b : Nat, (siStep NP NJ w ck v L j i q k).2.2 = (nI a, nI (b + 1)) ∧ a ≤ b ∧ b ≤ L.length := by
  unfold siStep
  split
  · split
    · exact Or.inr ⟨i, k, rfl, hik, hk⟩
    · exact h
  · exact h
theorem siIn_ix {NP NJ : Nat} {w : Nat → Nat → Int32} {ck : Int32} {v : Nat → Int32} {L : List Int32} {j : Int32} {i : Nat} : ∀ (n k : Nat) (q : I4), i ≤ k → k + n ≤ L.length + 1 → (q.2.1 = -1 ∨ ∃ a b : Nat, q.2.2 = (nI a, nI (b + 1)) ∧ a ≤ b ∧ b ≤ L.length) →
    (((List.range' k n).foldl (siStep NP NJ w ck v L j i) q).2.1 = -1 ∨ ∃ a b : Nat, ((List.range' k n).foldl (siStep NP NJ w ck v L j i) q).2.2 = (nI a, nI (b + 1)) ∧ a ≤ b ∧ b ≤ L.length)
  | 0, _, _, _, _, h => h
  | n + 1, k, q, h1, h2, h => by
    rw [List.range'_succ]
    exact siIn_ix n (k + 1) _ (by omega) (by omega) (siStep_ix h1 (by omega) h)
theorem siAll_ix {NP NJ : Nat} {w : Nat → Nat → Int32} {ck : Int32} {v : Nat → Int32} {L : List Int32} {j : Int32} : ∀ (n i : Nat) (q : I4), i + n ≤ L.length + 1 → (q.2.1 = -1 ∨ ∃ a b : Nat, q.2.2 = (nI a, nI (b + 1)) ∧ a ≤ b ∧ b ≤ L.length) →
    (((List.range' i n).foldl (siIn NP NJ w ck v L j) q).2.1 = -1 ∨ ∃ a b : Nat, ((List.range' i n).foldl (siIn NP NJ w ck v L j) q).2.2 = (nI a, nI (b + 1)) ∧ a ≤ b ∧ b ≤ L.length)
  | 0, _, _, _, h => h
  | n + 1, i, q, h2, h => by
    rw [List.range'_succ]
    refine siAll_ix n (i + 1) _ (by omega) ?_
    unfold siIn
    exact siIn_ix _ _ _ (Nat.le_refl _) (by omega) h
theorem siC_ix {NP NJ : Nat} {w : Nat → Nat → Int32} {ck : Int32} {v : Nat → Int32} {L : List Int32} {j : Int32} {S : Nat} {lim : Int32} (h : ¬ (siC NP NJ w ck v L j S lim).2.1 = -1) : ∃ a b : Nat, (siC NP NJ w ck v L j S lim).2.2 = (nI a, nI (b + 1)) ∧ a ≤ b ∧ b ≤ L.length := by
  unfold siC siAll at h ⊢
  rcases Nat.lt_or_ge L.length S with q | q
  · rw [range_nil (by omega)] at h
    exact absurd rfl h
  · exact (siAll_ix (L.length + 1 - S) S _ (by omega) (Or.inl rfl)).resolve_left h
def saIx (NV : Nat) (R : Nat → List Int32) (q : I6) : Prop := q.2.2.1 = -1 ∨ ∃ n, n < NV ∧ q.2.2.1 = nI n ∧ ∃ a b : Nat, q.2.2.2.2 = (nI a, nI (b + 1)) ∧ a ≤ b ∧ b ≤ (R n).length
theorem saStep_ix {NP NJ NV : Nat} {w : Nat → Nat → Int32} {ck : Int32} {vv : Nat → Nat → Int32} {R : Nat → List Int32} {j : Int32} {S : Nat → Nat} {q : I6} {n : Nat} (hn : n < NV) (h : saIx NV R q) : saIx NV R (saStep NP NJ w ck vv R j S q n) := by
  unfold saStep
  split
  · exact h
  · rename_i h0
    split
    · split
      · exact h
      · exact h
    · obtain ⟨a, b, h1, h2, h3⟩ := siC_ix h0
      exact Or.inr ⟨n, hn, rfl, a, b, h1, h2, h3⟩
theorem saFold_ix {NP NJ NV : Nat} {w : Nat → Nat → Int32} {ck : Int32} {vv : Nat → Nat → Int32} {R : Nat → List Int32} {j : Int32} {S : Nat → Nat} : ∀ (m n : Nat) (q : I6), n + m ≤ NV → saIx NV R q → saIx NV R ((List.range' n m).foldl (saStep NP NJ w ck vv R j S) q)
  | 0, _, _, _, h => h
  | m + 1, n, q, h2, h => by
    rw [List.range'_succ]
    exact saFold_ix m (n + 1) _ (by omega) (saStep_ix (by omega) h)
theorem saBest_ok {NP NJ NV : Nat} {w : Nat → Nat → Int32} {ck : Int32} {vv : Nat → Nat → Int32} {R : Nat → List Int32} {j : Int32} {S : Nat → Nat} (hNV : NV ≤ 3) (b2 b3 : Int32) : putOk NV R (saBest j (saFrom NP NJ NV w ck vv R j S 0 (1000000, 1000000, -1, -1, b2, b3))) := by
  intro n hn hb
  have h : saIx NV R (saFrom NP NJ NV w ck vv R j S 0 (1000000, 1000000, -1, -1, b2, b3)) := saFold_ix (NV - 0) 0 _ (by omega) (Or.inl rfl)
  have hb1 : (saFrom NP NJ NV w ck vv R j S 0 (1000000, 1000000, -1, -1, b2, b3)).2.2.1 = nI n := hb
  rcases h with h | ⟨m, hm, h1, a, b, h2, h3, h4⟩
  · rw [h] at hb1
    exact absurd hb1 (by rcases (show n = 0 ∨ n = 1 ∨ n = 2 by omega) with rfl | rfl | rfl <;> decide)
  · have e : m = n := (nI_eq (by omega) (by omega)).mp (h1.symm.trans hb1)
    subst e
    exact ⟨a, b, congrArg Prod.fst h2, congrArg Prod.snd h2, h3, h4⟩
def crStep (NP NJ NV : Nat) (w : Nat → Nat → Int32) (ck : Int32) (vv : Nat → Nat → Int32) (R : Nat → List Int32) (S : Nat → Nat) (q : Bool × (Nat → Int32)) (J : Nat) : Bool × (Nat → Int32) :=
  if carrF NV R (nI J) = -1 then
    if saC NP NJ NV w ck vv R (nI J) S 4 = -1 then q
    else if w 3 (nI J).toNatClampNeg ≤ saC NP NJ NV w ck vv R (nI J) S 4 then q
    else if q.1 = false then (true, saC NP NJ NV w ck vv R (nI J) S)
    else if cmpB (saC NP NJ NV w ck vv R (nI J) S) q.2 = true then (true, saC NP NJ NV w ck vv R (nI J) S) else q
  else q
def crFrom (NP NJ NV : Nat) (w : Nat → Nat → Int32) (ck : Int32) (vv : Nat → Nat → Int32) (R : Nat → List Int32) (S : Nat → Nat) (J : Nat) (q : Bool × (Nat → Int32)) : Bool × (Nat → Int32) := (List.range' J (NJ - J)).foldl (crStep NP NJ NV w ck vv R S) q
theorem crFrom_step {NP NJ NV : Nat} {w : Nat → Nat → Int32} {ck : Int32} {vv : Nat → Nat → Int32} {R : Nat → List Int32} {S : Nat → Nat} {J : Nat} {q : Bool × (Nat → Int32)} (h : J < NJ) : crFrom NP NJ NV w ck vv R S J q = crFrom NP NJ NV w ck vv R S (J + 1) (crStep NP NJ NV w ck vv R S q J) := by
  unfold crFrom
  rw [range_cons h]
  rfl
theorem crFrom_end {NP NJ NV : Nat} {w : Nat → Nat → Int32} {ck : Int32} {vv : Nat → Nat → Int32} {R : Nat → List Int32} {S : Nat → Nat} {J : Nat} {q : Bool × (Nat → Int32)} (h : NJ ≤ J) : crFrom NP NJ NV w ck vv R S J q = q := by
  unfold crFrom
  rw [range_nil h]
  rfl
section KStack
variable {p : Program} {l : Launch} {e : Env} {R : Room} {s : State} {m : MethodId} {args : Array Value} {below : List Frame} {meth : Method} {c : Code} {H : Heap} {locs : List Loc} {cells slots : Nat} {Q : State → Prop} {pc : Nat} {ls : Array Slot} {rest : List Value}
/-- the top of the stack by another name -/
theorem k_st1 {x y : Int32} (h : x = y) (kk : W p l e R s m args below meth c H locs cells slots Q (F0 m pc ls (.int y :: rest))) : W p l e R s m args below meth c H locs cells slots Q (F0 m pc ls (.int x :: rest)) := by
  subst h; exact kk
theorem k_st2 {x y x2 y2 : Int32} (h : x = y) (h2 : x2 = y2) (kk : W p l e R s m args below meth c H locs cells slots Q (F0 m pc ls (.int y :: .int y2 :: rest))) : W p l e R s m args below meth c H locs cells slots Q (F0 m pc ls (.int x :: .int x2 :: rest)) := by
  subst h; subst h2; exact kk
end KStack
