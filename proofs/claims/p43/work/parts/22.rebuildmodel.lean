/-! rebuild; taking out; costs -/
def crRel (q r : Bool × (Nat → Int32)) : Prop := q.1 = r.1 ∧ (q.1 = true → q.2 = r.2)
theorem crRel_step {NP NJ NV : Nat} {w : Nat → Nat → Int32} {ck : Int32} {vv : Nat → Nat → Int32} {R : Nat → List Int32} {S : Nat → Nat} {q r : Bool × (Nat → Int32)} {J : Nat} (h : crRel q r) : crRel (crStep NP NJ NV w ck vv R S q J) (crStep NP NJ NV w ck vv R S r J) := by
  obtain ⟨h1, h2⟩ := h
  unfold crStep
  split
  · split
    · exact ⟨h1, h2⟩
    · split
      · exact ⟨h1, h2⟩
      · rw [← h1]
        split
        · exact ⟨rfl, fun _ => rfl⟩
        · rename_i hq
          rw [h2 (ts9.mp hq)]
          split
          · exact ⟨rfl, fun _ => rfl⟩
          · exact ⟨h1, h2⟩
  · exact ⟨h1, h2⟩
theorem crRel_fold {NP NJ NV : Nat} {w : Nat → Nat → Int32} {ck : Int32} {vv : Nat → Nat → Int32} {R : Nat → List Int32} {S : Nat → Nat} : ∀ (l : List Nat) {q r : Bool × (Nat → Int32)}, crRel q r → crRel (l.foldl (crStep NP NJ NV w ck vv R S) q) (l.foldl (crStep NP NJ NV w ck vv R S) r)
  | [], _, _, h => h
  | _ :: l, _, _, h => crRel_fold l (crRel_step h)
def crC (NP NJ NV : Nat) (w : Nat → Nat → Int32) (ck : Int32) (vv : Nat → Nat → Int32) (R : Nat → List Int32) (S : Nat → Nat) : Bool × (Nat → Int32) := crFrom NP NJ NV w ck vv R S 0 (false, fun _ => 0)
theorem cr_can {NP NJ NV : Nat} {w : Nat → Nat → Int32} {ck : Int32} {vv : Nat → Nat → Int32} {R : Nat → List Int32} {S : Nat → Nat} {co : Nat → Int32} : crRel (crFrom NP NJ NV w ck vv R S 0 (false, co)) (crC NP NJ NV w ck vv R S) := crRel_fold _ ⟨rfl, fun h => by cases h⟩
theorem crStep_ok {NP NJ NV : Nat} {w : Nat → Nat → Int32} {ck : Int32} {vv : Nat → Nat → Int32} {R : Nat → List Int32} {S : Nat → Nat} {q : Bool × (Nat → Int32)} {J : Nat} (hNV : NV ≤ 3) (h : q.1 = true → putOk NV R q.2) : (crStep NP NJ NV w ck vv R S q J).1 = true → putOk NV R (crStep NP NJ NV w ck vv R S q J).2 := by
  unfold crStep
  split
  · split
    · exact h
    · split
      · exact h
      · split
        · exact fun _ => saBest_ok hNV 0 0
        · split
          · exact fun _ => saBest_ok hNV 0 0
          · exact h
  · exact h
theorem crFold_ok {NP NJ NV : Nat} {w : Nat → Nat → Int32} {ck : Int32} {vv : Nat → Nat → Int32} {R : Nat → List Int32} {S : Nat → Nat} (hNV : NV ≤ 3) : ∀ (l : List Nat) {q : Bool × (Nat → Int32)}, (q.1 = true → putOk NV R q.2) → ((l.foldl (crStep NP NJ NV w ck vv R S) q).1 = true → putOk NV R (l.foldl (crStep NP NJ NV w ck vv R S) q).2)
  | [], _, h => h
  | _ :: l, _, h => crFold_ok hNV l (crStep_ok hNV h)
theorem cr_ok {NP NJ NV : Nat} {w : Nat → Nat → Int32} {ck : Int32} {vv : Nat → Nat → Int32} {R : Nat → List Int32} {S : Nat → Nat} {co : Nat → Int32} (hNV : NV ≤ 3) (h : (crFrom NP NJ NV w ck vv R S 0 (false, co)).1 = true) : putOk NV R (crFrom NP NJ NV w ck vv R S 0 (false, co)).2 := crFold_ok hNV _ (fun h => by cases h) h
def rbF (NP NJ NV : Nat) (w : Nat → Nat → Int32) (ck : Int32) (vv : Nat → Nat → Int32) (S : Nat → Nat) : Nat → (Nat → List Int32) → Nat × (Nat → List Int32)
  | 0, R => (0, R)
  | n + 1, R => if (crC NP NJ NV w ck vv R S).1 = true then ((rbF NP NJ NV w ck vv S n (putR NV R (crC NP NJ NV w ck vv R S).2)).1 + 1, (rbF NP NJ NV w ck vv S n (putR NV R (crC NP NJ NV w ck vv R S).2)).2) else (0, R)
theorem rbF_no {NP NJ NV : Nat} {w : Nat → Nat → Int32} {ck : Int32} {vv : Nat → Nat → Int32} {S : Nat → Nat} {n : Nat} {R : Nat → List Int32} {co : Nat → Int32} (h : (crFrom NP NJ NV w ck vv R S 0 (false, co)).1 = false) : rbF NP NJ NV w ck vv S n R = (0, R) := by
  cases n with
  | zero => rfl
  | succ n =>
    show (if _ then _ else _) = _
    rw [← cr_can.1, h]
    rfl
theorem rbF_yes {NP NJ NV : Nat} {w : Nat → Nat → Int32} {ck : Int32} {vv : Nat → Nat → Int32} {S : Nat → Nat} {n : Nat} {R : Nat → List Int32} {co : Nat → Int32} (h : (crFrom NP NJ NV w ck vv R S 0 (false, co)).1 = true) : rbF NP NJ NV w ck vv S (n + 1) R = ((rbF NP NJ NV w ck vv S n (putR NV R (crFrom NP NJ NV w ck vv R S 0 (false, co)).2)).1 + 1, (rbF NP NJ NV w ck vv S n (putR NV R (crFrom NP NJ NV w ck vv R S 0 (false, co)).2)).2) := by
  show (if _ then _ else _) = _
  have hr := cr_can (NP := NP) (NJ := NJ) (NV := NV) (w := w) (ck := ck) (vv := vv) (R := R) (S := S) (co := co)
  rw [← hr.1, h, if_pos rfl, hr.2 h]
def tkStep (j : Int32) (R : Nat → List Int32) (n : Nat) : Nat → List Int32 := if rFind (R n) (fOf j) = -1 then R else va_up R n (rWithout (R n) j)
def tkFrom (NV : Nat) (j : Int32) (n : Nat) (R : Nat → List Int32) : Nat → List Int32 := (List.range' n (NV - n)).foldl (tkStep j) R
theorem tkFrom_step {NV : Nat} {j : Int32} {n : Nat} {R : Nat → List Int32} (h : n < NV) : tkFrom NV j n R = tkFrom NV j (n + 1) (tkStep j R n) := by
  unfold tkFrom
  rw [range_cons h]
  rfl
theorem tkFrom_end {NV : Nat} {j : Int32} {n : Nat} {R : Nat → List Int32} (h : NV ≤ n) : tkFrom NV j n R = R := by
  unfold tkFrom
  rw [range_nil h]
  rfl
def svF (NP NJ NV : Nat) (w : Nat → Nat → Int32) (ck : Int32) (vv : Nat → Nat → Int32) (R : Nat → List Int32) (j : Int32) : Int32 :=
  if nI NV ≤ nI 0 then 0 else if rFind (R 0) (fOf j) = -1 then
    (if nI NV ≤ nI 1 then 0 else if rFind (R 1) (fOf j) = -1 then
      (if nI NV ≤ nI 2 then 0 else if rFind (R 2) (fOf j) = -1 then 0 else tCost NP NJ w ck (vv 2) (R 2) - tCost NP NJ w ck (vv 2) (rWithout (R 2) j)) else tCost NP NJ w ck (vv 1) (R 1) - tCost NP NJ w ck (vv 1) (rWithout (R 1) j)) else tCost NP NJ w ck (vv 0) (R 0) - tCost NP NJ w ck (vv 0) (rWithout (R 0) j)
def arF (NP NJ NV : Nat) (w : Nat → Nat → Int32) (ck : Int32) (vv : Nat → Nat → Int32) (R : Nat → List Int32) : Bool :=
  if nI NV ≤ nI 0 then true else if tRideR NP NJ w ck (vv 0) (R 0) 9 = 0 then false else
    (if nI NV ≤ nI 1 then true else if tRideR NP NJ w ck (vv 1) (R 1) 9 = 0 then false else
      (if nI NV ≤ nI 2 then true else if tRideR NP NJ w ck (vv 2) (R 2) 9 = 0 then false else true))
def csFrom (NP NJ NV : Nat) (w : Nat → Nat → Int32) (ck : Int32) (vv : Nat → Nat → Int32) (R : Nat → List Int32) (n : Nat) (s : Int32) : Int32 := (List.range' n (NV - n)).foldl (fun s n => s + tCost NP NJ w ck (vv n) (R n)) s
theorem csFrom_step {NP NJ NV : Nat} {w : Nat → Nat → Int32} {ck : Int32} {vv : Nat → Nat → Int32} {R : Nat → List Int32} {n : Nat} {s : Int32} (h : n < NV) : csFrom NP NJ NV w ck vv R n s = csFrom NP NJ NV w ck vv R (n + 1) (s + tCost NP NJ w ck (vv n) (R n)) := by
  unfold csFrom
  rw [range_cons h]
  rfl
theorem csFrom_end {NP NJ NV : Nat} {w : Nat → Nat → Int32} {ck : Int32} {vv : Nat → Nat → Int32} {R : Nat → List Int32} {n : Nat} {s : Int32} (h : NV ≤ n) : csFrom NP NJ NV w ck vv R n s = s := by
  unfold csFrom
  rw [range_nil h]
  rfl
def fnStep (NV : Nat) (w : Nat → Nat → Int32) (R : Nat → List Int32) (s : Int32) (J : Nat) : Int32 := if carrF NV R (nI J) = -1 then s + w 3 (nI J).toNatClampNeg else s
def fnFrom (NJ NV : Nat) (w : Nat → Nat → Int32) (R : Nat → List Int32) (J : Nat) (s : Int32) : Int32 := (List.range' J (NJ - J)).foldl (fnStep NV w R) s
theorem fnFrom_step {NJ NV : Nat} {w : Nat → Nat → Int32} {R : Nat → List Int32} {J : Nat} {s : Int32} (h : J < NJ) : fnFrom NJ NV w R J s = fnFrom NJ NV w R (J + 1) (fnStep NV w R s J) := by
  unfold fnFrom
  rw [range_cons h]
  rfl
theorem fnFrom_end {NJ NV : Nat} {w : Nat → Nat → Int32} {R : Nat → List Int32} {J : Nat} {s : Int32} (h : NJ ≤ J) : fnFrom NJ NV w R J s = s := by
  unfold fnFrom
  rw [range_nil h]
  rfl
/-- what all costs -/
def costF (NP NJ NV : Nat) (w : Nat → Nat → Int32) (ck : Int32) (vv : Nat → Nat → Int32) (R : Nat → List Int32) : Int32 := fnFrom NJ NV w R 0 (csFrom NP NJ NV w ck vv R 0 0)
def djStep (NP NJ NV : Nat) (w : Nat → Nat → Int32) (ck : Int32) (vv : Nat → Nat → Int32) (R : Nat → List Int32) (q : Int32 × Int32) (J : Nat) : Int32 × Int32 :=
  if movF NV R vv (nI J) = true then
    if q.1 = -1 then (nI J, svF NP NJ NV w ck vv R (nI J)) else if q.2 < svF NP NJ NV w ck vv R (nI J) then (nI J, svF NP NJ NV w ck vv R (nI J)) else q
  else q
def djFrom (NP NJ NV : Nat) (w : Nat → Nat → Int32) (ck : Int32) (vv : Nat → Nat → Int32) (R : Nat → List Int32) (J : Nat) (q : Int32 × Int32) : Int32 × Int32 := (List.range' J (NJ - J)).foldl (djStep NP NJ NV w ck vv R) q
theorem djFrom_step {NP NJ NV : Nat} {w : Nat → Nat → Int32} {ck : Int32} {vv : Nat → Nat → Int32} {R : Nat → List Int32} {J : Nat} {q : Int32 × Int32} (h : J < NJ) : djFrom NP NJ NV w ck vv R J q = djFrom NP NJ NV w ck vv R (J + 1) (djStep NP NJ NV w ck vv R q J) := by
  unfold djFrom
  rw [range_cons h]
  rfl
theorem djFrom_end {NP NJ NV : Nat} {w : Nat → Nat → Int32} {ck : Int32} {vv : Nat → Nat → Int32} {R : Nat → List Int32} {J : Nat} {q : Int32 × Int32} (h : NJ ≤ J) : djFrom NP NJ NV w ck vv R J q = q := by
  unfold djFrom
  rw [range_nil h]
  rfl
theorem rWithout_ok {L : List Int32} {f : Nat → Int32} (h : rw_ok L f) (j : Int32) : (rWithout L j).length ≤ 18 := Nat.le_trans (List.length_filter_le _ _) h.1
