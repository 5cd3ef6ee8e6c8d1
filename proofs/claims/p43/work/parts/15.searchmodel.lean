/-! the best insertion into a row -/
theorem range_cons {a n : Nat} (h : a < n) : List.range' a (n - a) = a :: List.range' (a + 1) (n - (a + 1)) := by
  rw [show n - a = (n - (a + 1)) + 1 by omega, List.range'_succ]
theorem range_nil {a n : Nat} (h : n ≤ a) : List.range' a (n - a) = [] := by rw [Nat.sub_eq_zero_of_le h]; rfl
abbrev I4 : Type := Int32 × Int32 × Int32 × Int32
def siStep (NP NJ : Nat) (w : Nat → Nat → Int32) (ck : Int32) (v : Nat → Int32) (L : List Int32) (j : Int32) (i : Nat) (q : I4) (k : Nat) : I4 :=
  if addsF NP NJ w v L j (nI i) (nI (k + 1)) < q.1 then
    if tAllowed (tRideR NP NJ w ck v (rWith L j i k)) v = true then (addsF NP NJ w v L j (nI i) (nI (k + 1)), addsF NP NJ w v L j (nI i) (nI (k + 1)), nI i, nI (k + 1)) else q
  else q
def siIn (NP NJ : Nat) (w : Nat → Nat → Int32) (ck : Int32) (v : Nat → Int32) (L : List Int32) (j : Int32) (q : I4) (i : Nat) : I4 := (List.range' i (L.length + 1 - i)).foldl (siStep NP NJ w ck v L j i) q
def siAll (NP NJ : Nat) (w : Nat → Nat → Int32) (ck : Int32) (v : Nat → Int32) (L : List Int32) (j : Int32) (S : Nat) (q : I4) : I4 := (List.range' S (L.length + 1 - S)).foldl (siIn NP NJ w ck v L j) q
def iv (a0 a1 a2 a3 a4 a5 : Int32) : Nat → Int32 := fun k => match k with
  | 0 => a0
  | 1 => a1
  | 2 => a2
  | 3 => a3
  | 4 => a4
  | _ => a5
def fdSet (f : Nat → Int32) (q : I4) : Nat → Int32 := iv (f 0) (f 1) q.2.2.1 q.2.2.2 q.2.1 (f 5)
theorem siAll_step {NP NJ : Nat} {w : Nat → Nat → Int32} {ck : Int32} {v : Nat → Int32} {L : List Int32} {j : Int32} {i : Nat} {q : I4} (h : i ≤ L.length) : siAll NP NJ w ck v L j i q = siAll NP NJ w ck v L j (i + 1) (siIn NP NJ w ck v L j q i) := by
  unfold siAll
  rw [range_cons (show i < L.length + 1 by omega)]
  rfl
theorem siAll_end {NP NJ : Nat} {w : Nat → Nat → Int32} {ck : Int32} {v : Nat → Int32} {L : List Int32} {j : Int32} {i : Nat} {q : I4} (h : L.length < i) : siAll NP NJ w ck v L j i q = q := by
  unfold siAll
  rw [range_nil (by omega)]
  rfl
def siFrom (NP NJ : Nat) (w : Nat → Nat → Int32) (ck : Int32) (v : Nat → Int32) (L : List Int32) (j : Int32) (i k : Nat) (q : I4) : I4 := (List.range' k (L.length + 1 - k)).foldl (siStep NP NJ w ck v L j i) q
theorem siFrom_step {NP NJ : Nat} {w : Nat → Nat → Int32} {ck : Int32} {v : Nat → Int32} {L : List Int32} {j : Int32} {i k : Nat} {q : I4} (h : k ≤ L.length) : siFrom NP NJ w ck v L j i k q = siFrom NP NJ w ck v L j i (k + 1) (siStep NP NJ w ck v L j i q k) := by
  unfold siFrom
  rw [range_cons (show k < L.length + 1 by omega)]
  rfl
theorem siFrom_end {NP NJ : Nat} {w : Nat → Nat → Int32} {ck : Int32} {v : Nat → Int32} {L : List Int32} {j : Int32} {i k : Nat} {q : I4} (h : L.length < k) : siFrom NP NJ w ck v L j i k q = q := by
  unfold siFrom
  rw [range_nil (by omega)]
  rfl
theorem nallow9 {t v : Nat → Int32} (h : t 9 = 0) : ¬ tAllowed t v = true := by
  unfold tAllowed
  rw [decide_eq_true h]
  simp
