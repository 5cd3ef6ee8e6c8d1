theorem nI_sub1 {t : Nat} (h : 1 ≤ t) : nI t - 1 = nI (t - 1) := by
  obtain ⟨u, rfl⟩ : ∃ u, t = u + 1 := ⟨t - 1, by omega⟩
  rw [nI_pred, Nat.add_sub_cancel]
theorem nI_sub2 {x : Int32} : x + -1 = x - 1 := by rw [Int32.sub_eq_add_neg]
theorem nI_lt_pred {i t : Nat} (h : i ≤ t) (ht : t < 2 ^ 30 := by omega) : nI t - 1 < nI i ↔ t ≤ i := by
  rcases Nat.eq_zero_or_pos t with q | q
  · subst q
    have : i = 0 := by omega
    subst this
    decide
  · rw [nI_sub1 q, nI_ltI (by omega) (by omega)]
    omega
theorem lv_cg {ls : Array Slot} {nL : Nat} {i : Nat} {x y : Int32} {r : List (Nat × Value)} (e : x = y) (h : lv_has ls nL ((i, .int x) :: r)) : lv_has ls nL ((i, .int y) :: r) := by rw [← e]; exact h
theorem rTurn_step {M : List Int32} {i k t : Nat} {x : Int32} (e : x = M.getD (t - 1) 0) (hit : i < t) (htk : t ≤ k + 1) (hk : k < M.length) (hM : M.length ≤ 18) : ((M.take i ++ ((M.take (k + 1)).drop t).reverse ++ [x]).take 18) = (M.take i ++ ((M.take (k + 1)).drop (t - 1)).reverse) := by
  have hl : t - 1 < (M.take (k + 1)).length := by rw [List.length_take]; omega
  have e1 : (M.take (k + 1)).drop (t - 1) = x :: (M.take (k + 1)).drop t := by
    rw [List.drop_eq_getElem_cons hl, show t - 1 + 1 = t by omega, e]
    congr 1
    rw [List.getElem_take]
    simp [List.getD, show t - 1 < M.length by omega]
  rw [e1, List.reverse_cons, ← List.append_assoc, List.take_of_length_le]
  simp only [List.length_append, List.length_take, List.length_reverse, List.length_drop, List.length_cons, List.length_nil]
  omega
theorem ts9 {x : Bool} : (¬ x = false) ↔ x = true := by cases x <;> simp
theorem rSwap_step {M : List Int32} {i : Nat} {one two : Int32} (h : i < M.length) (hM : M.length ≤ 18) : (((M.take i).map (rSwap one two) ++ [rSwap one two (M.getD i 0)]).take 18) = (M.take (i + 1)).map (rSwap one two) := by
  rw [rTake_one h, List.map_append, List.take_of_length_le (by simp; omega)]
  rfl
def rHoldsAt (L : List Int32) (k s : Nat) : Bool := isF (L.getD s 0) && decide (rFind L (bOf (jOf (L.getD s 0))) ≤ nI k)
def rHolds (L : List Int32) (i k : Nat) : Bool := ((List.range (k + 1)).drop i).any (rHoldsAt L k)
theorem range_drop {i n : Nat} (h : i < n) : (List.range n).drop i = i :: (List.range n).drop (i + 1) := by
  rw [List.drop_eq_getElem_cons (by rw [List.length_range]; exact h), List.getElem_range]
theorem rHolds_step {L : List Int32} {i k : Nat} (h : i ≤ k) : rHolds L i k = (rHoldsAt L k i || rHolds L (i + 1) k) := by
  unfold rHolds
  rw [range_drop (by omega), List.any_cons]
theorem rHolds_end {L : List Int32} {i k : Nat} (h : k < i) : rHolds L i k = false := by
  unfold rHolds
  rw [List.drop_of_length_le (by rw [List.length_range]; omega)]
  rfl
theorem rHolds_yes {L : List Int32} {i k : Nat} (h : i ≤ k) (h1 : isF (L.getD i 0) = true) (h2 : rFind L (bOf (jOf (L.getD i 0))) ≤ nI k) : rHolds L i k = true := by
  rw [rHolds_step h]
  unfold rHoldsAt
  rw [h1, decide_eq_true h2]
  rfl
theorem rHolds_no1 {L : List Int32} {i k : Nat} (h : i ≤ k) (h1 : isF (L.getD i 0) = false) : rHolds L i k = rHolds L (i + 1) k := by
  rw [rHolds_step h]
  unfold rHoldsAt
  rw [h1]
  rfl
theorem rHolds_no2 {L : List Int32} {i k : Nat} (h : i ≤ k) (h2 : ¬ rFind L (bOf (jOf (L.getD i 0))) ≤ nI k) : rHolds L i k = rHolds L (i + 1) k := by
  rw [rHolds_step h]
  unfold rHoldsAt
  rw [decide_eq_false h2, Bool.and_false]
  rfl
def rSplitsFrom (L : List Int32) (i s : Nat) : Bool := ((List.range i).drop s).any (fun s => decide (nI i ≤ rFind L (bOf (jOf (L.getD s 0)))))
def rSplits (L : List Int32) (i : Nat) : Bool := rSplitsFrom L i 0
theorem rSplits_end {L : List Int32} {i s : Nat} (h : i ≤ s) : rSplitsFrom L i s = false := by
  unfold rSplitsFrom
  rw [List.drop_of_length_le (by rw [List.length_range]; omega)]
  rfl
theorem rSplits_yes {L : List Int32} {i s : Nat} (h : s < i) (h2 : ¬ rFind L (bOf (jOf (L.getD s 0))) < nI i) : rSplitsFrom L i s = true := by
  unfold rSplitsFrom
  rw [range_drop h, List.any_cons, decide_eq_true (Int32.not_lt.mp h2)]
  rfl
theorem rSplits_no {L : List Int32} {i s : Nat} (h : s < i) (h2 : rFind L (bOf (jOf (L.getD s 0))) < nI i) : rSplitsFrom L i s = rSplitsFrom L i (s + 1) := by
  unfold rSplitsFrom
  rw [range_drop h, List.any_cons, decide_eq_false (Int32.not_le.mpr h2)]
  rfl
