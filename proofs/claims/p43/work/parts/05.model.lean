/-! rows of stops as lists, and what the methods of Row make of them -/
abbrev TY (cI cV : ClassId) : List (ClassId × FieldType) := [(cI, .int), (cV, .object "DroverPlan$Vehicle")]
def rw_ok (L : List Int32) (f : Nat → Int32) : Prop := L.length ≤ 18 ∧ ∀ i, i < L.length → f i = L.getD i 0
def rAt (L : List Int32) (x : Int32) : Int32 := if x < 0 then -1 else if nI L.length ≤ x then -1 else L.getD x.toNatClampNeg 0
def rIdx : List Int32 → Int32 → Option Nat
  | [], _ => none
  | a :: l, x => if a = x then some 0 else (rIdx l x).map (· + 1)
def rOpt (i : Nat) : Option Nat → Int32
  | none => -1
  | some j => nI (i + j)
def rFind (L : List Int32) (x : Int32) : Int32 := rOpt 0 (rIdx L x)
def jOf (x : Int32) : Int32 := x >>> (1 &&& 31)
def fOf (j : Int32) : Int32 := 2 * j
def bOf (j : Int32) : Int32 := 2 * j + 1
def isF (x : Int32) : Bool := decide (x &&& 1 = 0)
def b01 (b : Bool) : Int32 := if b then 1 else 0
theorem b01_nar (b : Bool) : narrow .boolean (.int (b01 b)) = .int (b01 b) := by cases b <;> rfl
theorem b01_fit (b : Bool) : fits .boolean (.int (b01 b)) = true := by cases b <;> rfl
theorem b01_0 {b : Bool} : b01 b = 0 ↔ b = false := by cases b <;> simp [b01]
def rSwap (one two x : Int32) : Int32 := if isF x then fOf (if jOf x = one then two else if jOf x = two then one else jOf x) else bOf (if jOf x = one then two else if jOf x = two then one else jOf x)
def rWith (L : List Int32) (j : Int32) (i k : Nat) : List Int32 := (L.take i ++ [fOf j] ++ (L.take k).drop i ++ [bOf j] ++ L.drop k).take 18
def rWithout (L : List Int32) (j : Int32) : List Int32 := L.filter (fun x => decide (jOf x ≠ j))
def rTurned (L : List Int32) (i k : Nat) : List Int32 := L.take i ++ ((L.take (k + 1)).drop i).reverse ++ L.drop (k + 1)
def rJoined (L M : List Int32) (i k : Nat) : List Int32 := (L.take i ++ M.drop k).take 18
theorem nI_leN {a b : Nat} (ha : a < 2 ^ 31) (hb : b < 2 ^ 31) : nI a ≤ nI b ↔ a ≤ b := nI_leI ha hb
theorem rAt_nI {L : List Int32} {i : Nat} (h : i < L.length) (hL : L.length ≤ 18) : rAt L (nI i) = L.getD i 0 := by
  unfold rAt
  rw [if_neg (nI_pos (by omega)), if_neg (fun q => absurd ((nI_leI (by omega) (by omega)).mp q) (by omega)), nI_clamp (by omega)]
theorem rw_at {L : List Int32} {f : Nat → Int32} (h : rw_ok L f) {x : Int32} (h1 : ¬ x < 0) (h2 : ¬ nI L.length ≤ x) : vp_in x 18 ∧ f x.toNatClampNeg = rAt L x := by
  obtain ⟨j, hj, rfl⟩ := nI_of h1
  have hlt : j < L.length := by
    rcases Nat.lt_or_ge j L.length with q | q
    · exact q
    · exact absurd ((nI_leI (by have := h.1; omega) hj).mpr q) h2
  refine ⟨vp_in_nI (by have := h.1; omega) (by omega), ?_⟩
  rw [rAt_nI hlt h.1, nI_clamp hj, h.2 j hlt]
theorem rIdx_drop {L : List Int32} {i : Nat} (h : i < L.length) (x : Int32) : rIdx (L.drop i) x = if L.getD i 0 = x then some 0 else (rIdx (L.drop (i + 1)) x).map (· + 1) := by
  rw [List.drop_eq_getElem_cons h]
  show (if L[i] = x then _ else _) = _
  rw [show L.getD i 0 = L[i] by simp [List.getD, h]]
theorem rOpt_map (i : Nat) (o : Option Nat) : rOpt i (o.map (· + 1)) = rOpt (i + 1) o := by
  cases o with
  | none => rfl
  | some j => show nI (i + (j + 1)) = nI (i + 1 + j); congr 1; omega
theorem rw_add {L : List Int32} {f : Nat → Int32} (h : rw_ok L f) (x : Int32) (hlt : L.length < 18) : rw_ok (L ++ [x]) (upd f (nI L.length).toNatClampNeg x) := by
  rw [nI_clamp (by omega)]
  refine ⟨by simp; omega, fun i hi => ?_⟩
  rw [List.length_append] at hi
  rcases Nat.lt_or_ge i L.length with q | q
  · rw [pk_un (by omega), h.2 i q]
    simp [List.getD, List.getElem?_append_left q]
  · have : i = L.length := by simp at hi; omega
    subst this
    rw [pk_us]
    simp [List.getD]
theorem rTake_app (L M : List Int32) (n : Nat) : (L.take n ++ M).take n = (L ++ M).take n := by
  rw [List.take_append, List.take_append, List.take_take, Nat.min_self, List.length_take]
  rcases Nat.lt_or_ge L.length n with q | q
  · rw [Nat.min_eq_right (by omega)]
  · rw [Nat.min_eq_left q, Nat.sub_self, Nat.sub_eq_zero_of_le q]
theorem rw_full {L : List Int32} {f : Nat → Int32} (h : rw_ok L f) (x : Int32) (hge : 18 ≤ L.length) : rw_ok ((L ++ [x]).take 18) f := by
  have e : (L ++ [x]).take 18 = L := by
    have h9 : L.length = 18 := by have := h.1; omega
    rw [List.take_append, h9, Nat.sub_self, List.take_zero, List.append_nil, List.take_of_length_le (by omega)]
  rw [e]; exact h
theorem rw_add18 {L : List Int32} {f : Nat → Int32} (h : rw_ok L f) (x : Int32) (hlt : L.length < 18) : rw_ok ((L ++ [x]).take 18) (upd f (nI L.length).toNatClampNeg x) := by
  have e : (L ++ [x]).take 18 = L ++ [x] := List.take_of_length_le (by simp; omega)
  rw [e]; exact rw_add h x hlt
theorem rPart_step (L M : List Int32) {e i : Nat} (hi : i < M.length) (he : i < e) : ((L ++ [M.getD i 0]).take 18 ++ (M.take e).drop (i + 1)).take 18 = (L ++ (M.take e).drop i).take 18 := by
  rw [rTake_app]
  have hl : i < (M.take e).length := by rw [List.length_take]; omega
  rw [List.drop_eq_getElem_cons hl, List.append_assoc]
  simp [List.getD, hi]
theorem rw_nil (f : Nat → Int32) : rw_ok [] f := ⟨by simp, fun i h => by simp at h⟩
