/-! the facts that are told, and rides -/
def isPlaceB (NP : Nat) (x : Int32) : Bool := !decide (x < 0) && !decide (nI NP ≤ x)
def isStopB (NJ : Nat) (x : Int32) : Bool := !decide (x < 0) && !decide (2 * nI NJ ≤ x)
def wayF (NP : Nat) (W : Nat → Int32) (a b : Int32) : Int32 := if a < 0 then 0 else if nI NP ≤ a then 0 else if b < 0 then 0 else if b < nI NP then W (a * 12 + b).toNatClampNeg else 0
def tv (a0 a1 a2 a3 a4 a5 a6 a7 a8 a9 : Int32) : Nat → Int32 := fun k => match k with
  | 0 => a0
  | 1 => a1
  | 2 => a2
  | 3 => a3
  | 4 => a4
  | 5 => a5
  | 6 => a6
  | 7 => a7
  | 8 => a8
  | _ => a9
def tStart (v : Nat → Int32) : Nat → Int32 := tv (v 0) (v 2) (v 2) (v 2) 0 0 0 0 0 1
def tGoOn (t : Nat → Int32) (step nx : Int32) : Nat → Int32 := tv nx (t 3 + step) (t 2) (t 3) (t 4) (t 5) (t 6) (t 7 + step) (t 8 + step * t 4) (t 9)
def mx (a b : Int32) : Int32 := if a < b then b else a
def tVisit (NP NJ : Nat) (w : Nat → Nat → Int32) (ck cap : Int32) (t : Nat → Int32) (x : Int32) : Nat → Int32 :=
  if isStopB NJ x = true then
    tv (w 4 x.toNatClampNeg) (t 3 + wayF NP (w 2) (t 0) (w 4 x.toNatClampNeg)) (mx (t 3 + wayF NP (w 2) (t 0) (w 4 x.toNatClampNeg)) (w 5 x.toNatClampNeg))
      (mx (t 3 + wayF NP (w 2) (t 0) (w 4 x.toNatClampNeg)) (w 5 x.toNatClampNeg) + w 7 x.toNatClampNeg) (t 4 + w 8 x.toNatClampNeg) (if ck ≤ t 3 then t 5 else t 5 + 1)
      (t 6 + (mx (t 3 + wayF NP (w 2) (t 0) (w 4 x.toNatClampNeg)) (w 5 x.toNatClampNeg) - (t 3 + wayF NP (w 2) (t 0) (w 4 x.toNatClampNeg))))
      (t 7 + wayF NP (w 2) (t 0) (w 4 x.toNatClampNeg)) (t 8 + wayF NP (w 2) (t 0) (w 4 x.toNatClampNeg) * t 4)
      (if w 6 x.toNatClampNeg < mx (t 3 + wayF NP (w 2) (t 0) (w 4 x.toNatClampNeg)) (w 5 x.toNatClampNeg) then 0 else if t 4 + w 8 x.toNatClampNeg ≤ cap then t 9 else 0)
  else t
def tHome (NP : Nat) (w : Nat → Nat → Int32) (v t : Nat → Int32) : Nat → Int32 :=
  tv (v 0) (t 3 + wayF NP (w 2) (t 0) (v 0)) (t 2) (t 3) (t 4) (t 5) (t 6) (t 7 + wayF NP (w 2) (t 0) (v 0)) (t 8 + wayF NP (w 2) (t 0) (v 0) * t 4) (if t 3 + wayF NP (w 2) (t 0) (v 0) ≤ v 3 then t 9 else 0)
def tRun (NP NJ : Nat) (w : Nat → Nat → Int32) (ck : Int32) (v : Nat → Int32) (L : List Int32) : Nat → Int32 := L.foldl (tVisit NP NJ w ck (v 1)) (tStart v)
def tRide (NP NJ : Nat) (w : Nat → Nat → Int32) (ck : Int32) (v : Nat → Int32) (L : List Int32) : Nat → Int32 := tHome NP w v (tRun NP NJ w ck v L)
def tCost (NP NJ : Nat) (w : Nat → Nat → Int32) (ck : Int32) (v : Nat → Int32) (L : List Int32) : Int32 := if nI L.length = 0 then 0 else v 5 + v 4 * tRide NP NJ w ck v L 7
def tVisR (NP NJ : Nat) (w : Nat → Nat → Int32) (ck cap : Int32) (t : Nat → Int32) (x : Int32) : Nat → Int32 := if t 9 = 0 then t else tVisit NP NJ w ck cap t x
def tRunR (NP NJ : Nat) (w : Nat → Nat → Int32) (ck : Int32) (v : Nat → Int32) (L : List Int32) : Nat → Int32 := L.foldl (tVisR NP NJ w ck (v 1)) (tStart v)
def tRideR (NP NJ : Nat) (w : Nat → Nat → Int32) (ck : Int32) (v : Nat → Int32) (L : List Int32) : Nat → Int32 := tHome NP w v (tRunR NP NJ w ck v L)
def tAllowed (t v : Nat → Int32) : Bool := !decide (t 9 = 0) && decide (t 5 = v 6)
theorem stop_in {NJ : Nat} {x : Int32} (hNJ : NJ ≤ 9) (h : isStopB NJ x = true) : vp_in x 18 := by
  unfold isStopB at h
  simp only [Bool.and_eq_true, Bool.not_eq_true', decide_eq_false_iff_not] at h
  obtain ⟨j, hj, rfl⟩ := nI_of h.1
  refine vp_in_nI ?_ (by omega)
  have h2 := h.2
  rw [show (2 : Int32) * nI NJ = nI (2 * NJ) by rw [show (2 : Int32) = nI 2 from rfl]; exact (Int32.ofNat_mul 2 NJ).symm] at h2
  rcases Nat.lt_or_ge j (2 * NJ) with q | q
  · omega
  · exact absurd (nI_le q hj) h2
theorem nI_mul (a b : Nat) : nI a * nI b = nI (a * b) := (Int32.ofNat_mul a b).symm
theorem way_in {NP : Nat} {a b : Int32} (hNP : NP ≤ 12) (h1 : ¬ a < 0) (h2 : ¬ nI NP ≤ a) (h3 : ¬ b < 0) (h4 : b < nI NP) : vp_in (a * 12 + b) 144 := by
  obtain ⟨i, hi, rfl⟩ := nI_of h1
  obtain ⟨j, hj, rfl⟩ := nI_of h3
  have hi2 : i < NP := by
    rcases Nat.lt_or_ge i NP with q | q
    · exact q
    · exact absurd (nI_le q hi) h2
  have hj2 : j < NP := (nI_ltI hj (by omega)).mp h4
  rw [show (12 : Int32) = nI 12 from rfl, nI_mul, nI_add]
  exact vp_in_nI (by omega) (by omega)
theorem nar01 {x : Int32} (h : x = 0 ∨ x = 1) : narrow .boolean (.int x) = .int x := by rcases h with rfl | rfl <;> rfl
theorem tVisit_01 {NP NJ : Nat} {w : Nat → Nat → Int32} {ck cap : Int32} {t : Nat → Int32} {x : Int32} (h : t 9 = 0 ∨ t 9 = 1) : tVisit NP NJ w ck cap t x 9 = 0 ∨ tVisit NP NJ w ck cap t x 9 = 1 := by
  unfold tVisit
  split
  · show (if _ then _ else _) = _ ∨ (if _ then _ else _) = _
    split
    · exact Or.inl rfl
    · split
      · exact h
      · exact Or.inl rfl
  · exact h
theorem tRun_01 {NP NJ : Nat} {w : Nat → Nat → Int32} {ck : Int32} {v : Nat → Int32} (L : List Int32) : tRun NP NJ w ck v L 9 = 0 ∨ tRun NP NJ w ck v L 9 = 1 := by
  unfold tRun
  have key : ∀ (L : List Int32) (t : Nat → Int32), (t 9 = 0 ∨ t 9 = 1) → (L.foldl (tVisit NP NJ w ck (v 1)) t) 9 = 0 ∨ (L.foldl (tVisit NP NJ w ck (v 1)) t) 9 = 1 := by
    intro L
    induction L with
    | nil => intro t h; exact h
    | cons a l ih => intro t h; exact ih _ (tVisit_01 h)
  exact key L _ (Or.inr rfl)
theorem tRunR_01 {NP NJ : Nat} {w : Nat → Nat → Int32} {ck : Int32} {v : Nat → Int32} (L : List Int32) : tRunR NP NJ w ck v L 9 = 0 ∨ tRunR NP NJ w ck v L 9 = 1 := by
  unfold tRunR
  have key : ∀ (L : List Int32) (t : Nat → Int32), (t 9 = 0 ∨ t 9 = 1) → (L.foldl (tVisR NP NJ w ck (v 1)) t) 9 = 0 ∨ (L.foldl (tVisR NP NJ w ck (v 1)) t) 9 = 1 := by
    intro L
    induction L with
    | nil => intro t h; exact h
    | cons a l ih =>
      intro t h
      refine ih _ ?_
      unfold tVisR
      split
      · exact h
      · exact tVisit_01 h
  exact key L _ (Or.inr rfl)
theorem tHome_01 {NP : Nat} {w : Nat → Nat → Int32} {v t : Nat → Int32} (h : t 9 = 0 ∨ t 9 = 1) : tHome NP w v t 9 = 0 ∨ tHome NP w v t 9 = 1 := by
  unfold tHome
  show (if _ then _ else _) = _ ∨ (if _ then _ else _) = _
  split
  · exact h
  · exact Or.inl rfl
theorem tRun_succ {NP NJ : Nat} {w : Nat → Nat → Int32} {ck : Int32} {v : Nat → Int32} {L : List Int32} {i : Nat} (h : i < L.length) : tRun NP NJ w ck v (L.take (i + 1)) = tVisit NP NJ w ck (v 1) (tRun NP NJ w ck v (L.take i)) (L.getD i 0) := by
  unfold tRun
  rw [rTake_one h, List.foldl_append]
  rfl
theorem tRunR_succ {NP NJ : Nat} {w : Nat → Nat → Int32} {ck : Int32} {v : Nat → Int32} {L : List Int32} {i : Nat} (h : i < L.length) (hr : ¬ tRunR NP NJ w ck v (L.take i) 9 = 0) : tRunR NP NJ w ck v (L.take (i + 1)) = tVisit NP NJ w ck (v 1) (tRunR NP NJ w ck v (L.take i)) (L.getD i 0) := by
  unfold tRunR at hr ⊢
  rw [rTake_one h, List.foldl_append]
  exact if_neg hr
theorem tVisR_stuck {NP NJ : Nat} {w : Nat → Nat → Int32} {ck cap : Int32} (L : List Int32) {t : Nat → Int32} (h : t 9 = 0) : L.foldl (tVisR NP NJ w ck cap) t = t := by
  induction L with
  | nil => rfl
  | cons a l ih =>
    show l.foldl (tVisR NP NJ w ck cap) (tVisR NP NJ w ck cap t a) = t
    rw [show tVisR NP NJ w ck cap t a = t by unfold tVisR; rw [if_pos h]]
    exact ih
theorem tRunR_stuck {NP NJ : Nat} {w : Nat → Nat → Int32} {ck : Int32} {v : Nat → Int32} {L : List Int32} {i : Nat} (h : tRunR NP NJ w ck v (L.take i) 9 = 0) : tRunR NP NJ w ck v (L.take i) = tRunR NP NJ w ck v L := by
  conv => rhs; rw [← List.take_append_drop i L]
  unfold tRunR at h ⊢
  rw [List.foldl_append, tVisR_stuck _ h]
set_option maxRecDepth 100000 in
theorem q_max_st : Cond.static Lib.Math.max.name ∈ TB := tb_t 290 (by decide +kernel) (by decide +kernel)
set_option maxRecDepth 100000 in
theorem q_max_co : Cond.code Lib.Math.max.name Lib.Math.max.code 2 (some .int) ∈ TB := tb_t 291 (by decide +kernel) (by decide +kernel)
set_option maxRecDepth 100000 in
theorem q_min_st : Cond.static Lib.Math.min.name ∈ TB := tb_t 327 (by decide +kernel) (by decide +kernel)
set_option maxRecDepth 100000 in
theorem q_min_co : Cond.code Lib.Math.min.name Lib.Math.min.code 2 (some .int) ∈ TB := tb_t 328 (by decide +kernel) (by decide +kernel)
set_option maxRecDepth 100000 in
theorem q_abs_st : Cond.static Lib.Math.abs.name ∈ TB := tb_t 561 (by decide +kernel) (by decide +kernel)
set_option maxRecDepth 100000 in
theorem q_abs_co : Cond.code Lib.Math.abs.name Lib.Math.abs.code 1 (some .int) ∈ TB := tb_t 562 (by decide +kernel) (by decide +kernel)
set_option maxRecDepth 100000 in
theorem q_math_ini : Cond.initialized "java/lang/Math" ∈ TB := tb_t 7 (by decide +kernel) (by decide +kernel)
