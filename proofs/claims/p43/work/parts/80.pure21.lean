/-! nothing is fuller than full: the whole numbers -/
section
variable {NP NJ NV : Nat} {w vv : Nat → Nat → Int32} {ck : Int32} {N : Nat → List Nat} {R : Nat → List Int32}
theorem run_4 {c : Int} {v : Nat → Int32} {M : List Nat} : iRun w c v M 4 = loadI w M := by
  have h := iRun_4 (w := w) (ck := c) (cap := (v 1).toInt) M (iS v)
  have h0 : iS v 4 = 0 := rfl
  show (M.foldl (iV w c (v 1).toInt) (iS v)) 4 = _
  rw [h, h0]
  omega
theorem load_rng (C : pC NP NJ NV w vv N R) {n k : Nat} (hn : n < NV) : 0 ≤ loadI w ((N n).take k) ∧ loadI w ((N n).take k) ≤ (vv n 1).toInt := by
  have e : N n = (N n).take k ++ (N n).drop k := (List.take_append_drop k (N n)).symm
  exact ⟨load_pos C.2.1 NJ (Nat.le_refl _) _ _ _ (C.2.2.2.1.2 n hn) (gV_nd C.2.2.2.1 hn) e, C.2.2.2.2.2 n hn _ _ e⟩
theorem mul_rng {d l c : Int} (hd : 0 ≤ d) (hl : 0 ≤ l) (hc : l ≤ c) : 0 ≤ d * l ∧ d * l ≤ d * c := ⟨Int.mul_nonneg hd hl, Int.mul_le_mul_of_nonneg_left hc hd⟩
theorem carry_k (C : pC NP NJ NV w vv N R) {n : Nat} (hn : n < NV) : ∀ k, k ≤ (N n).length → 0 ≤ iRun w ck.toInt (vv n) ((N n).take k) 8 ∧ iRun w ck.toInt (vv n) ((N n).take k) 8 ≤ iRun w ck.toInt (vv n) ((N n).take k) 7 * (vv n 1).toInt := by
  intro k
  induction k with
  | zero =>
    intro _
    have e8 : iRun w ck.toInt (vv n) ((N n).take 0) 8 = 0 := rfl
    have e7 : iRun w ck.toInt (vv n) ((N n).take 0) 7 = 0 := rfl
    rw [e8, e7]; omega
  | succ k ih =>
    intro h
    obtain ⟨i1, i2⟩ := ih (by omega)
    have hk : k < (N n).length := by omega
    have hd := way_pos (ck := ck) C hn hk
    obtain ⟨l1, l2⟩ := load_rng C hn (k := k)
    rw [iRun_snoc hk]
    show 0 ≤ iRun w ck.toInt (vv n) ((N n).take k) 8 + DI w (iRun w ck.toInt (vv n) ((N n).take k) 0).toNat (plc w (N n)[k]) * iRun w ck.toInt (vv n) ((N n).take k) 4 ∧ iRun w ck.toInt (vv n) ((N n).take k) 8 + DI w (iRun w ck.toInt (vv n) ((N n).take k) 0).toNat (plc w (N n)[k]) * iRun w ck.toInt (vv n) ((N n).take k) 4 ≤ (iRun w ck.toInt (vv n) ((N n).take k) 7 + DI w (iRun w ck.toInt (vv n) ((N n).take k) 0).toNat (plc w (N n)[k])) * (vv n 1).toInt
    rw [run_4, Int.add_mul]
    obtain ⟨m1, m2⟩ := mul_rng hd l1 l2
    omega
/-- a route carries no more than its room -/
theorem carry_I (C : pC NP NJ NV w vv N R) {n : Nat} (hn : n < NV) : 0 ≤ (tRide NP NJ w ck (vv n) (R n) 8).toInt ∧ (tRide NP NJ w ck (vv n) (R n) 8).toInt ≤ (tRide NP NJ w ck (vv n) (R n) 7 * vv n 1).toInt ∧ (tRide NP NJ w ck (vv n) (R n) 7 * vv n 1).toInt ≤ 120000 := by
  have h8 := ride_I (ck := ck) C hn (q := 8) (by omega)
  have h7 := ride_I (ck := ck) C hn (q := 7) (by omega)
  have hl := C.len hn
  obtain ⟨k1, k2⟩ := carry_k (ck := ck) C hn (N n).length (Nat.le_refl _)
  obtain ⟨l1, l2⟩ := load_rng C hn (k := (N n).length)
  have hr := run_rel (ck := ck) C (k := (N n).length) hn
  rw [List.take_length] at k1 k2 l1 l2 hr
  obtain ⟨-, h0, -, -, -, -, h7b, -⟩ := hr
  have hd := iHD_rng C.1 (C.2.2.1.2 n hn) h0
  have e8 : iRide w ck.toInt (vv n) (N n) 8 = iRun w ck.toInt (vv n) (N n) 8 + iHD w (vv n) (iRun w ck.toInt (vv n) (N n)) * iRun w ck.toInt (vv n) (N n) 4 := rfl
  have e7 : iRide w ck.toInt (vv n) (N n) 7 = iRun w ck.toInt (vv n) (N n) 7 + iHD w (vv n) (iRun w ck.toInt (vv n) (N n)) := rfl
  rw [run_4] at e8
  obtain ⟨m1, m2⟩ := mul_rng hd.1 l1 l2
  have hc := (C.2.2.1.2 n hn).2.1
  have hle : (iRun w ck.toInt (vv n) (N n) 7 + iHD w (vv n) (iRun w ck.toInt (vv n) (N n))) * (vv n 1).toInt ≤ 2400 * 50 := Int.mul_le_mul (by omega) hc.2 (by omega) (by omega)
  have h0' : 0 ≤ (iRun w ck.toInt (vv n) (N n) 7 + iHD w (vv n) (iRun w ck.toInt (vv n) (N n))) * (vv n 1).toInt := Int.mul_nonneg (by omega) (by omega)
  have hm : (tRide NP NJ w ck (vv n) (R n) 7 * vv n 1).toInt = (iRun w ck.toInt (vv n) (N n) 7 + iHD w (vv n) (iRun w ck.toInt (vv n) (N n))) * (vv n 1).toInt := by
    rw [← e7]
    exact i_mul h7 rfl (by rw [e7]; omega)
  rw [h8, hm, e8]
  rw [Int.add_mul] at hle h0' ⊢
  omega
def fuP (m : Nat) (q : Int32 × Int32) : Prop := 0 ≤ q.1.toInt ∧ q.1.toInt ≤ q.2.toInt ∧ q.2.toInt ≤ 120000 * m
theorem fu_step (C : pC NP NJ NV w vv N R) {m : Nat} (hm : m < NV) {q : Int32 × Int32} (h : fuP m q) : fuP (m + 1) (fuStep NP NJ w ck vv R q m) := by
  obtain ⟨c1, c2, c3⟩ := carry_I (ck := ck) C hm
  obtain ⟨h1, h2, h3⟩ := h
  have h4 := C.2.2.1.1
  have e1 := i_add (rfl : q.1.toInt = q.1.toInt) (rfl : (tRide NP NJ w ck (vv m) (R m) 8).toInt = _) (by omega)
  have e2 := i_add (rfl : q.2.toInt = q.2.toInt) (rfl : (tRide NP NJ w ck (vv m) (R m) 7 * vv m 1).toInt = _) (by omega)
  show 0 ≤ (q.1 + tRide NP NJ w ck (vv m) (R m) 8).toInt ∧ (q.1 + tRide NP NJ w ck (vv m) (R m) 8).toInt ≤ (q.2 + tRide NP NJ w ck (vv m) (R m) 7 * vv m 1).toInt ∧ (q.2 + tRide NP NJ w ck (vv m) (R m) 7 * vv m 1).toInt ≤ 120000 * ((m + 1 : Nat) : Int)
  rw [e1, e2]
  omega
theorem fu_good (C : pC NP NJ NV w vv N R) : fuP NV (fuFrom NP NJ NV w ck vv R 0 (0, 0)) := by
  have key : ∀ k m q, m + k = NV → fuP m q → fuP NV ((List.range' m k).foldl (fuStep NP NJ w ck vv R) q) := by
    intro k
    induction k with
    | zero => intro m q e h; rw [show NV = m by omega]; exact h
    | succ k ih => intro m q e h; exact ih (m + 1) _ (by omega) (fu_step C (by omega) h)
  exact key NV 0 (0, 0) (by omega) ⟨by decide, by decide, by decide⟩
end
