/-! how many stops are set; asking changes no digest -/
section
variable {NP NJ NV : Nat} {w vv : Nat → Nat → Int32} {ck : Int32} {N : Nat → List Nat} {R : Nat → List Int32}
theorem toI_nI {x : Int32} {k : Nat} (hk : k < 2147483648) (h : x.toInt = (k : Int)) : x = nI k := (i_eq h (nI_toInt hk)).mpr rfl
theorem set_I (C : pC NP NJ NV w vv N R) {n : Nat} (hn : n < NV) : ∃ k, k ≤ 18 ∧ tRide NP NJ w ck (vv n) (R n) 5 = nI k := by
  have h := ride_I (ck := ck) C hn (q := 5) (by omega)
  have hr := run_rel (ck := ck) C (k := (N n).length) hn
  rw [List.take_length] at hr
  have h5 := hr.2.2.2.2.1
  have hl := C.len hn
  have e : iRide w ck.toInt (vv n) (N n) 5 = iRun w ck.toInt (vv n) (N n) 5 := rfl
  exact ⟨(iRun w ck.toInt (vv n) (N n) 5).toNat, by omega, toI_nI (by omega) (by rw [h, e]; omega)⟩
/-- the vehicles' set stops, as numbers from 0 to 18 -/
def sB (vv : Nat → Nat → Int32) : Prop := ∃ S : Nat → Nat, (∀ n, vv n 6 = nI (S n)) ∧ ∀ n, S n ≤ 18
theorem sB_of {vv : Nat → Nat → Int32} (h : ∀ n, ∃ k, k ≤ 18 ∧ vv n 6 = nI k) : sB vv :=
  ⟨fun n => (h n).choose, fun n => (h n).choose_spec.2, fun n => (h n).choose_spec.1⟩
theorem sB_adv (C : pC NP NJ NV w vv N R) (h : sB vv) : sB (adFrom NP NJ NV w ck R 0 (0, vv)).2 := by
  obtain ⟨S, h1, h2⟩ := h
  refine sB_of fun n => ?_
  obtain ⟨-, a2, a3⟩ := adFrom_at (NP := NP) (NJ := NJ) (NV := NV) (w := w) (ck := ck) (R := R) (vv := vv) (m := n)
  by_cases c : n < NV
  · rw [a3 c]; exact set_I C c
  · rw [a2 (by omega)]; exact ⟨S n, h2 n, h1 n⟩
theorem sB_6 {vv vv' : Nat → Nat → Int32} (h : ∀ n, vv' n 6 = vv n 6) (hs : sB vv) : sB vv' := by
  obtain ⟨S, h1, h2⟩ := hs
  exact ⟨S, fun n => (h n).trans (h1 n), h2⟩
theorem ss_6 {Y : Nat → List Int32} {n k : Nat} (hk : k ≠ 7) : (ssFrom NP NJ NV w ck R 0 (vv, Y)).1 n k = vv n k := by
  rw [ss_at.1]
  by_cases c : n < NV
  · rw [if_pos c]; unfold vx; rw [if_neg hk]
  · rw [if_neg c]
/-- a vehicle that differs in the seventh number alone rides the same way -/
theorem v7_eq {v v' : Nat → Int32} (h : ∀ k, k ≠ 7 → v' k = v k) : v' = vx v (v' 7) := by
  funext k
  unfold vx
  by_cases c : k = 7
  · rw [if_pos c, c]
  · rw [if_neg c, h k c]
theorem tRide_7 {v v' : Nat → Int32} {L : List Int32} (h : ∀ k, k ≠ 7 → v' k = v k) : tRide NP NJ w ck v' L = tRide NP NJ w ck v L := by rw [v7_eq h]; rfl
theorem tRun_7 {v v' : Nat → Int32} {L : List Int32} (h : ∀ k, k ≠ 7 → v' k = v k) : tRun NP NJ w ck v' L = tRun NP NJ w ck v L := by rw [v7_eq h]; rfl
theorem tCost_7 {v v' : Nat → Int32} {L : List Int32} (h : ∀ k, k ≠ 7 → v' k = v k) : tCost NP NJ w ck v' L = tCost NP NJ w ck v L := by rw [v7_eq h]; rfl
theorem slF_7 {v v' : Nat → Int32} {L : List Int32} {k : Nat} {a : Int32} (h : ∀ k, k ≠ 7 → v' k = v k) : slF NP NJ w v' L k a = slF NP NJ w v L k a := by rw [v7_eq h]; rfl
theorem bound_7 {vv vv' : Nat → Nat → Int32} {j : Int32} (h : ∀ n k, k ≠ 7 → vv' n k = vv n k) : boundF NV R vv' j = boundF NV R vv j := by
  unfold boundF
  rw [h 0 6 (by omega), h 1 6 (by omega), h 2 6 (by omega)]
theorem pC_7 (C : pC NP NJ NV w vv N R) {vv' : Nat → Nat → Int32} (h : ∀ n k, k ≠ 7 → vv' n k = vv n k) : pC NP NJ NV w vv' N R :=
  ⟨C.1, C.2.1, ⟨C.2.2.1.1, fun n hn => by rw [v7_eq (h n)]; exact C.2.2.1.2 n hn⟩, C.2.2.2.1, C.2.2.2.2.1, fun n hn => by rw [v7_eq (h n)]; exact C.2.2.2.2.2 n hn⟩
theorem cost_7 (C : pC NP NJ NV w vv N R) {vv' : Nat → Nat → Int32} (h : ∀ n k, k ≠ 7 → vv' n k = vv n k) : costF NP NJ NV w ck vv' R = costF NP NJ NV w ck vv R := by
  have C' := pC_7 C h
  refine (i_eq (cost_I C') (cost_I C)).mpr ?_
  rw [csI_vx (vv := vv') (vv' := vv) (fun n _ M => by rw [v7_eq (h n)]; rfl)]
theorem ss_Y {Y Y' : Nat → List Int32} : (ssFrom NP NJ NV w ck R 0 (vv, Y)).1 = (ssFrom NP NJ NV w ck R 0 (vv, Y')).1 := by
  funext m
  rw [ss_at.1, ss_at.1]
theorem gain_any {S : Nat → Nat} {Y : Nat → List Int32} {kd : Nat} : (skF NP NJ NV w ck (ssFrom NP NJ NV w ck R 0 (vv, Y)).1 R S kd (0, (ssFrom NP NJ NV w ck R 0 (vv, Y)).2)).1 = gF NP NJ NV w ck vv R S kd := by
  unfold gF
  rw [ss_Y (Y := Y) (Y' := R)]
  have h : iyR NV (0, (ssFrom NP NJ NV w ck R 0 (vv, Y)).2) (0, (ssFrom NP NJ NV w ck R 0 (vv, R)).2) := ⟨rfl, fun n hn => by
    show (ssFrom NP NJ NV w ck R 0 (vv, Y)).2 n = (ssFrom NP NJ NV w ck R 0 (vv, R)).2 n
    rw [ss_at.2, ss_at.2, if_pos hn, if_pos hn]⟩
  exact (sk_rel h).1
theorem gF_again {S : Nat → Nat} {Y : Nat → List Int32} {kd : Nat} : gF NP NJ NV w ck (ssFrom NP NJ NV w ck R 0 (vv, Y)).1 R S kd = gF NP NJ NV w ck vv R S kd := by
  rw [← gain_any (vv := vv) (Y := Y)]
  exact gain_again
theorem gF_ge (C : pC NP NJ NV w vv N R) {S : Nat → Nat} {kd : Nat} : ¬ gF NP NJ NV w ck vv R S kd < 0 := gain_ge C
theorem dgV_7 {v v' : Nat → Int32} {L : List Int32} {d : Int64} (h : ∀ k, k ≠ 7 → v' k = v k) : dgV NP NJ w ck v' L d = dgV NP NJ w ck v L d := by rw [v7_eq h]; rfl
/-- asking leaves the digest as it is -/
theorem dgF_again (C : pC NP NJ NV w vv N R) {S : Nat → Nat} {Y : Nat → List Int32} : dgF NP NJ NV w ck (ssFrom NP NJ NV w ck R 0 (vv, Y)).1 R S = dgF NP NJ NV w ck vv R S := by
  have h7 : ∀ n k, k ≠ 7 → (ssFrom NP NJ NV w ck R 0 (vv, Y)).1 n k = vv n k := fun n k hk => ss_6 hk
  have e2 : dgJ NV (ssFrom NP NJ NV w ck R 0 (vv, Y)).1 R = dgJ NV vv R := by
    funext d J; unfold dgJ; rw [bound_7 h7]
  have e3 : (fun (d : Int64) n => dgV NP NJ w ck ((ssFrom NP NJ NV w ck R 0 (vv, Y)).1 n) (R n) d) = fun d n => dgV NP NJ w ck (vv n) (R n) d := by
    funext d n; exact dgV_7 (h7 n)
  unfold dgF dgJF dgVF dg0
  rw [gF_again, gF_again, gF_again, gF_again, e2, e3, cost_7 C h7]
end
