/-! an insertion by hand; gains; sums; what a route holds, seen from a job -/
section
variable {NP NJ NV : Nat} {w vv : Nat → Nat → Int32} {ck : Int32} {N : Nat → List Nat} {R : Nat → List Int32}
theorem ia_good (C : pC NP NJ NV w vv N R) {J K i k : Nat} (hJ : J < NJ) (hK : K < NV) (hno : carrF NV R (nI J) = -1) (hik : i ≤ k) (hk : k ≤ (R K).length) :
    (∃ N', pC NP NJ NV w vv N' (iaF NP NJ w ck vv R (nI J) K i k).2) ∧ ∀ n, NV ≤ n → (iaF NP NJ w ck vv R (nI J) K i k).2 n = R n := by
  have hJ9 := C.2.1.1
  unfold iaF
  by_cases h : nI i < vv K 6
  · rw [if_pos h]; exact ⟨⟨N, C⟩, fun n _ => rfl⟩
  · rw [if_neg h]
    by_cases h2 : tAllowed (tRide NP NJ w ck (vv K) (rWith (R K) (nI J) i k)) (vv K) = true
    · rw [if_pos h2]
      refine ⟨⟨_, put_good C hJ hK (open_of_carr C (by omega) hno) hik hk (tAllowed_9 h2)⟩, fun n hn => ?_⟩
      show va_up R K _ n = R n
      unfold va_up
      rw [if_neg (by omega)]
    · rw [if_neg h2]; exact ⟨⟨N, C⟩, fun n _ => rfl⟩
/-- a gain is not below 0 -/
theorem gain_ge (C : pC NP NJ NV w vv N R) {S : Nat → Nat} {Y : Nat → List Int32} {kd : Nat} : ¬ (skF NP NJ NV w ck (ssFrom NP NJ NV w ck R 0 (vv, Y)).1 R S kd (0, (ssFrom NP NJ NV w ck R 0 (vv, Y)).2)).1 < 0 := by
  obtain ⟨-, -, -, -, -, h, -⟩ := sk_good (S := S) (kd := kd) (C.start (ck := ck) (Y := Y)) (start_good C)
  have z0 : (0 : Int32).toInt = (0 : Int) := rfl
  rw [i_lt rfl z0]
  omega
/-- a change gains what was foreseen -/
theorem gain_again {S : Nat → Nat} {Y Y' : Nat → List Int32} {kd : Nat} :
    (skF NP NJ NV w ck (ssFrom NP NJ NV w ck R 0 ((ssFrom NP NJ NV w ck R 0 (vv, Y)).1, Y')).1 R S kd (0, (ssFrom NP NJ NV w ck R 0 ((ssFrom NP NJ NV w ck R 0 (vv, Y)).1, Y')).2)).1 =
      (skF NP NJ NV w ck (ssFrom NP NJ NV w ck R 0 (vv, Y)).1 R S kd (0, (ssFrom NP NJ NV w ck R 0 (vv, Y)).2)).1 := by
  rw [ss_again]
  have h : iyR NV (0, (ssFrom NP NJ NV w ck R 0 ((ssFrom NP NJ NV w ck R 0 (vv, Y)).1, Y')).2) (0, (ssFrom NP NJ NV w ck R 0 (vv, Y)).2) := ⟨rfl, fun n hn => by
    show (ssFrom NP NJ NV w ck R 0 ((ssFrom NP NJ NV w ck R 0 (vv, Y)).1, Y')).2 n = (ssFrom NP NJ NV w ck R 0 (vv, Y)).2 n
    rw [ss_at.2, ss_at.2, if_pos hn, if_pos hn]⟩
  exact (sk_rel h).1
/-- what a kind of change leaves -/
theorem change_good (C : pC NP NJ NV w vv N R) {S : Nat → Nat} {Y : Nat → List Int32} {kd : Nat} :
    ∃ N', pC NP NJ NV w (ssFrom NP NJ NV w ck R 0 (vv, Y)).1 N' (mbFrom NV (skF NP NJ NV w ck (ssFrom NP NJ NV w ck R 0 (vv, Y)).1 R S kd (0, (ssFrom NP NJ NV w ck R 0 (vv, Y)).2)).2 0 R) ∧
      costF NP NJ NV w ck (ssFrom NP NJ NV w ck R 0 (vv, Y)).1 (mbFrom NV (skF NP NJ NV w ck (ssFrom NP NJ NV w ck R 0 (vv, Y)).1 R S kd (0, (ssFrom NP NJ NV w ck R 0 (vv, Y)).2)).2 0 R) = costF NP NJ NV w ck vv R - (skF NP NJ NV w ck (ssFrom NP NJ NV w ck R 0 (vv, Y)).1 R S kd (0, (ssFrom NP NJ NV w ck R 0 (vv, Y)).2)).1 := by
  obtain ⟨N', h1, -, h2, h3, h4⟩ := made_good (ck := ck) C (Y := Y) (sk_good (S := S) (kd := kd) (C.start (ck := ck) (Y := Y)) (start_good C))
  refine ⟨N', h1, ?_⟩
  have b1 := cost_I (ck := ck) C
  have b2 := csI_rng C (m := NV) (Nat.le_refl _)
  have b3 := opI_rng C.2.1 (c := cn NV N) (m := NJ) (Nat.le_refl _)
  have h3' := C.2.2.1.1
  have hJ9 := C.2.1.1
  exact (i_eq h3 (i_sub rfl rfl (by omega))).mpr rfl
/-- the routes' costs, one after the other -/
theorem sum_step (C : pC NP NJ NV w vv N R) {m : Nat} (hm : m < NV) {s : Int32} (hs : s.toInt = csI w vv m N) : (s + tCost NP NJ w ck (vv m) (R m)).toInt = csI w vv (m + 1) N := by
  have b1 := csI_rng C (m := m) (by omega)
  have h := tCost_I (ck := ck) C.1 C.2.1 (C.2.2.1.2 m hm) (C.2.2.2.1.2 m hm).1 (C.len hm)
  rw [show (N m).map nI = R m from (C.2.2.2.2.1 m hm).symm] at h
  have h3' := C.2.2.1.1
  exact i_add hs h.1 (by omega)
theorem even_in (C : pC NP NJ NV w vv N R) {n s : Nat} (hn : n < NV) (hs : s ∈ N n) : 2 * (s / 2) ∈ N n := by
  rcases nat_eo s with ⟨J, rfl⟩ | ⟨J, rfl⟩
  · rw [show 2 * J / 2 = J by omega]; exact hs
  · have hb := bOk_mem (C.2.2.2.1.2 n hn).2.2 (2 * J + 1) hs (by omega)
    rw [show 2 * J + 1 - 1 = 2 * J by omega] at hb
    rw [show (2 * J + 1) / 2 = J by omega]
    exact hb.elim id False.elim
/-- a stop's job is in the route of the stop -/
theorem carr_at (C : pC NP NJ NV w vv N R) {n s : Nat} (hn : n < NV) (hs : s ∈ N n) : carrF NV R (nI (s / 2)) = nI n := by
  have h18 := C.s18 hn s hs
  have he := even_in C hn hs
  rcases C.carr (J := s / 2) (by omega) with ⟨m, hm, h1, h2, -⟩ | ⟨h1, -⟩
  · by_cases c : m = n
    · rw [h2, c]
    · exact absurd he (gV_dis C.2.2.2.1 hm hn c h1)
  · exact absurd he (h1 n hn)
/-- it is set with the stop at which it is fetched -/
theorem bound_at (C : pC NP NJ NV w vv N R) {n s : Nat} (hn : n < NV) (hs : s ∈ N n) : boundF NV R vv (nI (s / 2)) = decide (nI ((N n).idxOf (2 * (s / 2))) < vv n 6) := by
  have h18 := C.s18 hn s hs
  have he := even_in C hn hs
  have h3 := C.2.2.1.1
  have hf : ∀ m, m < NV → rFind (R m) (fOf (nI (s / 2))) = if m = n then nI ((N n).idxOf (2 * (s / 2))) else -1 := fun m hm => by
    rw [fOf_nI, fnd (fun n hn => C.s18 hn) C.2.2.2.2.1 hm (by omega)]
    by_cases c : m = n
    · subst c; rw [if_pos he, if_pos rfl]
    · rw [if_neg c, if_neg (fun h => gV_dis C.2.2.2.1 hm hn c h he)]
  have hl := C.len hn
  have hi := List.idxOf_lt_length_iff.mpr he
  have hne : ¬ nI ((N n).idxOf (2 * (s / 2))) = -1 := nI_ne1 (by omega)
  have le : ∀ k, k < 3 → (nI NV ≤ nI k ↔ NV ≤ k) := fun k hk => nI_leN (by omega) (by omega)
  have e : ∀ a b : Int32, (!decide (a ≤ b)) = decide (b < a) := fun a b => by
    by_cases c : b < a
    · rw [decide_eq_true c, decide_eq_false (Int32.not_le.mpr c)]; rfl
    · rw [decide_eq_false c, decide_eq_true (Int32.not_lt.mp c)]; rfl
  unfold boundF
  rcases (by omega : n = 0 ∨ n = 1 ∨ n = 2) with rfl | rfl | rfl
  · rw [if_neg ((not_congr (le 0 (by omega))).mpr (by omega)), hf 0 hn, if_pos rfl, if_neg hne, e]
  · rw [if_neg ((not_congr (le 0 (by omega))).mpr (by omega)), hf 0 (by omega), if_neg (by omega : ¬ (0 : Nat) = 1), if_pos rfl, if_neg ((not_congr (le 1 (by omega))).mpr (by omega)), hf 1 hn, if_pos rfl, if_neg hne, e]
  · rw [if_neg ((not_congr (le 0 (by omega))).mpr (by omega)), hf 0 (by omega), if_neg (by omega : ¬ (0 : Nat) = 2), if_pos rfl, if_neg ((not_congr (le 1 (by omega))).mpr (by omega)), hf 1 (by omega), if_neg (by omega : ¬ (1 : Nat) = 2), if_pos rfl, if_neg ((not_congr (le 2 (by omega))).mpr (by omega)), hf 2 hn, if_pos rfl, if_neg hne, e]
theorem bound_open (C : pC NP NJ NV w vv N R) {J : Nat} (hJ : J < 9) (h : carrF NV R (nI J) = -1) : boundF NV R vv (nI J) = false := by
  have hno := open_of_carr C hJ h
  have h3 := C.2.2.1.1
  have hf : ∀ m, m < NV → rFind (R m) (fOf (nI J)) = -1 := fun m hm => by
    rw [fOf_nI, fnd (fun n hn => C.s18 hn) C.2.2.2.2.1 hm (by omega), if_neg (hno m hm)]
  have le : ∀ k, k < 3 → (nI NV ≤ nI k ↔ NV ≤ k) := fun k hk => nI_leN (by omega) (by omega)
  unfold boundF
  by_cases c0 : NV ≤ 0
  · rw [if_pos ((le 0 (by omega)).mpr c0)]
  rw [if_neg ((not_congr (le 0 (by omega))).mpr c0), if_pos (hf 0 (by omega))]
  by_cases c1 : NV ≤ 1
  · rw [if_pos ((le 1 (by omega)).mpr c1)]
  rw [if_neg ((not_congr (le 1 (by omega))).mpr c1), if_pos (hf 1 (by omega))]
  by_cases c2 : NV ≤ 2
  · rw [if_pos ((le 2 (by omega)).mpr c2)]
  rw [if_neg ((not_congr (le 2 (by omega))).mpr c2), if_pos (hf 2 (by omega))]
/-- the stop at which a job is fetched is set with the stops ahead of it -/
theorem bound_k (C : pC NP NJ NV w vv N R) {n k : Nat} (hn : n < NV) (hk : k < (N n).length) (he : (N n)[k] % 2 = 0) : boundF NV R vv (nI ((N n)[k] / 2)) = decide (nI k < vv n 6) := by
  rw [bound_at C hn (List.getElem_mem hk), show 2 * ((N n)[k] / 2) = (N n)[k] by omega, (gV_nd C.2.2.2.1 hn).idxOf_getElem k hk]
end
