/-! jobs are taken out -/
theorem loadI_app {w : Nat → Nat → Int32} {A B : List Nat} : loadI w (A ++ B) = loadI w A + loadI w B := by
  induction A with
  | nil => show loadI w B = 0 + loadI w B; omega
  | cons s A ih => show (w 8 s).toInt + loadI w (A ++ B) = (w 8 s).toInt + loadI w A + loadI w B; rw [ih]; omega
/-- the loads of one job in a row -/
theorem load_split {w : Nat → Nat → Int32} {J : Nat} {x : Int} (h1 : (w 8 (2 * J)).toInt = x) (h2 : (w 8 (2 * J + 1)).toInt = -x) : ∀ (A : List Nat), loadI w A = loadI w (nWithout A J) + (x * A.count (2 * J) - x * A.count (2 * J + 1)) := by
  intro A
  induction A with
  | nil => show (0 : Int) = 0 + (x * (0 : Nat) - x * (0 : Nat)); simp
  | cons s A ih =>
    rw [List.count_cons, List.count_cons]
    by_cases c : s / 2 = J
    · have e : nWithout (s :: A) J = nWithout A J := by unfold nWithout; rw [List.filter_cons_of_neg (by simp [c])]
      rw [e]
      show (w 8 s).toInt + loadI w A = _
      rw [ih]
      rcases nat_eo s with ⟨K, rfl⟩ | ⟨K, rfl⟩
      · have hK : K = J := by omega
        subst hK
        rw [h1, if_pos (by simp), if_neg (by simp)]
        rw [Int.natCast_add, Int.natCast_add, Int.mul_add, Int.mul_add]
        simp
        omega
      · have hK : K = J := by omega
        subst hK
        rw [h2, if_neg (by simp), if_pos (by simp)]
        rw [Int.natCast_add, Int.natCast_add, Int.mul_add, Int.mul_add]
        simp
        omega
    · have e : nWithout (s :: A) J = s :: nWithout A J := by unfold nWithout; rw [List.filter_cons_of_pos (by simp [c])]
      rw [e]
      show (w 8 s).toInt + loadI w A = (w 8 s).toInt + loadI w (nWithout A J) + _
      rw [ih, if_neg (by simp; omega), if_neg (by simp; omega)]
      simp
      omega
section
variable {NP NJ NV : Nat} {w vv : Nat → Nat → Int32} {ck : Int32} {N : Nat → List Nat} {R : Nat → List Int32}
theorem load_less (hj : jOk NP NJ w) {M A B : List Nat} (hM : rV NJ M) (hnd : M.Nodup) (e : M = A ++ B) (J : Nat) : loadI w (nWithout A J) ≤ loadI w A := by
  by_cases hJ : J < NJ
  · have h1 := hj.2.2 J hJ
    have hs := load_split (w := w) (J := J) rfl h1.2.1 A
    have hndA : A.Nodup := by rw [e] at hnd; exact (List.nodup_append.mp hnd).1
    have hb := hM.2.2
    rw [e, bOk_app] at hb
    have c1 := List.nodup_iff_count.mp hndA (2 * J + 1)
    have hle : A.count (2 * J + 1) ≤ A.count (2 * J) := by
      by_cases c : 2 * J + 1 ∈ A
      · rcases bOk_mem hb.1 (2 * J + 1) c (by omega) with h | h
        · rw [show 2 * J + 1 - 1 = 2 * J by omega] at h
          have := List.count_pos_iff.mpr h
          omega
        · exact h.elim
      · rw [List.count_eq_zero.mpr c]; exact Nat.zero_le _
    have hm : (w 8 (2 * J)).toInt * (A.count (2 * J + 1) : Int) ≤ (w 8 (2 * J)).toInt * (A.count (2 * J) : Int) := Int.mul_le_mul_of_nonneg_left (by omega) (by omega)
    omega
  · have e2 : nWithout A J = A := by
      unfold nWithout
      refine List.filter_eq_self.mpr (fun s hs => decide_eq_true ?_)
      have := hM.1 s (by rw [e]; exact List.mem_append.mpr (Or.inl hs))
      omega
    rw [e2]; exact Int.le_refl _
theorem cap_without (hj : jOk NP NJ w) {v : Nat → Int32} {M : List Nat} (hM : rV NJ M) (hnd : M.Nodup) (hc : capOk w v M) (J : Nat) : capOk w v (nWithout M J) := by
  intro A B e
  unfold nWithout at e
  obtain ⟨A', B', h1, h2, h3⟩ := List.filter_eq_append_iff.mp e
  have h4 := load_less hj hM hnd h1 J
  have h5 := hc A' B' h1
  rw [← h2]
  unfold nWithout at h4
  omega
/-- the routes without a job -/
def nTake (N : Nat → List Nat) (J : Nat) : Nat → List Nat := fun n => nWithout (N n) J
theorem cn_take {J s : Nat} : cn NV (nTake N J) s = if s / 2 = J then 0 else cn NV N s := by
  induction NV with
  | zero => show (0 : Nat) = _; split <;> rfl
  | succ m ih =>
    show cn m (nTake N J) s + (nWithout (N m) J).count s = if s / 2 = J then 0 else cn m N s + (N m).count s
    rw [ih, cnt_without]
    split <;> rfl
theorem take_pC (C : pC NP NJ NV w vv N R) (J : Nat) {R' : Nat → List Int32} (hR' : ∀ n, n < NV → R' n = mp (nTake N J n)) : pC NP NJ NV w vv (nTake N J) R' := by
  obtain ⟨hg, hj, hv, hN, hR, hc⟩ := id C
  refine ⟨hg, hj, hv, ⟨fun s => ?_, fun n hn => rV_without (hN.2 n hn)⟩, hR', fun n hn => cap_without hj (hN.2 n hn) (gV_nd hN hn) (hc n hn) J⟩
  rw [cn_take]
  split
  · omega
  · exact hN.1 s
theorem tk_at (C : pC NP NJ NV w vv N R) {J : Nat} (hJ : J < 9) {m : Nat} : tkFrom NV (nI J) 0 R m = if m < NV then mp (nTake N J m) else R m := by
  unfold tkFrom
  have key : ∀ (k n : Nat) (R' : Nat → List Int32), n + k ≤ NV → (∀ x, n ≤ x → x < NV → R' x = mp (N x)) → ((List.range' n k).foldl (tkStep (nI J)) R') m = if n ≤ m ∧ m < n + k then mp (nTake N J m) else R' m := by
    intro k
    induction k with
    | zero => intro n R' _ _; rw [if_neg (by omega)]; rfl
    | succ k ih =>
      intro n R' hk hx
      rw [List.range'_succ, List.foldl_cons]
      have hn : n < NV := by omega
      have h18 := C.s18 hn
      have e1 : tkStep (nI J) R' n = va_up R' n (mp (nWithout (N n) J)) := by
        unfold tkStep
        rw [hx n (Nat.le_refl n) hn, fOf_nI, rFind_mp (by omega) (fun x hx => by have := h18 x hx; omega)]
        by_cases c : 2 * J ∈ N n
        · rw [if_pos c, if_neg (nI_ne1 (by have := List.idxOf_lt_length_iff.mpr c; have := C.len hn; omega)), rWithout_mp h18 hJ]
        · rw [if_neg c, if_pos rfl]
          have e2 : nWithout (N n) J = N n := by
            unfold nWithout
            refine List.filter_eq_self.mpr (fun s hs => decide_eq_true (fun q => ?_))
            rcases nat_eo s with ⟨K, rfl⟩ | ⟨K, rfl⟩
            · exact c (by rw [show 2 * J = 2 * K by omega]; exact hs)
            · have hb := bOk_mem (C.2.2.2.1.2 n hn).2.2 (2 * K + 1) hs (by omega)
              rw [show 2 * K + 1 - 1 = 2 * J by omega] at hb
              exact hb.elim c id
          rw [e2]
          funext x
          show R' x = if x = n then _ else R' x
          by_cases z : x = n
          · rw [if_pos z, z]; exact hx n (Nat.le_refl n) hn
          · rw [if_neg z]
      rw [e1, ih (n + 1) _ (by omega) (fun x h1 h2 => by show (if x = n then _ else R' x) = _; rw [if_neg (by omega)]; exact hx x (by omega) h2)]
      have e3 : va_up R' n (mp (nWithout (N n) J)) m = if m = n then mp (nWithout (N n) J) else R' m := rfl
      by_cases z : m = n
      · subst z
        have z1 : ¬ (m + 1 ≤ m ∧ m < m + 1 + k) := by omega
        have z2 : m ≤ m ∧ m < m + (k + 1) := by omega
        rw [if_neg z1, if_pos z2, e3, if_pos rfl]; rfl
      · rw [e3, if_neg z]
        by_cases z2 : n + 1 ≤ m ∧ m < n + 1 + k
        · rw [if_pos z2, if_pos (by omega)]
        · rw [if_neg z2, if_neg (by omega)]
  rw [key (NV - 0) 0 R (by omega) (fun x _ hx => C.2.2.2.2.1 x hx)]
  by_cases c : m < NV
  · rw [if_pos c, if_pos (by omega)]
  · rw [if_neg c, if_neg (by omega)]
theorem tk_good (C : pC NP NJ NV w vv N R) {J : Nat} (hJ : J < 9) : pC NP NJ NV w vv (nTake N J) (tkFrom NV (nI J) 0 R) ∧ ∀ n, NV ≤ n → tkFrom NV (nI J) 0 R n = R n :=
  ⟨take_pC C J (fun n hn => by rw [tk_at C hJ, if_pos hn]), fun n hn => by rw [tk_at C hJ, if_neg (by omega)]⟩
/-- a shorter way -/
theorem pLen_filter (hg : gOk NP w) {h : Nat} (hh : h < NP) {f : Nat → Bool} : ∀ (M : List Nat) (p : Nat), p < NP → (∀ s, s ∈ M → plc w s < NP) → pLen w p ((M.filter f).map (plc w) ++ [h]) ≤ pLen w p (M.map (plc w) ++ [h]) := by
  intro M
  induction M with
  | nil => intro p _ _; exact Int.le_refl _
  | cons s M ih =>
    intro p hp hM
    have hs := hM s List.mem_cons_self
    have h1 := ih (plc w s) hs (fun x hx => hM x (List.mem_cons_of_mem _ hx))
    by_cases c : f s = true
    · rw [List.filter_cons_of_pos c]
      show DI w p (plc w s) + _ ≤ DI w p (plc w s) + _
      exact Int.add_le_add_left h1 _
    · rw [List.filter_cons_of_neg c]
      show _ ≤ DI w p (plc w s) + pLen w (plc w s) (M.map (plc w) ++ [h])
      have h2 : pLen w p ((M.filter f).map (plc w) ++ [h]) ≤ DI w p (plc w s) + pLen w (plc w s) ((M.filter f).map (plc w) ++ [h]) := by
        cases e : M.filter f with
        | nil =>
          have := hg.tri hp hs hh
          show DI w p h + 0 ≤ DI w p (plc w s) + (DI w (plc w s) h + 0)
          omega
        | cons x r =>
          have hx : x ∈ M := (List.mem_filter.mp (by rw [e]; exact List.mem_cons_self)).1
          have := hg.tri hp hs (hM x (List.mem_cons_of_mem _ hx))
          show DI w p (plc w x) + _ ≤ DI w p (plc w s) + (DI w (plc w s) (plc w x) + _)
          omega
      exact Int.le_trans h2 (Int.add_le_add_left h1 _)
theorem cost_without (hg : gOk NP w) (hj : jOk NP NJ w) {v : Nat → Int32} {M : List Nat} (hv : vOk NP v) (hM : ∀ s, s ∈ M → s < 2 * NJ) (J : Nat) : costI w v (nWithout M J) ≤ costI w v M := by
  obtain ⟨⟨h, hh, e⟩, -, -, hp, hf⟩ := id hv
  have h12 := hg.1
  have e0 : (v 0).toInt.toNat = h := by rw [e, nI_toInt (by omega)]; exact Int.toNat_natCast h
  have h1 : lenI w h (nWithout M J) ≤ lenI w h M := pLen_filter hg hh M h hh (fun s hs => plc_lt hg hj (hM s hs))
  have h2 := lenI_rng hg hj hh (M := M) hM
  have h4 : 0 ≤ (v 4).toInt * lenI w h M := Int.mul_nonneg (by omega) h2.1
  unfold costI
  rw [e0]
  by_cases c : M = []
  · subst c; exact Int.le_refl _
  · rw [if_neg c]
    split
    · omega
    · have h3 : (v 4).toInt * lenI w h (nWithout M J) ≤ (v 4).toInt * lenI w h M := Int.mul_le_mul_of_nonneg_left h1 (by omega)
      omega
/-- what is saved without a job is never below 0 -/
theorem sv_I (C : pC NP NJ NV w vv N R) {J n : Nat} (hJ : J < 9) (hn : n < NV) (hm : 2 * J ∈ N n) (hlt : ∀ m, m < n → 2 * J ∉ N m) : (svF NP NJ NV w ck vv R (nI J)).toInt = costI w (vv n) (N n) - costI w (vv n) (nWithout (N n) J) := by
  obtain ⟨hg, hj, hv, hN, hR, hc⟩ := id C
  have h3 := hv.1
  have key : ∀ k, k < NV → (rFind (R k) (fOf (nI J)) = -1 ↔ 2 * J ∉ N k) := fun k hk => by
    rw [fOf_nI, fnd (fun n hn => C.s18 hn) hR hk (by omega)]
    by_cases c : 2 * J ∈ N k
    · rw [if_pos c]
      have := List.idxOf_lt_length_iff.mpr c
      have := C.len hk
      exact ⟨fun h => absurd h (nI_ne1 (by omega)), fun h => absurd c h⟩
    · rw [if_neg c]; exact ⟨fun _ => c, fun _ => rfl⟩
  have le : ∀ k, k < 3 → (nI NV ≤ nI k ↔ NV ≤ k) := fun k hk => nI_leN (by omega) (by omega)
  have fin : (tCost NP NJ w ck (vv n) (R n) - tCost NP NJ w ck (vv n) (rWithout (R n) (nI J))).toInt = costI w (vv n) (N n) - costI w (vv n) (nWithout (N n) J) := by
    have a1 := tCost_I (ck := ck) hg hj (hv.2 n hn) (hN.2 n hn).1 (C.len hn)
    have hl : (nWithout (N n) J).length ≤ 18 := Nat.le_trans (List.length_filter_le _ _) (C.len hn)
    have a2 := tCost_I (ck := ck) hg hj (hv.2 n hn) (rV_without (J := J) (hN.2 n hn)).1 hl
    rw [hR n hn, rWithout_mp (C.s18 hn) hJ]
    exact i_sub a1.1 a2.1 (by omega)
  unfold svF
  have n0 : ¬ nI NV ≤ nI 0 := fun c => by have := (le 0 (by omega)).mp c; omega
  rw [if_neg n0]
  rcases (by omega : n = 0 ∨ n = 1 ∨ n = 2) with rfl | rfl | rfl
  · rw [if_neg (fun q => ((key 0 hn).mp q) hm)]; exact fin
  · rw [if_pos ((key 0 (by omega)).mpr (hlt 0 (by omega))), if_neg (fun c => by have := (le 1 (by omega)).mp c; omega), if_neg (fun q => ((key 1 hn).mp q) hm)]; exact fin
  · rw [if_pos ((key 0 (by omega)).mpr (hlt 0 (by omega))), if_neg (fun c => by have := (le 1 (by omega)).mp c; omega), if_pos ((key 1 (by omega)).mpr (hlt 1 (by omega))), if_neg (fun c => by have := (le 2 (by omega)).mp c; omega), if_neg (fun q => ((key 2 hn).mp q) hm)]; exact fin
end
