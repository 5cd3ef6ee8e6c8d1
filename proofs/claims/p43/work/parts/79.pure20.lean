/-! how often a job was seen -/
section
variable {NP NJ NV : Nat} {w vv : Nat → Nat → Int32} {ck : Int32} {N : Nat → List Nat} {R : Nat → List Int32}
/-- how many stops of the job J stand in the routes ahead of v, and in the first k stops of v -/
def sn (N : Nat → List Nat) (v k J : Nat) : Nat := (cn v N (2 * J) + ((N v).take k).count (2 * J)) + (cn v N (2 * J + 1) + ((N v).take k).count (2 * J + 1))
theorem sn_0 {J : Nat} : sn N 0 0 J = 0 := rfl
theorem sn_next {v J : Nat} : sn N (v + 1) 0 J = sn N v (N v).length J := by
  unfold sn
  rw [List.take_length]
  show (cn v N (2 * J) + (N v).count (2 * J) + 0) + (cn v N (2 * J + 1) + (N v).count (2 * J + 1) + 0) = _
  omega
theorem cnt_snoc {M : List Nat} {k s : Nat} (hk : k < M.length) : (M.take (k + 1)).count s = (M.take k).count s + if s = M[k] then 1 else 0 := by
  rw [List.take_succ_eq_append_getElem hk, List.count_append, List.count_singleton]
  by_cases c : s = M[k]
  · rw [if_pos c]; simp [c]
  · rw [if_neg c]; simp [Ne.symm c]
theorem sn_step {v k J : Nat} (hk : k < (N v).length) : sn N v (k + 1) J = if J = (N v)[k] / 2 then sn N v k J + 1 else sn N v k J := by
  unfold sn
  rw [cnt_snoc hk, cnt_snoc hk]
  by_cases c : J = (N v)[k] / 2
  · rw [if_pos c]
    by_cases d : 2 * J = (N v)[k]
    · rw [if_pos d, if_neg (by omega)]; omega
    · rw [if_neg d, if_pos (by omega)]; omega
  · rw [if_neg c, if_neg (by omega), if_neg (by omega)]; omega
theorem cn_mono {s : Nat} {a : Nat} : ∀ {n : Nat}, a < n → cn a N s + (N a).count s ≤ cn n N s := by
  intro n
  induction n with
  | zero => intro h; omega
  | succ n ih =>
    intro h
    show _ ≤ cn n N s + (N n).count s
    by_cases c : a = n
    · subst c; omega
    · have := ih (by omega); omega
/-- no stop was seen ahead of itself -/
theorem cn_ahead (C : pC NP NJ NV w vv N R) {v k : Nat} (hv : v < NV) (hk : k < (N v).length) : cn v N (N v)[k] = 0 ∧ ((N v).take k).count (N v)[k] = 0 := by
  have h := cn_mono (N := N) (s := (N v)[k]) hv
  have h1 := C.2.2.2.1.1 (N v)[k]
  have h2 : (N v).count (N v)[k] = ((N v).take k).count (N v)[k] + ((N v).drop k).count (N v)[k] := by rw [← List.count_append, List.take_append_drop]
  have h3 : 1 ≤ ((N v).drop k).count (N v)[k] := by
    rw [List.drop_eq_getElem_cons hk, List.count_cons_self]; omega
  omega
/-- as the law asks: a job is fetched, then brought -/
theorem sn_check (C : pC NP NJ NV w vv N R) {v k : Nat} (hv : v < NV) (hk : k < (N v).length) : sn N v k ((N v)[k] / 2) = if (N v)[k] % 2 = 0 then 0 else 1 := by
  obtain ⟨h1, h2⟩ := cn_ahead C hv hk
  have hb := (C.2.2.2.1.2 v hv).2.2
  have hbk : bOk (fun _ => False) ((N v).take k) ∧ bOk (fun x => x ∈ (N v).take k ∨ False) ((N v).drop k) := by
    rw [← bOk_app, List.take_append_drop]; exact hb
  -- the other routes hold nothing of the job
  have hoth : cn v N (2 * ((N v)[k] / 2)) = 0 := by
    have h := cn_mono (N := N) (s := 2 * ((N v)[k] / 2)) hv
    have h3 := C.2.2.2.1.1 (2 * ((N v)[k] / 2))
    have h4 := List.count_pos_iff.mpr (even_in C hv (List.getElem_mem hk))
    omega
  have hodd : cn v N (2 * ((N v)[k] / 2) + 1) = 0 := by
    have h0 : ∀ n, n < v → 2 * ((N v)[k] / 2) + 1 ∉ N n := fun n hn c => by
      have h5 := even_in C (n := n) (by omega) c
      rw [show (2 * ((N v)[k] / 2) + 1) / 2 = (N v)[k] / 2 by omega] at h5
      exact cn_zero.mp hoth n hn h5
    exact cn_zero.mpr h0
  unfold sn
  rw [hoth, hodd]
  by_cases c : (N v)[k] % 2 = 0
  · rw [if_pos c]
    rw [show 2 * ((N v)[k] / 2) = (N v)[k] by omega, h2]
    have h6 : (N v)[k] + 1 ∉ (N v).take k := fun h => by
      have h7 := bOk_mem hbk.1 _ h (by omega)
      rw [show (N v)[k] + 1 - 1 = (N v)[k] by omega] at h7
      have h8 := List.count_pos_iff.mpr (h7.elim id False.elim)
      omega
    rw [List.count_eq_zero.mpr h6]
  · rw [if_neg c]
    rw [show 2 * ((N v)[k] / 2) + 1 = (N v)[k] by omega, h2]
    have h8 : (N v)[k] - 1 ∈ (N v).take k := by
      have h9 := hbk.2
      rw [List.drop_eq_getElem_cons hk] at h9
      exact (h9.1 (by omega)).elim id False.elim
    have h10 := List.count_pos_iff.mpr h8
    have h11 : ((N v).take k).count ((N v)[k] - 1) ≤ (N v).count ((N v)[k] - 1) := (List.take_sublist k (N v)).count_le _
    have h12 := cn_ge (N := N) (s := (N v)[k] - 1) hv
    have h13 := C.2.2.2.1.1 ((N v)[k] - 1)
    rw [show 2 * ((N v)[k] / 2) = (N v)[k] - 1 by omega]
    omega
theorem sn_end (C : pC NP NJ NV w vv N R) {J : Nat} (hJ : J < 9) : sn N NV 0 J = if carrF NV R (nI J) = -1 then 0 else 2 := by
  have e : sn N NV 0 J = cn NV N (2 * J) + cn NV N (2 * J + 1) := by
    unfold sn
    rw [List.take_zero, List.count_nil, List.count_nil]; omega
  rw [e]
  rcases C.carr hJ with ⟨n, hn, hm, h1, -⟩ | ⟨h0, h1⟩
  · have h3 := C.2.2.1.1
    rw [h1, if_neg (nI_ne1 (by omega))]
    have a1 := C.2.2.2.1.1 (2 * J)
    have a2 := C.2.2.2.1.1 (2 * J + 1)
    have a3 := List.count_pos_iff.mpr hm
    have a4 := List.count_pos_iff.mpr ((C.2.2.2.1.2 n hn).2.1 J hm)
    have a5 := cn_ge (N := N) (s := 2 * J) hn
    have a6 := cn_ge (N := N) (s := 2 * J + 1) hn
    omega
  · rw [h1, if_pos rfl, cn_zero.mpr h0, cn_zero.mpr (fun n hn c => by
      have h5 := even_in C hn c
      rw [show (2 * J + 1) / 2 = J by omega] at h5
      exact h0 n hn h5)]
theorem sn_le (C : pC NP NJ NV w vv N R) {v k J : Nat} (hv : v < NV) : sn N v k J ≤ 2 := by
  have h : ∀ s, cn v N s + ((N v).take k).count s ≤ 1 := fun s => by
    have a1 := cn_mono (N := N) (s := s) hv
    have a2 := C.2.2.2.1.1 s
    have a3 : ((N v).take k).count s ≤ (N v).count s := (List.take_sublist k (N v)).count_le _
    omega
  have h1 := h (2 * J)
  have h2 := h (2 * J + 1)
  unfold sn
  omega
/-- sums over the first numbers -/
def sm (f : Nat → Nat) : Nat → Nat
  | 0 => 0
  | n + 1 => sm f n + f n
theorem sm_add {f g : Nat → Nat} : ∀ n, sm (fun J => f J + g J) n = sm f n + sm g n := by
  intro n
  induction n with
  | zero => rfl
  | succ n ih => show sm (fun J => f J + g J) n + (f n + g n) = sm f n + f n + (sm g n + g n); rw [ih]; omega
theorem sm_zero : ∀ n, sm (fun _ => 0) n = 0 := by
  intro n
  induction n with
  | zero => rfl
  | succ n ih => show sm (fun _ => 0) n + 0 = 0; rw [ih]
theorem sm_one {a : Nat} : ∀ n, a < n → sm (fun J => if J = a then 1 else 0) n = 1 := by
  intro n
  have h0 : ∀ m, m ≤ a → sm (fun J => if J = a then 1 else 0) m = 0 := by
    intro m
    induction m with
    | zero => intro _; rfl
    | succ m ih => intro h; show sm _ m + (if m = a then 1 else 0) = 0; rw [ih (by omega), if_neg (by omega)]
  induction n with
  | zero => intro h; omega
  | succ n ih =>
    intro h
    show sm _ n + (if n = a then 1 else 0) = 1
    by_cases c : n = a
    · rw [if_pos c, h0 n (by omega)]
    · rw [if_neg c, ih (by omega)]
theorem len_sm : ∀ (M : List Nat), (∀ s, s ∈ M → s < 2 * NJ) → M.length = sm (fun J => M.count (2 * J) + M.count (2 * J + 1)) NJ := by
  intro M
  induction M with
  | nil => intro _; exact (sm_zero NJ).symm
  | cons s M ih =>
    intro h
    have e : (fun J => (s :: M).count (2 * J) + (s :: M).count (2 * J + 1)) = fun J => (M.count (2 * J) + M.count (2 * J + 1)) + if J = s / 2 then 1 else 0 := by
      funext J
      rw [List.count_cons, List.count_cons]
      by_cases c : J = s / 2
      · rw [if_pos c]
        by_cases d : s = 2 * J
        · have d2 : ¬ s = 2 * J + 1 := by omega
          simp [d]
          omega
        · have d2 : s = 2 * J + 1 := by omega
          simp [d2]
          omega
      · have d1 : ¬ s = 2 * J := by omega
        have d2 : ¬ s = 2 * J + 1 := by omega
        rw [if_neg c]
        simp [d1, d2]
    rw [e, sm_add, sm_one NJ (by have := h s (List.mem_cons_self ..); omega), ← ih (fun x hx => h x (List.mem_cons_of_mem _ hx))]
    rfl
/-- how many stops stand in the routes ahead of v -/
def pl (N : Nat → List Nat) (v : Nat) : Nat := sm (fun n => (N n).length) v
theorem pl_sm (C : pC NP NJ NV w vv N R) : ∀ v, v ≤ NV → pl N v = sm (fun J => sn N v 0 J) NJ := by
  intro v
  induction v with
  | zero => intro _; exact (sm_zero NJ).symm
  | succ v ih =>
    intro h
    have e : (fun J => sn N (v + 1) 0 J) = fun J => sn N v 0 J + ((N v).count (2 * J) + (N v).count (2 * J + 1)) := by
      funext J
      rw [sn_next]
      unfold sn
      rw [List.take_length, List.take_zero, List.count_nil, List.count_nil]
      omega
    rw [e, sm_add, ← ih (by omega), ← len_sm (N v) (C.2.2.2.1.2 v (by omega)).1]
    rfl
theorem pl_le (C : pC NP NJ NV w vv N R) {v : Nat} (hv : v ≤ NV) : pl N v ≤ 54 := by
  have h3 := C.2.2.1.1
  have key : ∀ m, m ≤ NV → pl N m ≤ 18 * m := by
    intro m
    induction m with
    | zero => intro _; exact Nat.le_refl _
    | succ m ih =>
      intro h
      have h1 := ih (by omega)
      have h2 := C.len (n := m) (by omega)
      show pl N m + (N m).length ≤ 18 * (m + 1)
      omega
  have := key v hv
  omega
end
