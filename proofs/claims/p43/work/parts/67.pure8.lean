/-! who carries a job; kind 1 -/
theorem nSwap_even {a b J : Nat} : nSwap a b (2 * J) = 2 * nSw a b J := by
  unfold nSwap
  rw [if_pos (by omega), show 2 * J / 2 = J by omega]
theorem nSwap_odd {a b J : Nat} : nSwap a b (2 * J + 1) = 2 * nSw a b J + 1 := by
  unfold nSwap
  rw [if_neg (by omega), show (2 * J + 1) / 2 = J by omega]
theorem nat_eo (s : Nat) : (∃ J, s = 2 * J) ∨ ∃ J, s = 2 * J + 1 := by
  rcases (by omega : s % 2 = 0 ∨ s % 2 = 1) with h | h
  · exact Or.inl ⟨s / 2, by omega⟩
  · exact Or.inr ⟨s / 2, by omega⟩
theorem nSw_nSw {a b J : Nat} : nSw a b (nSw a b J) = J := by
  unfold nSw
  by_cases h1 : J = a
  · rw [if_pos h1]
    by_cases h2 : b = a
    · rw [if_pos h2, h1, h2]
    · rw [if_neg h2, if_pos rfl, h1]
  · rw [if_neg h1]
    by_cases h2 : J = b
    · rw [if_pos h2, if_pos rfl, h2]
    · rw [if_neg h2, if_neg h1, if_neg h2]
theorem nSwap_nSwap {a b s : Nat} : nSwap a b (nSwap a b s) = s := by
  rcases nat_eo s with ⟨J, rfl⟩ | ⟨J, rfl⟩
  · rw [nSwap_even, nSwap_even, nSw_nSw]
  · rw [nSwap_odd, nSwap_odd, nSw_nSw]
theorem nSwap_inj {a b s t : Nat} (h : nSwap a b s = nSwap a b t) : s = t := by rw [← nSwap_nSwap (a := a) (b := b) (s := s), h, nSwap_nSwap]
theorem cnt_map_inj {f : Nat → Nat} (hf : ∀ {s t : Nat}, f s = f t → s = t) {x : Nat} : ∀ (M : List Nat), (M.map f).count (f x) = M.count x := by
  intro M
  induction M with
  | nil => rfl
  | cons a M ih =>
    rw [List.map_cons, List.count_cons, List.count_cons, ih]
    by_cases h : a = x
    · subst h; simp
    · rw [if_neg (by simp; exact fun c => h (hf c)), if_neg (by simp [h])]
theorem cnt_swap {M : List Nat} {a b s : Nat} : (M.map (nSwap a b)).count s = M.count (nSwap a b s) := by
  have h := cnt_map_inj (f := nSwap a b) (fun h => nSwap_inj h) (x := nSwap a b s) M
  rw [nSwap_nSwap] at h
  exact h
theorem nSw_lt {a b J n : Nat} (ha : a < n) (hb : b < n) (hJ : J < n) : nSw a b J < n := by
  unfold nSw
  split
  · exact hb
  · split
    · exact ha
    · exact hJ
theorem rV_swap {NJ : Nat} {M : List Nat} {a b : Nat} (hM : rV NJ M) (ha : a < NJ) (hb : b < NJ) : rV NJ (M.map (nSwap a b)) := by
  refine ⟨fun s hs => ?_, fun J hJ => ?_, bOk_map (fun s => ?_) (fun s h => ?_) (P := fun _ => False) (fun x hx => hx.elim) hM.2.2⟩
  · obtain ⟨t, ht, rfl⟩ := List.mem_map.mp hs
    have h1 := hM.1 t ht
    rcases nat_eo t with ⟨J, rfl⟩ | ⟨J, rfl⟩
    · rw [nSwap_even]; have := nSw_lt ha hb (by omega : J < NJ); omega
    · rw [nSwap_odd]; have := nSw_lt ha hb (by omega : J < NJ); omega
  · obtain ⟨t, ht, e⟩ := List.mem_map.mp hJ
    rcases nat_eo t with ⟨K, rfl⟩ | ⟨K, rfl⟩
    · rw [nSwap_even] at e
      refine List.mem_map.mpr ⟨2 * K + 1, hM.2.1 K ht, ?_⟩
      rw [nSwap_odd]; omega
    · rw [nSwap_odd] at e; omega
  · rcases nat_eo s with ⟨J, rfl⟩ | ⟨J, rfl⟩
    · rw [nSwap_even]; omega
    · rw [nSwap_odd]; omega
  · obtain ⟨J, rfl⟩ : ∃ J, s = 2 * J + 1 := ⟨s / 2, by omega⟩
    rw [nSwap_odd, show 2 * J + 1 - 1 = 2 * J by omega, nSwap_even]; omega
section
variable {NP NJ NV : Nat} {w vv : Nat → Nat → Int32} {ck : Int32} {N : Nat → List Nat} {R : Nat → List Int32}
theorem fnd {NV : Nat} {N : Nat → List Nat} {R : Nat → List Int32} (h18 : ∀ n, n < NV → s18 (N n)) (hR : ∀ n, n < NV → R n = mp (N n)) {n s : Nat} (hn : n < NV) (hs : s < 18) : rFind (R n) (nI s) = if s ∈ N n then nI ((N n).idxOf s) else -1 := by
  rw [hR n hn]
  exact rFind_mp (by omega) (fun x hx => by have := h18 n hn x hx; omega)
theorem carr_mp {NV : Nat} {N : Nat → List Nat} {R : Nat → List Int32} (h3 : NV ≤ 3) (h18 : ∀ n, n < NV → s18 (N n)) (hl : ∀ n, n < NV → (N n).length ≤ 18) (hR : ∀ n, n < NV → R n = mp (N n)) {J : Nat} (hJ : J < 9) :
    (∃ n, n < NV ∧ 2 * J ∈ N n ∧ carrF NV R (nI J) = nI n ∧ ∀ m, m < n → 2 * J ∉ N m) ∨ ((∀ n, n < NV → 2 * J ∉ N n) ∧ carrF NV R (nI J) = -1) := by
  have key : ∀ n, n < NV → (rFind (R n) (fOf (nI J)) = -1 ↔ 2 * J ∉ N n) := fun n hn => by
    rw [fOf_nI, fnd h18 hR hn (by omega)]
    by_cases c : 2 * J ∈ N n
    · rw [if_pos c]
      have := List.idxOf_lt_length_iff.mpr c
      have := hl n hn
      exact ⟨fun h => absurd h (nI_ne1 (by omega)), fun h => absurd c h⟩
    · rw [if_neg c]; exact ⟨fun _ => c, fun _ => rfl⟩
  have le : ∀ k, k < 3 → (nI NV ≤ nI k ↔ NV ≤ k) := fun k hk => nI_leN (by omega) (by omega)
  unfold carrF
  by_cases c0 : NV ≤ 0
  · rw [if_pos ((le 0 (by omega)).mpr c0)]; exact Or.inr ⟨fun n hn => by omega, rfl⟩
  · rw [if_neg ((not_congr (le 0 (by omega))).mpr c0)]
    by_cases d0 : 2 * J ∈ N 0
    · rw [if_neg (fun q => ((key 0 (by omega)).mp q) d0)]; exact Or.inl ⟨0, by omega, d0, rfl, fun m hm => by omega⟩
    · rw [if_pos ((key 0 (by omega)).mpr d0)]
      by_cases c1 : NV ≤ 1
      · rw [if_pos ((le 1 (by omega)).mpr c1)]; exact Or.inr ⟨fun n hn => by rw [show n = 0 by omega]; exact d0, rfl⟩
      · rw [if_neg ((not_congr (le 1 (by omega))).mpr c1)]
        by_cases d1 : 2 * J ∈ N 1
        · rw [if_neg (fun q => ((key 1 (by omega)).mp q) d1)]; exact Or.inl ⟨1, by omega, d1, rfl, fun m hm => by rw [show m = 0 by omega]; exact d0⟩
        · rw [if_pos ((key 1 (by omega)).mpr d1)]
          by_cases c2 : NV ≤ 2
          · rw [if_pos ((le 2 (by omega)).mpr c2)]; exact Or.inr ⟨fun n hn => by rcases (by omega : n = 0 ∨ n = 1) with rfl | rfl; exact d0; exact d1, rfl⟩
          · rw [if_neg ((not_congr (le 2 (by omega))).mpr c2)]
            by_cases d2 : 2 * J ∈ N 2
            · rw [if_neg (fun q => ((key 2 (by omega)).mp q) d2)]; exact Or.inl ⟨2, by omega, d2, rfl, fun m hm => by rcases (by omega : m = 0 ∨ m = 1) with rfl | rfl; exact d0; exact d1⟩
            · rw [if_pos ((key 2 (by omega)).mpr d2)]; exact Or.inr ⟨fun n hn => by rcases (by omega : n = 0 ∨ n = 1 ∨ n = 2) with rfl | rfl | rfl; exact d0; exact d1; exact d2, rfl⟩
theorem sC.carr (C : sC NP NJ NV w vv ck N R) {J : Nat} (hJ : J < 9) : (∃ n, n < NV ∧ 2 * J ∈ N n ∧ carrF NV R (nI J) = nI n ∧ ∀ m, m < n → 2 * J ∉ N m) ∨ ((∀ n, n < NV → 2 * J ∉ N n) ∧ carrF NV R (nI J) = -1) := carr_mp (R := R) C.2.2.1.1 (fun n hn => C.s18 hn) (fun n hn => C.len hn) C.2.2.2.2.1 hJ
theorem one_cnt {a : Nat} (C : sC NP NJ NV w vv ck N R) (ha : a < NV) {s : Nat} (hs : s ∈ N a) : (N a).count s = 1 := by
  have h1 := List.count_pos_iff.mpr hs
  have h2 := List.nodup_iff_count.mp (gV_nd C.2.2.2.1 ha) s
  omega
theorem sw_good (C : sC NP NJ NV w vv ck N R) {q : IY} (hq : qG NJ NV w vv N q) : qG NJ NV w vv N (swJ NP NJ NV w ck vv R 0 q) := by
  have hJ9 := C.2.1.1
  unfold swJ
  refine fold_inv _ _ (fun J1 q h1 hq => ?_) hq
  have h1 := List.mem_range'_1.mp h1
  unfold swK
  refine fold_inv _ _ (fun J2 q h2 hq => ?_) hq
  have h2 := List.mem_range'_1.mp h2
  unfold swStep
  have neg1 : (-1 : Int32) < 0 := by decide
  rcases C.carr (J := J1) (by omega) with ⟨a, ha, m1, e1, -⟩ | ⟨-, e1⟩
  · rw [e1, if_neg (nI_pos (by have := C.2.2.1.1; omega)), if_neg (fun c => absurd ((nI_leN (by have := C.2.2.1.1; omega) (by have := C.2.2.1.1; omega)).mp c) (by omega))]
    rcases C.carr (J := J2) (by omega) with ⟨b, hb, m2, e2, -⟩ | ⟨-, e2⟩
    · rw [e2, if_neg (nI_pos (by have := C.2.2.1.1; omega)), if_pos (nI_lt hb (by have := C.2.2.1.1; omega))]
      by_cases c1 : boundF NV R vv (nI J1) = true
      · rw [if_pos c1]; exact hq
      · by_cases c2 : boundF NV R vv (nI J2) = true
        · rw [if_neg c1, if_pos c2]; exact hq
        · rw [if_neg c1, if_neg c2, nI_clamp (by have := C.2.2.1.1; omega), nI_clamp (by have := C.2.2.1.1; omega), C.2.2.2.2.1 a ha, C.2.2.2.2.1 b hb]
          rw [rSwap_mp (C.s18 ha) (by omega) (by omega), rSwap_mp (C.s18 hb) (by omega) (by omega)]
          have hVa := C.2.2.2.1.2 a ha
          have hVb := C.2.2.2.1.2 b hb
          have hx : ∀ J, J ≠ J1 → J ≠ J2 → nSw J1 J2 J = J := fun J q1 q2 => by unfold nSw; rw [if_neg q1, if_neg q2]
          have x1 : nSw J1 J2 J1 = J2 := if_pos rfl
          have x2 : nSw J1 J2 J2 = J1 := by unfold nSw; rw [if_neg (by omega), if_pos rfl]
          by_cases hab : a = b
          · subst hab
            refine off2_same C ha (rV_swap hVa (by omega) (by omega)) (fun s => ?_) hq
            rw [cnt_swap]
            rcases nat_eo s with ⟨J, rfl⟩ | ⟨J, rfl⟩
            · rw [nSwap_even]
              by_cases q1 : J = J1
              · subst q1; rw [x1, one_cnt C ha m2, one_cnt C ha m1]
              · by_cases q2 : J = J2
                · subst q2; rw [x2, one_cnt C ha m1, one_cnt C ha m2]
                · rw [hx J q1 q2]
            · rw [nSwap_odd]
              have m1b := hVa.2.1 J1 m1
              have m2b := hVa.2.1 J2 m2
              by_cases q1 : J = J1
              · subst q1; rw [x1, one_cnt C ha m2b, one_cnt C ha m1b]
              · by_cases q2 : J = J2
                · subst q2; rw [x2, one_cnt C ha m1b, one_cnt C ha m2b]
                · rw [hx J q1 q2]
          · refine off2_two C ha hb hab (rV_swap hVa (by omega) (by omega)) (rV_swap hVb (by omega) (by omega)) (fun s => ?_) hq
            have m1b := hVa.2.1 J1 m1
            have m2b := hVb.2.1 J2 m2
            have z1 := fun s hs => List.count_eq_zero.mpr (gV_dis C.2.2.2.1 ha hb hab (s := s) hs)
            have z2 := fun s hs => List.count_eq_zero.mpr (gV_dis C.2.2.2.1 hb ha (fun c => hab c.symm) (s := s) hs)
            rw [cnt_swap, cnt_swap]
            rcases nat_eo s with ⟨J, rfl⟩ | ⟨J, rfl⟩
            · rw [nSwap_even]
              by_cases q1 : J = J1
              · subst q1; rw [x1, one_cnt C hb m2, one_cnt C ha m1, z1 _ m1, z2 _ m2]
              · by_cases q2 : J = J2
                · subst q2; rw [x2, one_cnt C ha m1, one_cnt C hb m2, z1 _ m1, z2 _ m2]
                · rw [hx J q1 q2]
            · rw [nSwap_odd]
              by_cases q1 : J = J1
              · subst q1; rw [x1, one_cnt C hb m2b, one_cnt C ha m1b, z1 _ m1b, z2 _ m2b]
              · by_cases q2 : J = J2
                · subst q2; rw [x2, one_cnt C ha m1b, one_cnt C hb m2b, z1 _ m1b, z2 _ m2b]
                · rw [hx J q1 q2]
    · rw [e2, if_pos neg1]; exact hq
  · rw [e1, if_pos neg1]; exact hq
end
