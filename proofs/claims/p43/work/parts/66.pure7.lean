/-! kinds 2, 3 and 1 keep what is good -/
theorem mem_rd {i n t : Nat} : t ∈ (List.range n).drop i ↔ i ≤ t ∧ t < n := by
  rw [List.range_eq_range', List.drop_range']
  rw [List.mem_range'_1]
  omega
theorem seg_split {M : List Nat} {i k : Nat} (h : i ≤ k) : M = M.take i ++ (M.take k).drop i ++ M.drop k := by
  have h1 : M.take i = (M.take k).take i := by rw [List.take_take, Nat.min_eq_left h]
  rw [h1, List.take_append_drop, List.take_append_drop]
theorem getD_mp {M : List Nat} {t : Nat} (h : t < M.length) : (mp M).getD t 0 = nI M[t] := by
  unfold mp
  rw [List.getD_eq_getElem?_getD, List.getElem?_map, List.getElem?_eq_getElem h]
  rfl
theorem rHolds_no {M : List Nat} {i k : Nat} (hM : s18 M) (hnd : M.Nodup) (hk : k < M.length) (h : ¬ rHolds (mp M) i k = true) : ∀ s, s ∈ (M.take (k + 1)).drop i → s % 2 = 1 → s - 1 ∉ (M.take (k + 1)).drop i := by
  intro s hs h1 hf
  apply h
  have hML := nd_len (n := 18) hnd hM
  obtain ⟨u, hu, eu⟩ := List.mem_iff_getElem.mp hs
  obtain ⟨t, ht, et⟩ := List.mem_iff_getElem.mp hf
  rw [List.getElem_drop, List.getElem_take] at eu et
  rw [List.length_drop, List.length_take] at hu ht
  have hu2 : i + u < M.length := by omega
  have ht2 : i + t < M.length := by omega
  unfold rHolds
  rw [List.any_eq_true]
  refine ⟨i + t, mem_rd.mpr ⟨by omega, by omega⟩, ?_⟩
  have hs18 := hM s (by rw [← eu]; exact List.getElem_mem _)
  unfold rHoldsAt
  rw [getD_mp ht2, et, isF_nI (s - 1) (by omega), jOf_nI (s - 1) (by omega), bOf_nI]
  have e1 : 2 * ((s - 1) / 2) + 1 = s := by omega
  have hmem : s ∈ M := by rw [← eu]; exact List.getElem_mem _
  rw [e1, rFind_mp (by omega) (fun x hx => by have := hM x hx; omega), if_pos hmem]
  have hi : M.idxOf s = i + u := by
    have h9 := hnd.idxOf_getElem (i + u) hu2
    rw [eu] at h9
    exact h9
  rw [hi]
  have h2 : nI (i + u) ≤ nI k := (nI_leN (by omega) (by omega)).mpr (by omega)
  have h3 : (s - 1) % 2 = 0 := by omega
  simp [h2, h3]
theorem cnt_turned {M : List Nat} {i k s : Nat} (h : i ≤ k) : (nTurned M i k).count s = M.count s := by
  have e := seg_split (M := M) (i := i) (k := k + 1) (by omega)
  unfold nTurned
  rw [List.count_append, List.count_append, List.count_reverse]
  conv => rhs; rw [e]
  rw [List.count_append, List.count_append]
theorem mem_cnt {A B : List Nat} (h : ∀ s, A.count s = B.count s) {s : Nat} : s ∈ A ↔ s ∈ B := by rw [← List.count_pos_iff, ← List.count_pos_iff, h]
theorem rV_turned {NJ : Nat} {M : List Nat} {i k : Nat} (hM : rV NJ M) (hik : i ≤ k) (hno : ∀ s, s ∈ (M.take (k + 1)).drop i → s % 2 = 1 → s - 1 ∉ (M.take (k + 1)).drop i) : rV NJ (nTurned M i k) := by
  have hm := fun s => mem_cnt (fun s => cnt_turned (M := M) (s := s) hik) (s := s)
  refine ⟨fun s hs => hM.1 s ((hm s).mp hs), fun J hJ => (hm _).mpr (hM.2.1 J ((hm _).mp hJ)), ?_⟩
  have h3 := hM.2.2
  rw [seg_split (M := M) (i := i) (k := k + 1) (by omega), bOk_app, bOk_app] at h3
  obtain ⟨⟨h1, h2⟩, h3⟩ := h3
  unfold nTurned
  rw [bOk_app, bOk_app]
  refine ⟨⟨h1, bOk_all (fun s hs h9 => ?_)⟩, bOk_mono (fun x hx => ?_) h3⟩
  · rw [List.mem_reverse] at hs
    rcases bOk_mem h2 s hs h9 with h | h
    · exact absurd h (hno s hs h9)
    · exact h
  · rw [List.mem_append] at hx ⊢
    rw [List.mem_reverse]
    exact hx
section
variable {NP NJ NV : Nat} {w vv : Nat → Nat → Int32} {ck : Int32} {N : Nat → List Nat} {R : Nat → List Int32}
theorem sC.s18 (C : sC NP NJ NV w vv ck N R) {n : Nat} (hn : n < NV) : s18 (N n) := fun s hs => by
  have h1 := (C.2.2.2.1.2 n hn).1 s hs
  have := C.2.1.1
  omega
theorem tr_good {S : Nat → Nat} (C : sC NP NJ NV w vv ck N R) {q : IY} (hq : qG NJ NV w vv N q) : qG NJ NV w vv N (trN NP NJ NV w ck vv R S 0 q) := by
  unfold trN
  refine fold_inv _ _ (fun n q hn hq => ?_) hq
  have hn : n < NV := by have := List.mem_range'_1.mp hn; omega
  have hR := C.2.2.2.2.1 n hn
  unfold trI
  refine fold_inv _ _ (fun i q hi hq => ?_) hq
  have hi := List.mem_range'_1.mp hi
  unfold trK
  refine fold_inv _ _ (fun k q hk hq => ?_) hq
  have hk := List.mem_range'_1.mp hk
  rw [hR] at hi hk
  rw [List.length_map] at hi hk
  unfold trStep
  by_cases c : rHolds (R n) i k = true
  · rw [if_pos c]; exact hq
  · rw [if_neg c, hR, rTurned_mp]
    rw [hR] at c
    have hik : i ≤ k := by omega
    exact off2_same C hn (rV_turned (C.2.2.2.1.2 n hn) hik (rHolds_no (C.s18 hn) (gV_nd C.2.2.2.1 hn) (by omega) c)) (fun s => cnt_turned hik) hq
/-- a row is cut between two jobs -/
theorem rSplits_cl {M : List Nat} {i : Nat} (hM : (fun M => ∀ s, s ∈ M → s < 18) M) (hnd : M.Nodup) (hi : i ≤ M.length) (hp : ∀ J, 2 * J ∈ M → 2 * J + 1 ∈ M) (hb : bOk (fun _ => False) M) (h : ¬ rSplits (mp M) i = true) : ∀ J, (2 * J ∈ M.take i → 2 * J + 1 ∈ M.take i) ∧ (2 * J ∈ M.drop i → 2 * J + 1 ∈ M.drop i) ∧ (2 * J + 1 ∈ M.drop i → 2 * J ∉ M.take i) := by
  have key : ∀ J, 2 * J ∈ M.take i → 2 * J + 1 ∈ M.take i := by
    intro J hJ
    obtain ⟨t, ht, et⟩ := List.mem_iff_getElem.mp hJ
    rw [List.getElem_take] at et
    rw [List.length_take] at ht
    have hmem : 2 * J ∈ M := List.mem_of_mem_take hJ
    have hb1 := hp J hmem
    have h18 := hM _ hb1
    have hML := nd_len (n := 18) hnd hM
    obtain ⟨u, hu, eu⟩ := List.mem_iff_getElem.mp hb1
    rcases Nat.lt_or_ge u i with c | c
    · exact List.mem_iff_getElem.mpr ⟨u, by rw [List.length_take]; omega, by rw [List.getElem_take]; exact eu⟩
    · exfalso
      apply h
      unfold rSplits rSplitsFrom
      rw [List.any_eq_true]
      refine ⟨t, mem_rd.mpr ⟨Nat.zero_le t, by omega⟩, ?_⟩
      rw [getD_mp (by omega), et, jOf_nI (2 * J) (by omega), bOf_nI]
      have e1 : 2 * (2 * J / 2) + 1 = 2 * J + 1 := by omega
      rw [e1, rFind_mp (by omega) (fun x hx => by have := hM x hx; omega), if_pos hb1]
      have hix : M.idxOf (2 * J + 1) = u := by
        have h9 := hnd.idxOf_getElem u hu
        rw [eu] at h9
        exact h9
      rw [hix]
      exact decide_eq_true ((nI_leN (by omega) (by have := nd_len (M := M) (n := 18) hnd hM; omega)).mpr c)
  have hdj : ∀ s, s ∈ M.take i → s ∉ M.drop i := fun s h1 h2 => by
    have h3 := List.nodup_iff_count.mp hnd s
    rw [← List.take_append_drop i M, List.count_append] at h3
    have := List.count_pos_iff.mpr h1
    have := List.count_pos_iff.mpr h2
    omega
  have hor : ∀ s, s ∈ M → s ∈ M.take i ∨ s ∈ M.drop i := fun s hs => by
    rw [← List.take_append_drop i M] at hs
    exact List.mem_append.mp hs
  refine fun J => ⟨key J, fun hd => ?_, fun hd ht => hdj _ (key J ht) hd⟩
  rcases hor _ (hp J (List.mem_of_mem_drop hd)) with c | c
  · -- brought ahead of its fetching: no
    exfalso
    have hb2 := hb
    rw [← List.take_append_drop i M, bOk_app] at hb2
    rcases bOk_mem hb2.1 (2 * J + 1) c (by omega) with h1 | h1
    · exact hdj _ h1 (by rw [show 2 * J + 1 - 1 = 2 * J by omega]; exact hd)
    · exact h1
  · exact c
theorem rV_joined {NJ : Nat} {M B : List Nat} {i k : Nat} (hM : rV NJ M) (hB : rV NJ B)
    (h1 : ∀ J, 2 * J ∈ M.take i → 2 * J + 1 ∈ M.take i) (h2 : ∀ J, 2 * J ∈ B.drop k → 2 * J + 1 ∈ B.drop k) (h3 : ∀ J, 2 * J + 1 ∈ B.drop k → 2 * J ∉ B.take k) : rV NJ (nJoined M B i k) := by
  refine ⟨fun s hs => ?_, fun J hJ => ?_, ?_⟩
  · rcases List.mem_append.mp hs with h | h
    · exact hM.1 s (List.mem_of_mem_take h)
    · exact hB.1 s (List.mem_of_mem_drop h)
  · rcases List.mem_append.mp hJ with h | h
    · exact List.mem_append.mpr (Or.inl (h1 J h))
    · exact List.mem_append.mpr (Or.inr (h2 J h))
  · have hb := hB.2.2
    rw [← List.take_append_drop k B, bOk_app] at hb
    have ha := hM.2.2
    rw [← List.take_append_drop i M, bOk_app] at ha
    unfold nJoined
    rw [bOk_app]
    refine ⟨ha.1, bOk_mono (P := fun _ => False) (fun x hx => hx.elim) (bOk_drop hb.2 (fun s hs h9 => ?_))⟩
    have e : s = 2 * (s / 2) + 1 := by omega
    have := h3 (s / 2) (by rw [← e]; exact hs)
    rw [show s - 1 = 2 * (s / 2) by omega]
    exact this
theorem en_good {S : Nat → Nat} (C : sC NP NJ NV w vv ck N R) {q : IY} (hq : qG NJ NV w vv N q) : qG NJ NV w vv N (enA NP NJ NV w ck vv R S 0 q) := by
  unfold enA
  refine fold_inv _ _ (fun a q ha hq => ?_) hq
  have ha : a < NV := by have := List.mem_range'_1.mp ha; omega
  unfold enB
  refine fold_inv _ _ (fun b q hb hq => ?_) hq
  have hb := List.mem_range'_1.mp hb
  have hbV : b < NV := by omega
  have hab : a ≠ b := by omega
  have hRa := C.2.2.2.2.1 a ha
  have hRb := C.2.2.2.2.1 b hbV
  unfold enI
  refine fold_inv _ _ (fun i q hi hq => ?_) hq
  have hi := List.mem_range'_1.mp hi
  unfold enK
  refine fold_inv _ _ (fun k q hk hq => ?_) hq
  have hk := List.mem_range'_1.mp hk
  rw [hRa] at hi
  rw [hRb] at hk
  rw [List.length_map] at hi hk
  unfold enStep
  by_cases c1 : rSplits (R a) i = true
  · rw [if_pos c1]; exact hq
  · by_cases c2 : rSplits (R b) k = true
    · rw [if_neg c1, if_pos c2]; exact hq
    · rw [if_neg c1, if_neg c2]
      rw [hRa] at c1
      rw [hRb] at c2
      have hVa := C.2.2.2.1.2 a ha
      have hVb := C.2.2.2.1.2 b hbV
      have ka := rSplits_cl (C.s18 ha) (gV_nd C.2.2.2.1 ha) (by omega) hVa.2.1 hVa.2.2 c1
      have kb := rSplits_cl (C.s18 hbV) (gV_nd C.2.2.2.1 hbV) (by omega) hVb.2.1 hVb.2.2 c2
      have hl2 := gV_len2 C.2.2.2.1 ha hbV hab
      have hJ9 := C.2.1.1
      have l1 : (nJoined (N a) (N b) i k).length ≤ 18 := by unfold nJoined; rw [List.length_append, List.length_take, List.length_drop]; omega
      have l2 : (nJoined (N b) (N a) k i).length ≤ 18 := by unfold nJoined; rw [List.length_append, List.length_take, List.length_drop]; omega
      rw [hRa, hRb, rJoined_mp l1, rJoined_mp l2]
      refine off2_two C ha hbV hab (rV_joined hVa hVb (fun J => (ka J).1) (fun J => (kb J).2.1) (fun J => (kb J).2.2)) (rV_joined hVb hVa (fun J => (kb J).1) (fun J => (ka J).2.1) (fun J => (ka J).2.2)) (fun s => ?_) hq
      unfold nJoined
      rw [List.count_append, List.count_append]
      have e1 : (N a).count s = ((N a).take i).count s + ((N a).drop i).count s := by rw [← List.count_append, List.take_append_drop]
      have e2 : (N b).count s = ((N b).take k).count s + ((N b).drop k).count s := by rw [← List.count_append, List.take_append_drop]
      omega
end
