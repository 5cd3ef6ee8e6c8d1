/-! ruin, repair, improve -/
section
variable {NP NJ NV : Nat} {w vv : Nat → Nat → Int32} {ck : Int32} {N : Nat → List Nat} {R : Nat → List Int32}
theorem dj_spec : djR NP NJ NV w ck vv R = -1 ∨ ∃ J, J < NJ ∧ djR NP NJ NV w ck vv R = nI J := by
  have key : (fun q : Int32 × Int32 => q.1 = -1 ∨ ∃ J, J < NJ ∧ q.1 = nI J) (djFrom NP NJ NV w ck vv R 0 (-1, 0)) := by
    unfold djFrom
    refine fold_inv (P := fun q : Int32 × Int32 => q.1 = -1 ∨ ∃ J, J < NJ ∧ q.1 = nI J) _ _ (fun J q hJ hq => ?_) (Or.inl rfl)
    have hJ : J < NJ := by have := List.mem_range'_1.mp hJ; omega
    unfold djStep
    split
    · split
      · exact Or.inr ⟨J, hJ, rfl⟩
      · split
        · exact Or.inr ⟨J, hJ, rfl⟩
        · exact hq
    · exact hq
  exact key
theorem ru_good : ∀ (m c : Nat) {N : Nat → List Nat} {R : Nat → List Int32}, pC NP NJ NV w vv N R → (∃ N', pC NP NJ NV w vv N' (ruF NP NJ NV w ck vv m c R).2) ∧ ∀ n, NV ≤ n → (ruF NP NJ NV w ck vv m c R).2 n = R n := by
  intro m
  induction m with
  | zero => intro c N R C; exact ⟨⟨N, C⟩, fun _ _ => rfl⟩
  | succ m ih =>
    intro c N R C
    unfold ruF
    by_cases h : djR NP NJ NV w ck vv R = -1
    · rw [if_pos h]; exact ⟨⟨N, C⟩, fun _ _ => rfl⟩
    · rw [if_neg h]
      rcases dj_spec (NP := NP) (NJ := NJ) (NV := NV) (w := w) (vv := vv) (ck := ck) (R := R) with h1 | ⟨J, hJ, h1⟩
      · exact absurd h1 h
      · rw [h1]
        obtain ⟨C', hr⟩ := tk_good C (J := J) (by have := C.2.1.1; omega)
        obtain ⟨i1, i2⟩ := ih (c + 1) C'
        exact ⟨i1, fun n hn => (i2 n hn).trans (hr n hn)⟩
/-- whether a job of the row may be taken to mend it -/
def jrQ (v : Nat → Int32) (L : List Int32) (J : Nat) : Prop := v 6 ≤ rFind L (fOf (nI J))
theorem jr_spec {v : Nat → Int32} {L : List Int32} : (jrF NP NJ w ck v L = -1 ∧ ∀ J, J < NJ → ¬ jrQ v L J) ∨ ∃ J, J < NJ ∧ jrF NP NJ w ck v L = nI J ∧ jrQ v L J := by
  have key : ∀ (k n : Nat) (q : Int32 × Int32 × Int32), n + k ≤ NJ → ((q.1 = -1 ∧ q.2.1 = -1 ∧ ∀ J, J < n → ¬ jrQ v L J) ∨ ((∃ J, J < NJ ∧ q.1 = nI J ∧ jrQ v L J) ∧ (q.2.1 = -1 ∨ ∃ J, J < NJ ∧ q.2.1 = nI J ∧ jrQ v L J))) →
      (fun q : Int32 × Int32 × Int32 => (q.1 = -1 ∧ q.2.1 = -1 ∧ ∀ J, J < n + k → ¬ jrQ v L J) ∨ ((∃ J, J < NJ ∧ q.1 = nI J ∧ jrQ v L J) ∧ (q.2.1 = -1 ∨ ∃ J, J < NJ ∧ q.2.1 = nI J ∧ jrQ v L J))) ((List.range' n k).foldl (jrStep NP NJ w ck v L) q) := by
    intro k
    induction k with
    | zero => intro n q _ h; exact h
    | succ k ih =>
      intro n q hk h
      rw [List.range'_succ, List.foldl_cons, show n + (k + 1) = n + 1 + k by omega]
      refine ih (n + 1) _ (by omega) ?_
      unfold jrStep
      by_cases c : v 6 ≤ rFind L (fOf (nI n))
      · rw [if_pos c]
        refine Or.inr ?_
        have hn : n < NJ := by omega
        have hb : q.2.1 = -1 ∨ ∃ J, J < NJ ∧ q.2.1 = nI J ∧ jrQ v L J := h.elim (fun h => Or.inl h.2.1) (fun h => h.2)
        split
        · exact ⟨⟨n, hn, rfl, c⟩, hb⟩
        · split
          · exact ⟨⟨n, hn, rfl, c⟩, Or.inr ⟨n, hn, rfl, c⟩⟩
          · split
            · exact ⟨⟨n, hn, rfl, c⟩, hb⟩
            · exact ⟨⟨n, hn, rfl, c⟩, Or.inr ⟨n, hn, rfl, c⟩⟩
      · rw [if_neg c]
        rcases h with ⟨h1, h2, h3⟩ | h
        · refine Or.inl ⟨h1, h2, fun J hJ => ?_⟩
          by_cases e : J = n
          · rw [e]; exact c
          · exact h3 J (by omega)
        · exact Or.inr h
  have h := key (NJ - 0) 0 (-1, -1, 0) (by omega) (Or.inl ⟨rfl, rfl, fun J hJ => by omega⟩)
  unfold jrF
  have e : jrFrom NP NJ w ck v L 0 (-1, -1, 0) = (List.range' 0 (NJ - 0)).foldl (jrStep NP NJ w ck v L) (-1, -1, 0) := rfl
  rw [e]
  generalize (List.range' 0 (NJ - 0)).foldl (jrStep NP NJ w ck v L) (-1, -1, 0) = q at h
  rcases h with ⟨h1, h2, h3⟩ | ⟨⟨J, hJ, h1, h2⟩, h3⟩
  · rw [if_pos h2]
    exact Or.inl ⟨h1, fun J hJ => h3 J (by omega)⟩
  · by_cases c : q.2.1 = -1
    · rw [if_pos c]; exact Or.inr ⟨J, hJ, h1, h2⟩
    · rw [if_neg c]
      rcases h3 with h3 | ⟨K, hK, h4, h5⟩
      · exact absurd h3 c
      · exact Or.inr ⟨K, hK, h4, h5⟩
theorem right_nil (hg : gOk NP w) (hj : jOk NP NJ w) {v : Nat → Int32} (hv : vOk NP v) : ¬ tRideR NP NJ w ck v (mp []) 9 = 0 := by
  obtain ⟨⟨h, hh, e⟩, -, hd, -⟩ := id hv
  have h9 := tRide_rel (ck := ck) hg hj hv (M := []) (fun s hs => by cases hs) (by simp) 9 (by omega)
  have e9 : iRide w ck.toInt v [] 9 = 1 := by
    show (if (v 2).toInt + iHD w v (iS v) ≤ (v 3).toInt then (1 : Int) else 0) = 1
    have h12 := hg.1
    have ed : iHD w v (iS v) = 0 := by
      unfold iHD
      show DI w (v 0).toInt.toNat (v 0).toInt.toNat = 0
      rw [e, nI_toInt (by omega), Int.toNat_natCast]
      exact hg.self hh
    rw [ed, if_pos (by omega)]
  intro c
  have c2 : tRide NP NJ w ck v (mp []) 9 = 0 := c
  have := (i_eq h9 (show (0 : Int32).toInt = (0 : Int) from rfl)).mp c2
  rw [e9] at this
  omega
theorem len_without {M : List Nat} {J : Nat} (hnd : M.Nodup) (h1 : 2 * J ∈ M) (h2 : 2 * J + 1 ∈ M) : (nWithout M J).length + 2 ≤ M.length := by
  have e : nWithout M J = nWithout ((M.erase (2 * J)).erase (2 * J + 1)) J := by
    unfold nWithout
    have f : ∀ (L : List Nat) (s : Nat), s / 2 = J → (L.erase s).filter (fun s => decide (s / 2 ≠ J)) = L.filter (fun s => decide (s / 2 ≠ J)) := by
      intro L s hs
      induction L with
      | nil => rfl
      | cons a L ih =>
        by_cases c : a = s
        · subst c
          rw [List.erase_cons_head, List.filter_cons_of_neg (by simp [hs])]
        · rw [List.erase_cons_tail (by simp [c])]
          by_cases c2 : a / 2 = J
          · rw [List.filter_cons_of_neg (by simp [c2]), List.filter_cons_of_neg (by simp [c2]), ih]
          · rw [List.filter_cons_of_pos (by simp [c2]), List.filter_cons_of_pos (by simp [c2]), ih]
    rw [f _ (2 * J + 1) (by omega), f _ (2 * J) (by omega)]
  have l1 := List.length_erase_of_mem h1
  have l2 := List.length_erase_of_mem (a := 2 * J + 1) (l := M.erase (2 * J)) (hnd.mem_erase_iff.mpr ⟨by omega, h2⟩)
  have l3 : 1 ≤ M.length := List.length_pos_of_mem h1
  have l4 : 1 ≤ (M.erase (2 * J)).length := List.length_pos_of_mem (hnd.mem_erase_iff.mpr ⟨by omega, h2⟩)
  have l5 : (nWithout ((M.erase (2 * J)).erase (2 * J + 1)) J).length ≤ ((M.erase (2 * J)).erase (2 * J + 1)).length := List.length_filter_le _ _
  rw [← e] at l5
  omega
theorem rp_good {K : Nat} : ∀ (m c : Nat) {N : Nat → List Nat} {R : Nat → List Int32}, K < NV → pC NP NJ NV w vv N R → (∃ N', pC NP NJ NV w vv N' (rpF NP NJ NV w ck vv K m c R).2) ∧ (∀ n, NV ≤ n → (rpF NP NJ NV w ck vv K m c R).2 n = R n) ∧ ((N K).length ≤ 2 * m → vv K 6 = nI 0 → ¬ tRide NP NJ w ck (vv K) ((rpF NP NJ NV w ck vv K m c R).2 K) 9 = 0) := by
  intro m
  induction m with
  | zero =>
    intro c N R hK C
    refine ⟨⟨N, C⟩, fun _ _ => rfl, fun hl _ => ?_⟩
    have e : N K = [] := List.length_eq_zero_iff.mp (by omega)
    show ¬ tRide NP NJ w ck (vv K) (R K) 9 = 0
    rw [C.2.2.2.2.1 K hK, e]
    exact right_nil (ck := ck) C.1 C.2.1 (C.2.2.1.2 K hK)
  | succ m ih =>
    intro c N R hK C
    unfold rpF
    by_cases h : tRideR NP NJ w ck (vv K) (R K) 9 = 0
    · rw [if_pos h]
      rcases jr_spec (NP := NP) (NJ := NJ) (w := w) (ck := ck) (v := vv K) (L := R K) with ⟨h1, h2⟩ | ⟨J, hJ, h1, h2⟩
      · rw [if_pos h1]
        refine ⟨⟨N, C⟩, fun _ _ => rfl, fun _ h6 => ?_⟩
        exfalso
        have e : N K = [] := by
          cases hN : N K with
          | nil => rfl
          | cons s M =>
            exfalso
            have hs : s ∈ N K := by rw [hN]; exact List.mem_cons_self
            have hs2 := (C.2.2.2.1.2 K hK).1 s hs
            have hf : 2 * (s / 2) ∈ N K := by
              rcases nat_eo s with ⟨J, rfl⟩ | ⟨J, rfl⟩
              · rw [show 2 * (2 * J / 2) = 2 * J by omega]; exact hs
              · have hb := bOk_mem (C.2.2.2.1.2 K hK).2.2 (2 * J + 1) hs (by omega)
                rw [show 2 * J + 1 - 1 = 2 * ((2 * J + 1) / 2) by omega] at hb
                exact hb.elim id (fun q => q.elim)
            apply h2 (s / 2) (by omega)
            unfold jrQ
            have hJ9 := C.2.1.1
            rw [h6, fOf_nI, fnd (fun n hn => C.s18 hn) C.2.2.2.2.1 hK (by omega), if_pos hf]
            have := List.idxOf_lt_length_iff.mpr hf
            have := C.len hK
            exact (nI_leN (by omega) (by omega)).mpr (Nat.zero_le _)
        rw [C.2.2.2.2.1 K hK, e] at h
        exact right_nil C.1 C.2.1 (C.2.2.1.2 K hK) h
      · rw [h1, if_neg (nI_ne1 (by have := C.2.1.1; omega))]
        obtain ⟨C', hr⟩ := tk_good C (J := J) (by have := C.2.1.1; omega)
        obtain ⟨i1, i2, i3⟩ := ih (c + 1) hK C'
        refine ⟨i1, fun n hn => (i2 n hn).trans (hr n hn), fun hl h6 => i3 ?_ h6⟩
        have hmem : 2 * J ∈ N K := by
          unfold jrQ at h2
          have hJ9 := C.2.1.1
          rw [h6, fOf_nI, fnd (fun n hn => C.s18 hn) C.2.2.2.2.1 hK (by omega)] at h2
          by_cases c : 2 * J ∈ N K
          · exact c
          · rw [if_neg c] at h2; exact absurd h2 (by decide)
        have := len_without (gV_nd C.2.2.2.1 hK) hmem ((C.2.2.2.1.2 K hK).2.1 J hmem)
        show (nWithout (N K) J).length ≤ 2 * m
        omega
    · rw [if_neg h]
      refine ⟨⟨N, C⟩, fun _ _ => rfl, fun _ _ => ?_⟩
      show ¬ tRide NP NJ w ck (vv K) (R K) 9 = 0
      rw [← tRideR_eq h]; exact h
theorem im_good {S : Nat → Nat} : ∀ (m : Nat) (s : Int32) {vv : Nat → Nat → Int32} {Y : Nat → List Int32} {N : Nat → List Nat} {R : Nat → List Int32}, pC NP NJ NV w vv N R → 0 ≤ s.toInt → s.toInt + (costF NP NJ NV w ck vv R).toInt ≤ 200000 →
    (∃ N', pC NP NJ NV w (imF NP NJ NV w ck S m s vv Y R).2.1 N' (imF NP NJ NV w ck S m s vv Y R).2.2) ∧ (∀ n, NV ≤ n → (imF NP NJ NV w ck S m s vv Y R).2.2 n = R n) ∧ (∀ n k, k ≠ 7 → (imF NP NJ NV w ck S m s vv Y R).2.1 n k = vv n k) ∧
      s.toInt ≤ (imF NP NJ NV w ck S m s vv Y R).1.toInt ∧ (costF NP NJ NV w ck (imF NP NJ NV w ck S m s vv Y R).2.1 (imF NP NJ NV w ck S m s vv Y R).2.2).toInt = (costF NP NJ NV w ck vv R).toInt - ((imF NP NJ NV w ck S m s vv Y R).1.toInt - s.toInt) := by
  intro m
  induction m with
  | zero =>
    intro s vv Y N R C h0 hb
    exact ⟨⟨N, C⟩, fun _ _ => rfl, fun _ _ _ => rfl, Int.le_refl _, by show (costF NP NJ NV w ck vv R).toInt = (costF NP NJ NV w ck vv R).toInt - (s.toInt - s.toInt); omega⟩
  | succ m ih =>
    intro s vv Y N R C h0 hb
    have hvk : ∀ n k, k ≠ 7 → (ssFrom NP NJ NV w ck R 0 (vv, Y)).1 n k = vv n k := fun n k hk => by
      rw [ss_at.1]
      split
      · exact if_neg hk
      · rfl
    unfold imF
    by_cases c : (imG NP NJ NV w ck S vv Y R).1 = 0
    · rw [if_pos c]
      have C2 := C.start (ck := ck) (Y := Y)
      have C3 : pC NP NJ NV w (ssFrom NP NJ NV w ck R 0 (vv, Y)).1 N R := ⟨C2.1, C2.2.1, C2.2.2.1, C2.2.2.2.1, C2.2.2.2.2.1, C2.2.2.2.2.2.1⟩
      refine ⟨⟨N, C3⟩, fun _ _ => rfl, hvk, Int.le_refl _, ?_⟩
      show (costF NP NJ NV w ck (ssFrom NP NJ NV w ck R 0 (vv, Y)).1 R).toInt = (costF NP NJ NV w ck vv R).toInt - (s.toInt - s.toInt)
      rw [cost_I C3, cost_I C, csI_vx (vv := (ssFrom NP NJ NV w ck R 0 (vv, Y)).1) (vv' := vv) (fun n hn M => by rw [ss_at.1, if_pos hn]; rfl)]
      omega
    · rw [if_neg c]
      have C2 := C.start (ck := ck) (Y := Y)
      have hq : qG NJ NV w (ssFrom NP NJ NV w ck R 0 (vv, Y)).1 N (imG NP NJ NV w ck S vv Y R) := sk_good C2 (sk_good C2 (sk_good C2 (sk_good C2 (start_good C))))
      obtain ⟨N', C', -, g0, g1, g2⟩ := made_good C hq
      have hs : (s + (imG NP NJ NV w ck S vv Y R).1).toInt = s.toInt + (imG NP NJ NV w ck S vv Y R).1.toInt := i_add rfl rfl (by
        have := cost_I (ck := ck) C
        have b1 := csI_rng C (m := NV) (Nat.le_refl _)
        have b2 := opI_rng C.2.1 (c := cn NV N) (m := NJ) (Nat.le_refl _)
        omega)
      obtain ⟨i1, i2, i3, i4, i5⟩ := ih (s + (imG NP NJ NV w ck S vv Y R).1) (Y := (imG NP NJ NV w ck S vv Y R).2) C' (by omega) (by omega)
      refine ⟨i1, fun n hn => (i2 n hn).trans (by rw [mb_at, if_neg (by omega)]), fun n k hk => (i3 n k hk).trans (hvk n k hk), by omega, by omega⟩
end
