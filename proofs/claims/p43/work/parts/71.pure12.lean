/-! jobs are put -/
section
variable {NP NJ NV : Nat} {w vv : Nat → Nat → Int32} {ck : Int32} {N : Nat → List Nat} {R : Nat → List Int32}
theorem put_good (C : pC NP NJ NV w vv N R) {J n i k : Nat} (hJ : J < NJ) (hn : n < NV) (hno : ∀ m, m < NV → 2 * J ∉ N m) (hik : i ≤ k) (hk : k ≤ (R n).length) (hal : ¬ tRide NP NJ w ck (vv n) (rWith (R n) (nI J) i k) 9 = 0) :
    pC NP NJ NV w vv (va_up N n (nWith (N n) J i k)) (va_up R n (rWith (R n) (nI J) i k)) := by
  have hJ9 := C.2.1.1
  obtain ⟨hg, hj, hv, hN, hR, hc⟩ := id C
  have hno2 : ∀ m, m < NV → 2 * J + 1 ∉ N m := fun m hm c => by
    have hb := bOk_mem (hN.2 m hm).2.2 (2 * J + 1) c (by omega)
    rw [show 2 * J + 1 - 1 = 2 * J by omega] at hb
    exact hb.elim (hno m hm) id
  have z1 : cn NV N (2 * J) = 0 := cn_zero.mpr hno
  have z2 : cn NV N (2 * J + 1) = 0 := cn_zero.mpr hno2
  have hup := fun s => cn_up (N := N) (L := nWith (N n) J i k) (s := s) hn
  have hcs : ∀ s, cn NV (va_up N n (nWith (N n) J i k)) s = cn NV N s + (if s = 2 * J then 1 else 0) + (if s = 2 * J + 1 then 1 else 0) := fun s => by
    have h1 := hup s
    have h2 := cnt_with (M := N n) (J := J) (s := s) hik
    omega
  have hc1 : ∀ s, cn NV (va_up N n (nWith (N n) J i k)) s ≤ 1 := fun s => by
    rw [hcs]
    have := hN.1 s
    by_cases e1 : s = 2 * J
    · subst e1; rw [if_pos rfl, if_neg (by omega)]; omega
    · by_cases e2 : s = 2 * J + 1
      · subst e2; rw [if_neg (by omega), if_pos rfl]; omega
      · rw [if_neg e1, if_neg e2]; omega
  have hV := rV_with (hN.2 n hn) hJ hik
  have hat : ∀ m, va_up N n (nWith (N n) J i k) m = if m = n then nWith (N n) J i k else N m := fun _ => rfl
  have hgV : gV NJ NV (va_up N n (nWith (N n) J i k)) := ⟨hc1, fun m hm => by
    rw [hat]
    by_cases e : m = n
    · rw [if_pos e]; exact hV
    · rw [if_neg e]; exact hN.2 m hm⟩
  have hl : (nWith (N n) J i k).length ≤ 18 := by
    have := gV_len hgV hn
    rw [hat, if_pos rfl] at this
    omega
  have hl16 : (N n).length ≤ 16 := by rw [len_with hik] at hl; omega
  have eR : rWith (R n) (nI J) i k = mp (nWith (N n) J i k) := by rw [hR n hn]; exact rWith_mp hik hl16
  rw [eR] at hal ⊢
  refine ⟨hg, hj, hv, hgV, fun m hm => ?_, fun m hm => ?_⟩
  · show (if m = n then _ else R m) = mp (if m = n then _ else N m)
    by_cases e : m = n
    · rw [if_pos e, if_pos e]
    · rw [if_neg e, if_neg e]; exact hR m hm
  · rw [hat]
    by_cases e : m = n
    · rw [if_pos e, e]; exact allowed_cap hg hj (hv.2 n hn) hV.1 hl hal
    · rw [if_neg e]; exact hc m hm
/-- what is kept as the best insertion of all vehicles -/
def saP (NP NJ NV : Nat) (w vv : Nat → Nat → Int32) (ck : Int32) (R : Nat → List Int32) (j : Int32) (q : I6) : Prop := q.2.2.1 = -1 ∨ ∃ n, n < NV ∧ q.2.2.1 = nI n ∧ ∃ i k : Nat, i ≤ k ∧ k ≤ (R n).length ∧ q.2.2.2.2 = (nI i, nI (k + 1)) ∧ ¬ tRide NP NJ w ck (vv n) (rWith (R n) j i k) 9 = 0
theorem sa_spec {j : Int32} {S : Nat → Nat} {q : I6} (h : saP NP NJ NV w vv ck R j q) : saP NP NJ NV w vv ck R j (saFrom NP NJ NV w ck vv R j S 0 q) := by
  unfold saFrom
  refine fold_inv (P := saP NP NJ NV w vv ck R j) _ _ (fun n q hn hq => ?_) h
  have hn : n < NV := by have := List.mem_range'_1.mp hn; omega
  unfold saStep
  by_cases c1 : (siC NP NJ w ck (vv n) (R n) j (S n) 1000000).2.1 = -1
  · rw [if_pos c1]; exact hq
  · rw [if_neg c1]
    by_cases c2 : q.1 ≤ (siC NP NJ w ck (vv n) (R n) j (S n) 1000000).2.1
    · rw [if_pos c2]
      by_cases c3 : q.2.1 ≤ (siC NP NJ w ck (vv n) (R n) j (S n) 1000000).2.1
      · rw [if_pos c3]; exact hq
      · rw [if_neg c3]; exact hq
    · rw [if_neg c2]
      obtain ⟨i, k, -, h1, h2, h3, -, -, h4⟩ := siC_spec c1
      refine Or.inr ⟨n, hn, rfl, i, k, h1, h2, ?_, ?_⟩
      · show ((siC NP NJ w ck (vv n) (R n) j (S n) 1000000).2.2.1, (siC NP NJ w ck (vv n) (R n) j (S n) 1000000).2.2.2) = _
        rw [h3]
      · have h9 := tAllowed_9 h4
        rw [tRideR_eq h9] at h9
        exact h9
/-- a job that no route holds is put where it was found best to be -/
theorem putR_good (C : pC NP NJ NV w vv N R) {J : Nat} {q : I6} (hJ : J < NJ) (hno : ∀ m, m < NV → 2 * J ∉ N m) (h : saP NP NJ NV w vv ck R (nI J) q) : ∃ N', pC NP NJ NV w vv N' (putR NV R (saBest (nI J) q)) ∧ ∀ m, NV ≤ m → putR NV R (saBest (nI J) q) m = R m := by
  have h3 := C.2.2.1.1
  have hJ9 := C.2.1.1
  unfold putR
  have b1 : saBest (nI J) q 1 = q.2.2.1 := rfl
  have b0 : saBest (nI J) q 0 = nI J := rfl
  have b2 : saBest (nI J) q 2 = q.2.2.2.2.1 := rfl
  have b3 : saBest (nI J) q 3 = q.2.2.2.2.2 := rfl
  rw [b1, b0, b2, b3]
  rcases h with h | ⟨n, hn, h1, i, k, hik, hk, h2, hal⟩
  · rw [h, if_pos (by decide)]
    exact ⟨N, C, fun m _ => rfl⟩
  · rw [h1, if_neg (nI_pos (by omega)), if_pos (nI_lt hn (by omega)), nI_clamp (by omega), h2]
    have hl := C.len hn
    rw [C.2.2.2.2.1 n hn, List.length_map] at hk
    have e1 : (nI i).toNatClampNeg = i := nI_clamp (by omega)
    have e2 : (nI (k + 1)).toNatClampNeg - 1 = k := by rw [nI_clamp (by omega)]; omega
    show ∃ N', pC NP NJ NV w vv N' (va_up R n (rWith (R n) (nI J) (nI i).toNatClampNeg ((nI (k + 1)).toNatClampNeg - 1))) ∧ _
    rw [e1, e2]
    refine ⟨_, put_good C hJ hn hno hik (by rw [C.2.2.2.2.1 n hn, List.length_map]; exact hk) hal, fun m hm => ?_⟩
    show (if m = n then _ else R m) = R m
    rw [if_neg (by omega)]
theorem open_of_carr (C : pC NP NJ NV w vv N R) {J : Nat} (hJ : J < 9) (h : carrF NV R (nI J) = -1) : ∀ m, m < NV → 2 * J ∉ N m := by
  rcases C.carr hJ with ⟨n, hn, -, e, -⟩ | ⟨h1, -⟩
  · rw [e] at h
    exact absurd h (nI_ne1 (by have := C.2.2.1.1; omega))
  · exact h1
def crP (NP NJ NV : Nat) (w vv : Nat → Nat → Int32) (ck : Int32) (R : Nat → List Int32) (S : Nat → Nat) (q : Bool × (Nat → Int32)) : Prop := q.1 = true → ∃ J, J < NJ ∧ carrF NV R (nI J) = -1 ∧ q.2 = saC NP NJ NV w ck vv R (nI J) S
theorem cr_spec {S : Nat → Nat} : crP NP NJ NV w vv ck R S (crC NP NJ NV w ck vv R S) := by
  unfold crC crFrom
  refine fold_inv (P := crP NP NJ NV w vv ck R S) _ _ (fun J q hJ hq => ?_) (fun h => by cases h)
  have hJ : J < NJ := by have := List.mem_range'_1.mp hJ; omega
  unfold crStep
  by_cases c1 : carrF NV R (nI J) = -1
  · rw [if_pos c1]
    split
    · exact hq
    · split
      · exact hq
      · split
        · exact fun _ => ⟨J, hJ, c1, rfl⟩
        · split
          · exact fun _ => ⟨J, hJ, c1, rfl⟩
          · exact hq
  · rw [if_neg c1]; exact hq
theorem rb_good {S : Nat → Nat} : ∀ (m : Nat) {N : Nat → List Nat} {R : Nat → List Int32}, pC NP NJ NV w vv N R → (∃ N', pC NP NJ NV w vv N' (rbF NP NJ NV w ck vv S m R).2) ∧ ∀ n, NV ≤ n → (rbF NP NJ NV w ck vv S m R).2 n = R n := by
  intro m
  induction m with
  | zero => intro N R C; exact ⟨⟨N, C⟩, fun _ _ => rfl⟩
  | succ m ih =>
    intro N R C
    unfold rbF
    by_cases c : (crC NP NJ NV w ck vv R S).1 = true
    · rw [if_pos c]
      obtain ⟨J, hJ, h1, h2⟩ := cr_spec c
      have hno := open_of_carr C (by have := C.2.1.1; omega) h1
      rw [h2]
      unfold saC
      obtain ⟨N', C', hr⟩ := putR_good C hJ hno (sa_spec (ck := ck) (S := S) (q := (1000000, 1000000, -1, -1, 0, 0)) (Or.inl rfl))
      obtain ⟨i1, i2⟩ := ih C'
      exact ⟨i1, fun n hn => (i2 n hn).trans (hr n hn)⟩
    · rw [if_neg c]; exact ⟨⟨N, C⟩, fun _ _ => rfl⟩
end
