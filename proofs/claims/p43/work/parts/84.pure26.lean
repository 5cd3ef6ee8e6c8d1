/-! what the law asks of a sound plan, in the class's own numbers -/
section
variable {NP NJ NV : Nat} {w vv : Nat → Nat → Int32} {ck : Int32} {N : Nat → List Nat} {R : Nat → List Int32}
theorem inB_nI {n k : Nat} (hn : n < 2147483648) (h : k < n) : inB n (nI k) = true := by
  unfold inB
  rw [Bool.and_eq_true, Bool.not_eq_true', decide_eq_false_iff_not, decide_eq_true_eq]
  have z0 : (0 : Int32).toInt = (0 : Int) := rfl
  exact ⟨(not_congr (i_lt (nI_toInt (by omega)) z0)).mpr (by omega), (i_lt (nI_toInt (by omega)) (nI_toInt hn)).mpr (by omega)⟩
theorem so_len (C : pC NP NJ NV w vv N R) {v : Nat} (hv : v < NV) : (R v).length = (N v).length := by rw [C.2.2.2.2.1 v hv, List.length_map]
theorem so_stop (C : pC NP NJ NV w vv N R) {v k : Nat} (hv : v < NV) (hk : k < (N v).length) : stopB NV R (nI v) (nI k) = true := by
  have h3 := C.2.2.1.1
  have hl := C.len hv
  unfold stopB
  rw [nI_clamp (by omega), inB_nI (by omega) hv, inB_nI (by rw [so_len C hv]; omega) (by rw [so_len C hv]; exact hk)]
  rfl
theorem so_job (C : pC NP NJ NV w vv N R) {v k : Nat} (hv : v < NV) (hk : k < (N v).length) : inB NJ (nI ((N v)[k] / 2)) = true := by
  have h := (C.2.2.2.1.2 v hv).1 _ (List.getElem_mem hk)
  have h9 := C.2.1.1
  exact inB_nI (by omega) (by omega)
theorem so_at (C : pC NP NJ NV w vv N R) {v k : Nat} (hv : v < NV) (hk : k < (N v).length) : rAt (R v) (nI k) = nI (N v)[k] := by
  have hl := C.len hv
  have e := so_len C hv
  rw [rAt_nI (by rw [e]; exact hk) (by rw [e]; exact hl), C.2.2.2.2.1 v hv, getD_mp hk]
theorem so_jOf (C : pC NP NJ NV w vv N R) {v k : Nat} (hv : v < NV) (hk : k < (N v).length) : jOf (rAt (R v) (nI k)) = nI ((N v)[k] / 2) := by
  rw [so_at C hv hk, jOf_nI _ (C.s18 hv _ (List.getElem_mem hk))]
theorem so_isF (C : pC NP NJ NV w vv N R) {v k : Nat} (hv : v < NV) (hk : k < (N v).length) : isF (rAt (R v) (nI k)) = decide ((N v)[k] % 2 = 0) := by
  rw [so_at C hv hk, isF_nI _ (C.s18 hv _ (List.getElem_mem hk))]
/-- when it last began, ahead of the stop k -/
def nowF (NP NJ : Nat) (w : Nat → Nat → Int32) (ck : Int32) (v : Nat → Int32) (L : List Int32) (k : Nat) : Int32 := if k = 0 then -1 else tRun NP NJ w ck v (L.take k) 2
theorem so_now (C : pC NP NJ NV w vv N R) {v k : Nat} (hv : v < NV) (hk : k < (N v).length) : ¬ tRun NP NJ w ck (vv v) ((R v).take (k + 1)) 1 < nowF NP NJ w ck (vv v) (R v) k := by
  unfold nowF
  by_cases c : k = 0
  · subst c; rw [if_pos rfl]; exact arr_0 C hv hk
  · obtain ⟨m, rfl⟩ : ∃ m, k = m + 1 := ⟨k - 1, by omega⟩
    rw [if_neg c]; exact arr_beg C hv hk
theorem so_now1 {v : Nat → Int32} {L : List Int32} {k : Nat} : tRun NP NJ w ck v (L.take (k + 1)) 2 = nowF NP NJ w ck v L (k + 1) := by
  unfold nowF
  rw [if_neg (by omega)]
theorem so_back (C : pC NP NJ NV w vv N R) {v : Nat} (hv : v < NV) (h0 : 0 < (N v).length) : ¬ tRide NP NJ w ck (vv v) (R v) 1 < nowF NP NJ w ck (vv v) (R v) (N v).length := by
  unfold nowF
  rw [if_neg (by omega)]
  have h := back_beg (ck := ck) C hv h0
  rw [show (N v).length - 1 + 1 = (N v).length by omega] at h
  exact h
theorem so_upd {v k : Nat} (hk : k < (N v).length) : upd (fun J => nI (sn N v k J)) ((N v)[k] / 2) (nI (sn N v k ((N v)[k] / 2)) + 1) = fun J => nI (sn N v (k + 1) J) := by
  funext J
  show (if J = (N v)[k] / 2 then nI (sn N v k ((N v)[k] / 2)) + 1 else nI (sn N v k J)) = nI (sn N v (k + 1) J)
  rw [sn_step hk]
  by_cases c : J = (N v)[k] / 2
  · rw [if_pos c, if_pos c, c, nI_1]
  · rw [if_neg c, if_neg c]
theorem sm_le {f : Nat → Nat} {a : Nat} : ∀ n, a ≤ n → sm f a ≤ sm f n := by
  intro n
  induction n with
  | zero => intro h; rw [show a = 0 by omega]; exact Nat.le_refl _
  | succ n ih =>
    intro h
    by_cases c : a = n + 1
    · rw [c]; exact Nat.le_refl _
    · have := ih (by omega)
      show sm f a ≤ sm f n + f n
      omega
theorem nI_less {a b : Nat} (h : b ≤ a) (ha : a < 2147483648) : nI a - nI b = nI (a - b) := by
  refine Int32.toInt_inj.mp ?_
  rw [i_sub (nI_toInt ha) (nI_toInt (by omega)) (by omega), nI_toInt (by omega)]
  omega
theorem so_minus (C : pC NP NJ NV w vv N R) {j : Nat} (hj : j < NJ) : nI (pl N NV - sm (fun J => sn N NV 0 J) j) - nI (sn N NV 0 j) = nI (pl N NV - sm (fun J => sn N NV 0 J) (j + 1)) := by
  have h1 := pl_sm C NV (Nat.le_refl _)
  have h2 := sm_le (f := fun J => sn N NV 0 J) (a := j + 1) NJ (by omega)
  have h3 := pl_le C (v := NV) (Nat.le_refl _)
  have e : sm (fun J => sn N NV 0 J) (j + 1) = sm (fun J => sn N NV 0 J) j + sn N NV 0 j := rfl
  rw [e] at h2 ⊢
  rw [nI_less (by omega) (by omega), Nat.sub_sub]
theorem so_zero (C : pC NP NJ NV w vv N R) : pl N NV - sm (fun J => sn N NV 0 J) NJ = 0 := by
  rw [pl_sm C NV (Nat.le_refl _)]; exact Nat.sub_self _
end
