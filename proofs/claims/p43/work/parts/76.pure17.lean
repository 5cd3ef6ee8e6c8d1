/-! what is sound: times, loads, slack -/
section
variable {NP NJ NV : Nat} {w vv : Nat → Nat → Int32} {ck : Int32} {N : Nat → List Nat} {R : Nat → List Int32}
theorem rV_mono {n m : Nat} {M : List Nat} (h : n ≤ m) (hM : rV n M) : rV m M := ⟨fun s hs => by have := hM.1 s hs; omega, hM.2⟩
theorem rV_less {n J : Nat} {M : List Nat} (hJ : J = n) (hM : rV (n + 1) M) : rV n (nWithout M J) := by
  have h := rV_without (J := J) hM
  refine ⟨fun s hs => ?_, h.2⟩
  have h1 := h.1 s hs
  have h2 := of_decide_eq_true (List.mem_filter.mp hs).2
  omega
theorem load_pos (hj : jOk NP NJ w) : ∀ (n : Nat), n ≤ NJ → ∀ (M A B : List Nat), rV n M → M.Nodup → M = A ++ B → 0 ≤ loadI w A := by
  intro n
  induction n with
  | zero =>
    intro _ M A B hM _ e
    cases A with
    | nil => exact Int.le_refl 0
    | cons a A => exact absurd (hM.1 a (by rw [e]; exact List.mem_cons_self)) (by omega)
  | succ n ih =>
    intro hn M A B hM hnd e
    have h1 := load_less hj (rV_mono hn hM) hnd e n
    have e2 : nWithout M n = nWithout A n ++ nWithout B n := by rw [e]; exact List.filter_append ..
    have h2 := ih (by omega) (nWithout M n) (nWithout A n) (nWithout B n) (rV_less rfl hM) (hnd.filter _) e2
    omega
theorem load_end (hj : jOk NP NJ w) : ∀ (n : Nat), n ≤ NJ → ∀ (M : List Nat), rV n M → M.Nodup → loadI w M = 0 := by
  intro n
  induction n with
  | zero =>
    intro _ M hM _
    cases M with
    | nil => rfl
    | cons a M => exact absurd (hM.1 a List.mem_cons_self) (by omega)
  | succ n ih =>
    intro hn M hM hnd
    have hs := load_split (w := w) (J := n) rfl (hj.2.2 n (by omega)).2.1 M
    have h2 := ih (by omega) (nWithout M n) (rV_less rfl hM) (hnd.filter _)
    have hc : M.count (2 * n) = M.count (2 * n + 1) := by
      have c1 := List.nodup_iff_count.mp hnd (2 * n)
      have c2 := List.nodup_iff_count.mp hnd (2 * n + 1)
      by_cases h : 2 * n ∈ M
      · have a1 := List.count_pos_iff.mpr h
        have a2 := List.count_pos_iff.mpr (hM.2.1 n h)
        omega
      · have h' : 2 * n + 1 ∉ M := fun c => by
          have hb := bOk_mem hM.2.2 (2 * n + 1) c (by omega)
          rw [show 2 * n + 1 - 1 = 2 * n by omega] at hb
          exact hb.elim h id
        rw [List.count_eq_zero.mpr h, List.count_eq_zero.mpr h']
    rw [hs, h2, hc]
    omega
theorem iRun_snoc {ck : Int} {v : Nat → Int32} {M : List Nat} {k : Nat} (hk : k < M.length) : iRun w ck v (M.take (k + 1)) = iV w ck (v 1).toInt (iRun w ck v (M.take k)) M[k] := by
  unfold iRun
  rw [List.take_succ_eq_append_getElem hk, List.foldl_append]
  rfl
/-- the numbers at a stop of a route -/
theorem stop_I (C : pC NP NJ NV w vv N R) {n k : Nat} (hn : n < NV) (hk : k < (N n).length) {q : Nat} (hq : q < 10) : (tRun NP NJ w ck (vv n) ((R n).take (k + 1)) q).toInt = iRun w ck.toInt (vv n) ((N n).take (k + 1)) q := by
  obtain ⟨hg, hj, hv, hN, hR, hc⟩ := id C
  rw [hR n hn]
  have e : (mp (N n)).take (k + 1) = mp ((N n).take (k + 1)) := by unfold mp; rw [List.map_take]
  rw [e]
  exact (tRun_rel (ck := ck) hg hj (hv.2 n hn) (fun s hs => (hN.2 n hn).1 s (List.mem_of_mem_take hs)) (by rw [List.length_take]; have := C.len hn; omega)).1 q hq
theorem run_rel (C : pC NP NJ NV w vv N R) {n k : Nat} (hn : n < NV) : iRel NP ((N n).take k).length (tRun NP NJ w ck (vv n) (mp ((N n).take k))) (iRun w ck.toInt (vv n) ((N n).take k)) := by
  obtain ⟨hg, hj, hv, hN, hR, hc⟩ := id C
  exact tRun_rel (ck := ck) hg hj (hv.2 n hn) (fun s hs => (hN.2 n hn).1 s (List.mem_of_mem_take hs)) (by rw [List.length_take]; have := C.len hn; omega)
theorem way_pos (C : pC NP NJ NV w vv N R) {n k : Nat} (hn : n < NV) (hk : k < (N n).length) : 0 ≤ DI w (iRun w ck.toInt (vv n) ((N n).take k) 0).toNat (plc w (N n)[k]) := by
  obtain ⟨hg, hj, hv, hN, hR, hc⟩ := id C
  obtain ⟨-, ⟨p, hp, e⟩, -⟩ := run_rel (ck := ck) C (k := k) hn
  rw [e, Int.toNat_natCast]
  exact (hg.rng hp (plc_lt hg hj ((hN.2 n hn).1 _ (List.getElem_mem hk)))).1
/-- begins is no earlier than arrives -/
theorem beg_arr (C : pC NP NJ NV w vv N R) {n k : Nat} (hn : n < NV) (hk : k < (N n).length) : ¬ tRun NP NJ w ck (vv n) ((R n).take (k + 1)) 2 < tRun NP NJ w ck (vv n) ((R n).take (k + 1)) 1 := by
  rw [i_lt (stop_I C hn hk (by omega)) (stop_I C hn hk (by omega)), iRun_snoc hk]
  show ¬ iBeg w _ _ < iArr w _ _
  unfold iBeg
  omega
/-- arrives is no earlier than the last begins -/
theorem arr_beg (C : pC NP NJ NV w vv N R) {n k : Nat} (hn : n < NV) (hk : k + 1 < (N n).length) : ¬ tRun NP NJ w ck (vv n) ((R n).take (k + 1 + 1)) 1 < tRun NP NJ w ck (vv n) ((R n).take (k + 1)) 2 := by
  have hw := way_pos (ck := ck) C hn hk
  have hm := (C.2.1.2.1 _ ((C.2.2.2.1.2 n hn).1 _ (List.getElem_mem (by omega : k < (N n).length)))).2.1
  rw [i_lt (stop_I C hn hk (by omega)) (stop_I C hn (by omega) (by omega)), iRun_snoc hk]
  show ¬ iRun w ck.toInt (vv n) ((N n).take (k + 1)) 3 + DI w (iRun w ck.toInt (vv n) ((N n).take (k + 1)) 0).toNat (plc w (N n)[k + 1]) < iRun w ck.toInt (vv n) ((N n).take (k + 1)) 2
  rw [iRun_snoc (by omega : k < (N n).length)] at hw ⊢
  show ¬ iBeg w _ _ + (w 7 (N n)[k]).toInt + _ < iBeg w _ _
  omega
theorem arr_0 (C : pC NP NJ NV w vv N R) {n : Nat} (hn : n < NV) (hk : 0 < (N n).length) : ¬ tRun NP NJ w ck (vv n) ((R n).take (0 + 1)) 1 < -1 := by
  have hw := way_pos (ck := ck) C hn hk
  have hr := run_rel (ck := ck) C (k := 0) hn
  rw [i_lt (stop_I C hn hk (by omega)) (show (-1 : Int32).toInt = (-1 : Int) from rfl), iRun_snoc hk]
  show ¬ iRun w ck.toInt (vv n) ((N n).take 0) 3 + DI w _ _ < -1
  have := hr.2.2.1
  omega
theorem load_I (C : pC NP NJ NV w vv N R) {n k : Nat} (hn : n < NV) (hk : k < (N n).length) : (tRun NP NJ w ck (vv n) ((R n).take (k + 1)) 4).toInt = loadI w ((N n).take (k + 1)) := by
  rw [stop_I C hn hk (by omega)]
  unfold iRun
  rw [iRun_4]
  show (0 : Int) + _ = _
  omega
/-- no load is below 0; the last one is 0 -/
theorem load_ge (C : pC NP NJ NV w vv N R) {n k : Nat} (hn : n < NV) (hk : k < (N n).length) : ¬ tRun NP NJ w ck (vv n) ((R n).take (k + 1)) 4 < 0 := by
  have h := load_pos C.2.1 NJ (Nat.le_refl _) (N n) ((N n).take (k + 1)) ((N n).drop (k + 1)) (C.2.2.2.1.2 n hn) (gV_nd C.2.2.2.1 hn) (List.take_append_drop _ _).symm
  rw [i_lt (load_I C hn hk) (show (0 : Int32).toInt = (0 : Int) from rfl)]
  omega
theorem load_last (C : pC NP NJ NV w vv N R) {n : Nat} (hn : n < NV) (hk : 0 < (N n).length) : tRun NP NJ w ck (vv n) ((R n).take ((N n).length - 1 + 1)) 4 = 0 := by
  have h := load_end C.2.1 NJ (Nat.le_refl _) (N n) (C.2.2.2.1.2 n hn) (gV_nd C.2.2.2.1 hn)
  rw [i_eq (load_I C hn (by omega)) (show (0 : Int32).toInt = (0 : Int) from rfl)]
  rw [List.take_of_length_le (by omega)]
  exact h
theorem home_pos (C : pC NP NJ NV w vv N R) {n : Nat} (hn : n < NV) : 0 ≤ iHD w (vv n) (iRun w ck.toInt (vv n) (N n)) := by
  have hr := run_rel (ck := ck) C (k := (N n).length) hn
  rw [List.take_length] at hr
  exact (iHD_rng C.1 (C.2.2.1.2 n hn) hr.2.1).1
theorem ride_I (C : pC NP NJ NV w vv N R) {n : Nat} (hn : n < NV) {q : Nat} (hq : q < 10) : (tRide NP NJ w ck (vv n) (R n) q).toInt = iRide w ck.toInt (vv n) (N n) q := by
  rw [C.2.2.2.2.1 n hn]
  exact tRide_rel C.1 C.2.1 (C.2.2.1.2 n hn) (C.2.2.2.1.2 n hn).1 (C.len hn) q hq
/-- it is back no earlier than it last begins -/
theorem back_beg (C : pC NP NJ NV w vv N R) {n : Nat} (hn : n < NV) (hk : 0 < (N n).length) : ¬ tRide NP NJ w ck (vv n) (R n) 1 < tRun NP NJ w ck (vv n) ((R n).take ((N n).length - 1 + 1)) 2 := by
  have hh := home_pos (ck := ck) C hn
  have hm := (C.2.1.2.1 _ ((C.2.2.2.1.2 n hn).1 _ (List.getElem_mem (by omega : (N n).length - 1 < (N n).length)))).2.1
  rw [i_lt (ride_I C hn (by omega)) (stop_I C hn (by omega) (by omega))]
  have e : (N n).take ((N n).length - 1 + 1) = N n := List.take_of_length_le (by omega)
  have es := iRun_snoc (w := w) (ck := ck.toInt) (v := vv n) (M := N n) (k := (N n).length - 1) (by omega)
  rw [e] at es ⊢
  show ¬ iRun w ck.toInt (vv n) (N n) 3 + iHD w (vv n) (iRun w ck.toInt (vv n) (N n)) < iRun w ck.toInt (vv n) (N n) 2
  have e3 : iRun w ck.toInt (vv n) (N n) 3 = iRun w ck.toInt (vv n) (N n) 2 + (w 7 (N n)[(N n).length - 1]).toInt := by rw [es]; rfl
  omega
theorem waits_ge (C : pC NP NJ NV w vv N R) {n : Nat} (hn : n < NV) : ¬ tRide NP NJ w ck (vv n) (R n) 6 < 0 := by
  have hr := run_rel (ck := ck) C (k := (N n).length) hn
  rw [List.take_length] at hr
  rw [i_lt (ride_I C hn (by omega)) (show (0 : Int32).toInt = (0 : Int) from rfl)]
  show ¬ iRun w ck.toInt (vv n) (N n) 6 < 0
  have := hr.2.2.2.2.2.1
  omega
/-- a right ride: each stop begins in time, and it is back in time -/
theorem right_I (C : pC NP NJ NV w vv N R) {n : Nat} (hn : n < NV) (h : ¬ tRide NP NJ w ck (vv n) (R n) 9 = 0) : iRun w ck.toInt (vv n) (N n) 3 + iHD w (vv n) (iRun w ck.toInt (vv n) (N n)) ≤ (vv n 3).toInt ∧ ∀ k (hk : k < (N n).length), iBeg w (iRun w ck.toInt (vv n) ((N n).take k)) (N n)[k] ≤ (w 6 (N n)[k]).toInt := by
  have hne : iRide w ck.toInt (vv n) (N n) 9 ≠ 0 := fun c => h ((i_eq (ride_I C hn (by omega)) (show (0 : Int32).toInt = (0 : Int) from rfl)).mpr c)
  have e9 : iRide w ck.toInt (vv n) (N n) 9 = if iRun w ck.toInt (vv n) (N n) 3 + iHD w (vv n) (iRun w ck.toInt (vv n) (N n)) ≤ (vv n 3).toInt then iRun w ck.toInt (vv n) (N n) 9 else 0 := rfl
  by_cases c : iRun w ck.toInt (vv n) (N n) 3 + iHD w (vv n) (iRun w ck.toInt (vv n) (N n)) ≤ (vv n 3).toInt
  · rw [e9, if_pos c] at hne
    refine ⟨c, fun k hk => ?_⟩
    have e1 : iRun w ck.toInt (vv n) (N n) = ((N n).drop (k + 1)).foldl (iV w ck.toInt (vv n 1).toInt) (iRun w ck.toInt (vv n) ((N n).take (k + 1))) := by
      unfold iRun
      rw [← List.foldl_append, List.take_append_drop]
    rw [e1] at hne
    have h1 := (iRun_9 _ _ hne).1
    rw [iRun_snoc hk] at h1
    have e2 : ∀ (T : Nat → Int) (s : Nat), iV w ck.toInt (vv n 1).toInt T s 9 = if (w 6 s).toInt < iBeg w T s then 0 else if T 4 + (w 8 s).toInt ≤ (vv n 1).toInt then T 9 else 0 := fun _ _ => rfl
    rw [e2] at h1
    by_cases c2 : (w 6 (N n)[k]).toInt < iBeg w (iRun w ck.toInt (vv n) ((N n).take k)) (N n)[k]
    · rw [if_pos c2] at h1; exact absurd rfl h1
    · omega
  · rw [e9, if_neg c] at hne
    exact absurd rfl hne
end
