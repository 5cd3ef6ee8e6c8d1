/-! slack, empty routes, what all costs against its parts -/
section
variable {NP NJ NV : Nat} {w vv : Nat → Nat → Int32} {ck : Int32} {N : Nat → List Nat} {R : Nat → List Int32}
theorem toI_mn {a b : Int32} {A B : Int} (ha : a.toInt = A) (hb : b.toInt = B) : (mn a b).toInt = min A B := by
  unfold mn
  by_cases h : b < a
  · rw [if_pos h, hb]; have := (i_lt hb ha).mp h; omega
  · rw [if_neg h, ha]; have := (not_congr (i_lt hb ha)).mp h; omega
theorem iRun_0 {ck : Int} {v : Nat → Int32} {M : List Nat} {k : Nat} (hk : k < M.length) : iRun w ck v (M.take (k + 1)) 0 = (plc w M[k] : Int) ∧ iRun w ck v (M.take (k + 1)) 3 = iBeg w (iRun w ck v (M.take k)) M[k] + (w 7 M[k]).toInt := by
  rw [iRun_snoc hk]
  exact ⟨rfl, rfl⟩
theorem sl_ge (C : pC NP NJ NV w vv N R) {n k : Nat} (hn : n < NV) (hk : k < (N n).length) (hr : ¬ tRide NP NJ w ck (vv n) (R n) 9 = 0) {arr : Int32} (ha : arr.toInt = iArr w (iRun w ck.toInt (vv n) ((N n).take k)) (N n)[k]) :
    ∀ (m : Nat) (q : Int32 × Int32) (pq : Nat), q.2 = nI pq → pq < NP → q.1.toInt ≤ 1440 → ((∃ h : k + m < (N n).length, pq = plc w (N n)[k + m] ∧ iBeg w (iRun w ck.toInt (vv n) ((N n).take (k + m))) (N n)[k + m] ≤ q.1.toInt) ∨ (k + m = (N n).length ∧ pq = (vv n 0).toInt.toNat ∧ iRun w ck.toInt (vv n) (N n) 3 + iHD w (vv n) (iRun w ck.toInt (vv n) (N n)) ≤ q.1.toInt)) →
      ¬ slGo NP NJ w (mp (N n)) k arr m q < 0 := by
  obtain ⟨hg, hj, hv, hN, hR, hc⟩ := id C
  obtain ⟨hr1, hr2⟩ := right_I C hn hr
  have z0 : (0 : Int32).toInt = (0 : Int) := rfl
  have hlen := C.len hn
  intro m
  induction m with
  | zero =>
    intro q pq e1 hp hb h
    have hq : iBeg w (iRun w ck.toInt (vv n) ((N n).take k)) (N n)[k] ≤ q.1.toInt := by
      rcases h with ⟨h, -, h2⟩ | ⟨h, -⟩
      · exact h2
      · omega
    have hab : iArr w (iRun w ck.toInt (vv n) ((N n).take k)) (N n)[k] ≤ iBeg w (iRun w ck.toInt (vv n) ((N n).take k)) (N n)[k] := by unfold iBeg; omega
    have ha0 : 0 ≤ iArr w (iRun w ck.toInt (vv n) ((N n).take k)) (N n)[k] := by
      have h1 := (run_rel (ck := ck) C (k := k) hn).2.2.1
      have h2 := way_pos (ck := ck) C hn hk
      unfold iArr
      omega
    show ¬ (if arr ≤ q.1 then q.1 - arr else -1) < 0
    rw [if_pos ((i_le ha rfl).mpr (by omega)), i_lt (i_sub rfl ha (by omega)) z0]
    omega
  | succ m ih =>
    intro q pq e1 hp hb h
    have ht : k + m < (N n).length := by
      rcases h with ⟨h, -⟩ | ⟨h, -⟩ <;> omega
    have hs := (hN.2 n hn).1 _ (List.getElem_mem ht)
    have hso := hj.2.1 _ hs
    have hpl := sOk_pl hso hg.1
    have h18 := C.s18 hn _ (List.getElem_mem ht)
    obtain ⟨-, hm7, hm5, hm6, -⟩ := hso
    have hw := hg.rng hpl.1 hp
    have hb0 : 0 ≤ iBeg w (iRun w ck.toInt (vv n) ((N n).take (k + m))) (N n)[k + m] := by unfold iBeg; omega
    have hb5 : (w 5 (N n)[k + m]).toInt ≤ iBeg w (iRun w ck.toInt (vv n) ((N n).take (k + m))) (N n)[k + m] := by unfold iBeg; omega
    obtain ⟨r0, r3⟩ := iRun_0 (w := w) (ck := ck.toInt) (v := vv n) ht
    -- the next arrival is what follows from here
    have key : iBeg w (iRun w ck.toInt (vv n) ((N n).take (k + m))) (N n)[k + m] + (w 7 (N n)[k + m]).toInt + DI w (plc w (N n)[k + m]) pq ≤ q.1.toInt := by
      rcases h with ⟨h1, h2, h3⟩ | ⟨h1, h2, h3⟩
      · have h4 : iArr w (iRun w ck.toInt (vv n) ((N n).take (k + (m + 1)))) (N n)[k + (m + 1)] ≤ iBeg w (iRun w ck.toInt (vv n) ((N n).take (k + (m + 1)))) (N n)[k + (m + 1)] := by unfold iBeg; omega
        have h5 : iArr w (iRun w ck.toInt (vv n) ((N n).take (k + (m + 1)))) (N n)[k + (m + 1)] = iRun w ck.toInt (vv n) ((N n).take (k + m + 1)) 3 + DI w (iRun w ck.toInt (vv n) ((N n).take (k + m + 1)) 0).toNat pq := by rw [h2]; rfl
        rw [r0, Int.toNat_natCast, r3] at h5
        omega
      · have h5 : (N n).take (k + m + 1) = N n := List.take_of_length_le (by omega)
        rw [h5] at r0 r3
        have h6 : iHD w (vv n) (iRun w ck.toInt (vv n) (N n)) = DI w (plc w (N n)[k + m]) pq := by unfold iHD; rw [r0, Int.toNat_natCast, h2]
        rw [r3, h6] at h3
        exact h3
    have eD : (mp (N n)).getD (k + m) 0 = nI (N n)[k + m] := getD_mp ht
    have ec : (nI (N n)[k + m]).toNatClampNeg = (N n)[k + m] := nI_clamp (by omega)
    have e6 : (q.1 - wayF NP (w 2) (w 4 (N n)[k + m]) q.2 - w 7 (N n)[k + m]).toInt = q.1.toInt - DI w (plc w (N n)[k + m]) pq - (w 7 (N n)[k + m]).toInt := by
      have ew : (wayF NP (w 2) (w 4 (N n)[k + m]) q.2).toInt = DI w (plc w (N n)[k + m]) pq := by rw [hpl.2, e1]; exact wayF_nI hg hpl.1 hp
      exact i_sub (i_sub rfl ew (by omega)) rfl (by omega)
    have e7 := toI_mn (rfl : (w 6 (N n)[k + m]).toInt = (w 6 (N n)[k + m]).toInt) e6
    have hcl := hr2 (k + m) ht
    show ¬ (if isStopB NJ ((mp (N n)).getD (k + m) 0) = true then (if w 5 ((mp (N n)).getD (k + m) 0).toNatClampNeg ≤ (slStep NP NJ w q ((mp (N n)).getD (k + m) 0)).1 then slGo NP NJ w (mp (N n)) k arr m (slStep NP NJ w q ((mp (N n)).getD (k + m) 0)) else -1) else -1) < 0
    rw [eD, if_pos (isStopB_nI hj.1 hs), ec]
    have es : slStep NP NJ w q (nI (N n)[k + m]) = (mn (w 6 (N n)[k + m]) (q.1 - wayF NP (w 2) (w 4 (N n)[k + m]) q.2 - w 7 (N n)[k + m]), w 4 (N n)[k + m]) := by unfold slStep; rw [ec]
    rw [es, if_pos ((i_le rfl e7).mpr (by omega))]
    exact ih _ (plc w (N n)[k + m]) hpl.2 hpl.1 (by show (mn _ _).toInt ≤ _; rw [e7]; omega) (Or.inl ⟨ht, rfl, by show _ ≤ (mn _ _).toInt; rw [e7]; omega⟩)
/-- a right route has slack -/
theorem slack_ge (C : pC NP NJ NV w vv N R) {n k : Nat} (hn : n < NV) (hk : k < (N n).length) (hr : ¬ tRide NP NJ w ck (vv n) (R n) 9 = 0) : ¬ slF NP NJ w (vv n) (R n) k (tRun NP NJ w ck (vv n) ((R n).take (k + 1)) 1) < 0 := by
  obtain ⟨hg, hj, hv, hN, hR, hc⟩ := id C
  obtain ⟨⟨h, hh, e⟩, -, hd, -⟩ := hv.2 n hn
  have h12 := hg.1
  have ha : (tRun NP NJ w ck (vv n) ((R n).take (k + 1)) 1).toInt = iArr w (iRun w ck.toInt (vv n) ((N n).take k)) (N n)[k] := by
    rw [stop_I C hn hk (by omega), iRun_snoc hk]
    rfl
  have h0 : (vv n 0).toInt.toNat = h := by rw [e, nI_toInt (by omega)]; exact Int.toNat_natCast h
  unfold slF
  rw [hR n hn] at ha ⊢
  rw [List.length_map]
  rw [← hR n hn] at ha
  have := sl_ge C hn hk hr ha ((N n).length - k) (vv n 3, vv n 0) h e hh hd.2.2 (Or.inr ⟨by omega, h0.symm, (right_I C hn hr).1⟩)
  rw [← hR n hn] at this ⊢
  exact this
/-- an empty route costs nothing and is right -/
theorem empty_ok (C : pC NP NJ NV w vv N R) {n : Nat} (hn : n < NV) (h : N n = []) : tCost NP NJ w ck (vv n) (R n) = 0 ∧ ¬ tRide NP NJ w ck (vv n) (R n) 9 = 0 := by
  have e : R n = mp [] := by rw [C.2.2.2.2.1 n hn, h]
  rw [e]
  exact ⟨rfl, right_nil (ck := ck) C.1 C.2.1 (C.2.2.1.2 n hn)⟩
theorem csI_le (C : pC NP NJ NV w vv N R) {n : Nat} (hn : n < NV) : costI w (vv n) (N n) ≤ csI w vv NV N := by
  have key : ∀ m, m ≤ NV → n < m → costI w (vv n) (N n) ≤ csI w vv m N := by
    intro m
    induction m with
    | zero => intro _ h; omega
    | succ m ih =>
      intro hm h
      show _ ≤ csI w vv m N + costI w (vv m) (N m)
      by_cases c : n = m
      · subst c; have := csI_rng C (m := n) (by omega); omega
      · have h1 := ih (by omega) (by omega)
        have h2 := (tCost_I (ck := 0) C.1 C.2.1 (C.2.2.1.2 m (by omega)) (C.2.2.2.1.2 m (by omega)).1 (C.len (by omega))).2.1
        omega
  exact key NV (Nat.le_refl _) hn
/-- without a job it costs no more -/
theorem costWithout_le (C : pC NP NJ NV w vv N R) {J : Nat} (hJ : J < NJ) : ¬ costF NP NJ NV w ck vv R < costF NP NJ NV w ck vv R - (if carrF NV R (nI J) = -1 then w 3 (nI J).toNatClampNeg else svF NP NJ NV w ck vv R (nI J)) := by
  have hJ9 := C.2.1.1
  have h3 := C.2.2.1.1
  have b0 := cost_I (ck := ck) C
  have b1 := csI_rng C (m := NV) (Nat.le_refl _)
  have b2 := opI_rng C.2.1 (c := cn NV N) (m := NJ) (Nat.le_refl _)
  rcases C.carr (J := J) (by omega) with ⟨n, hn, hm, e, hlt⟩ | ⟨-, e⟩
  · rw [e, if_neg (nI_ne1 (by omega))]
    have hs := sv_I (ck := ck) C (by omega) hn hm hlt
    have h1 := cost_without C.1 C.2.1 (C.2.2.1.2 n hn) (C.2.2.2.1.2 n hn).1 J
    have h2 := tCost_I (ck := ck) C.1 C.2.1 (C.2.2.1.2 n hn) (C.2.2.2.1.2 n hn).1 (C.len hn)
    have h4 := tCost_I (ck := ck) C.1 C.2.1 (C.2.2.1.2 n hn) (rV_without (J := J) (C.2.2.2.1.2 n hn)).1 (Nat.le_trans (List.length_filter_le _ _) (C.len hn))
    rw [i_lt b0 (i_sub b0 hs (by omega))]
    omega
  · rw [e, if_pos rfl, nI_clamp (by omega)]
    have hf := C.2.1.2.2 J hJ
    rw [i_lt b0 (i_sub b0 rfl (by omega))]
    omega
/-- all costs no less than the routes -/
theorem cost_ge (C : pC NP NJ NV w vv N R) {s : Int32} (hs : s.toInt = csI w vv NV N) : ¬ costF NP NJ NV w ck vv R < s := by
  have b2 := opI_rng C.2.1 (c := cn NV N) (m := NJ) (Nat.le_refl _)
  rw [i_lt (cost_I C) hs]
  omega
end
