/-! what an insertion adds -/
theorem pLen_ins {w : Nat → Nat → Int32} {p x y : Nat} {a r : List Nat} : pLen w p (a ++ x :: y :: r) = pLen w p (a ++ y :: r) + ((DI w (a.getLast?.getD p) x + DI w x y) - DI w (a.getLast?.getD p) y) := by
  rw [pLen_app, pLen_app]
  show pLen w p a + (DI w _ x + (DI w x y + pLen w y r)) = pLen w p a + (DI w _ y + pLen w y r) + _
  omega
theorem getLast_mem_lt {n p : Nat} {a : List Nat} (hp : p < n) (ha : ∀ x, x ∈ a → x < n) : a.getLast?.getD p < n := by
  cases h : a.getLast? with
  | none => exact hp
  | some x => exact ha x (List.mem_of_getLast? h)
theorem nWith_plc {w : Nat → Nat → Int32} {M : List Nat} {J i k : Nat} : (nWith M J i k).map (plc w) = (M.take i).map (plc w) ++ plc w (2 * J) :: (((M.take k).drop i).map (plc w) ++ plc w (2 * J + 1) :: (M.drop k).map (plc w)) := by
  unfold nWith
  simp only [List.map_append, List.map_cons, List.map_nil, List.append_assoc, List.cons_append, List.nil_append]
section
variable {NP NJ NV : Nat} {w vv : Nat → Nat → Int32} {ck : Int32} {N : Nat → List Nat} {R : Nat → List Int32}
/-- the place ahead of the stop i, and the place at the stop i, home at the ends -/
def pAh (w : Nat → Nat → Int32) (h : Nat) (M : List Nat) (i : Nat) : Nat := ((M.take i).map (plc w)).getLast?.getD h
def pAt (w : Nat → Nat → Int32) (h : Nat) (M : List Nat) (i : Nat) : Nat := ((M.drop i).map (plc w) ++ [h]).head?.getD h
theorem pAt_cons {h : Nat} {M : List Nat} {i : Nat} : ∃ r, (M.drop i).map (plc w) ++ [h] = pAt w h M i :: r := by
  unfold pAt
  cases (M.drop i).map (plc w) with
  | nil => exact ⟨[], rfl⟩
  | cons x r => exact ⟨r ++ [h], rfl⟩
theorem lenI_with {h : Nat} {M : List Nat} {J i k : Nat} (hik : i ≤ k) (hk : k ≤ M.length) : lenI w h (nWith M J i k) = lenI w h M +
    (((DI w (pAh w h M i) (plc w (2 * J)) + DI w (plc w (2 * J)) (pAt w h M i)) - DI w (pAh w h M i) (pAt w h M i)) +
      (if k = i then ((DI w (plc w (2 * J)) (plc w (2 * J + 1)) + DI w (plc w (2 * J + 1)) (pAt w h M i)) - DI w (plc w (2 * J)) (pAt w h M i))
        else ((DI w (pAh w h M k) (plc w (2 * J + 1)) + DI w (plc w (2 * J + 1)) (pAt w h M k)) - DI w (pAh w h M k) (pAt w h M k)))) := by
  obtain ⟨r1, e1⟩ := pAt_cons (w := w) (h := h) (M := M) (i := i)
  obtain ⟨r2, e2⟩ := pAt_cons (w := w) (h := h) (M := M) (i := k)
  have es := seg_split (M := M) hik
  have eM : M.map (plc w) ++ [h] = (M.take i).map (plc w) ++ ((M.drop i).map (plc w) ++ [h]) := by
    rw [← List.append_assoc, ← List.map_append, List.take_append_drop]
  have eD : (M.drop i).map (plc w) ++ [h] = ((M.take k).drop i).map (plc w) ++ ((M.drop k).map (plc w) ++ [h]) := by
    rw [← List.append_assoc, ← List.map_append]
    congr 2
    have h1 : M.drop i = ((M.take i ++ (M.take k).drop i) ++ M.drop k).drop i := by rw [← es]
    rw [h1, List.append_assoc, List.drop_append, List.length_take, Nat.min_eq_left (by omega), Nat.sub_self, List.drop_zero]
    rw [List.drop_eq_nil_of_le (by rw [List.length_take]; omega), List.nil_append]
  unfold lenI
  rw [nWith_plc]
  rw [show ((M.take i).map (plc w) ++ plc w (2 * J) :: (((M.take k).drop i).map (plc w) ++ plc w (2 * J + 1) :: (M.drop k).map (plc w))) ++ [h] = ((M.take i).map (plc w) ++ plc w (2 * J) :: ((M.take k).drop i).map (plc w)) ++ plc w (2 * J + 1) :: ((M.drop k).map (plc w) ++ [h]) by simp only [List.append_assoc, List.cons_append]]
  rw [e2, pLen_ins, ← e2]
  rw [show ((M.take i).map (plc w) ++ plc w (2 * J) :: ((M.take k).drop i).map (plc w)) ++ ((M.drop k).map (plc w) ++ [h]) = (M.take i).map (plc w) ++ plc w (2 * J) :: (((M.take k).drop i).map (plc w) ++ ((M.drop k).map (plc w) ++ [h])) by simp only [List.append_assoc, List.cons_append]]
  rw [← eD, e1, pLen_ins, ← e1, ← eM]
  by_cases c : k = i
  · subst c
    rw [if_pos rfl]
    have en : (M.take k).drop k = [] := List.drop_eq_nil_of_le (by rw [List.length_take]; omega)
    rw [en]
    have el : ((M.take k).map (plc w) ++ plc w (2 * J) :: List.map (plc w) []).getLast?.getD h = plc w (2 * J) := by simp
    rw [el]
    show _ + ((DI w (pAh w h M k) _ + _) - DI w (pAh w h M k) _) + _ = _
    omega
  · rw [if_neg c]
    have hlt : i < k := by omega
    have el : ((M.take i).map (plc w) ++ plc w (2 * J) :: ((M.take k).drop i).map (plc w)).getLast?.getD h = pAh w h M k := by
      unfold pAh
      have h1 : (M.take k).drop i ≠ [] := fun q => by
        have := congrArg List.length q
        rw [List.length_drop, List.length_take] at this
        simp at this
        omega
      have h2 : M.take k = M.take i ++ (M.take k).drop i := by
        have := seg_split (M := M.take k) (i := i) (k := k) hik
        rw [List.take_take, List.take_take, Nat.min_self, Nat.min_eq_left hik, List.drop_eq_nil_of_le (as := M.take k) (i := k) (by rw [List.length_take]; omega), List.append_nil] at this
        exact this
      rw [show ((M.take k).map (plc w)).getLast? = ((M.take i).map (plc w) ++ ((M.take k).drop i).map (plc w)).getLast? by rw [← List.map_append, ← h2]]
      rw [List.getLast?_append, List.getLast?_append, List.getLast?_cons]
      cases hx : (((M.take k).drop i).map (plc w)).getLast? with
      | none => exact absurd (by rw [List.getLast?_eq_none_iff, List.map_eq_nil_iff] at hx; exact hx) h1
      | some x => rfl
    rw [el]
    show _ + ((DI w (pAh w h M i) _ + _) - DI w (pAh w h M i) _) + _ = _
    omega
theorem pAh_lt (hg : gOk NP w) (hj : jOk NP NJ w) {h : Nat} {M : List Nat} {i : Nat} (hh : h < NP) (hM : ∀ s, s ∈ M → s < 2 * NJ) : pAh w h M i < NP := getLast_mem_lt hh (fun x hx => by
  obtain ⟨s, hs, rfl⟩ := List.mem_map.mp hx
  exact plc_lt hg hj (hM s (List.mem_of_mem_take hs)))
theorem pAt_lt (hg : gOk NP w) (hj : jOk NP NJ w) {h : Nat} {M : List Nat} {i : Nat} (hh : h < NP) (hM : ∀ s, s ∈ M → s < 2 * NJ) : pAt w h M i < NP := by
  unfold pAt
  cases e : (M.drop i).map (plc w) with
  | nil => exact hh
  | cons x r =>
    have h1 : x ∈ (M.drop i).map (plc w) := by rw [e]; exact List.mem_cons_self
    obtain ⟨s, hs, rfl⟩ := List.mem_map.mp h1
    exact plc_lt hg hj (hM s (List.mem_of_mem_drop hs))
theorem place_at (hg : gOk NP w) (hj : jOk NP NJ w) {v : Nat → Int32} {h : Nat} {M : List Nat} {i : Nat} (hv : v 0 = nI h) (hM : ∀ s, s ∈ M → s < 2 * NJ) (hl : M.length ≤ 18) (hi : i ≤ M.length) : placeF NJ w v (mp M) (nI i) = nI (pAt w h M i) := by
  have hJ9 := hj.1
  unfold placeF
  rcases Nat.lt_or_ge i M.length with c | c
  · rw [rAt_nI (by rw [List.length_map]; exact c) (by rw [List.length_map]; exact hl), getD_mp c]
    have hs := hM M[i] (List.getElem_mem _)
    rw [if_pos (isStopB_nI hJ9 hs), nI_clamp (by omega), (sOk_pl (hj.2.1 _ hs) hg.1).2]
    unfold pAt
    rw [List.drop_eq_getElem_cons c]
    rfl
  · have e : i = M.length := by omega
    have er : rAt (mp M) (nI i) = -1 := by
      unfold rAt
      rw [if_neg (nI_pos (by omega)), if_pos ((nI_leN (by rw [List.length_map]; omega) (by omega)).mpr (by rw [List.length_map]; omega))]
    rw [er, if_neg (by unfold isStopB; simp), hv]
    unfold pAt
    rw [List.drop_eq_nil_of_le c]
    rfl
theorem place_ah (hg : gOk NP w) (hj : jOk NP NJ w) {v : Nat → Int32} {h : Nat} {M : List Nat} {i : Nat} (hv : v 0 = nI h) (hM : ∀ s, s ∈ M → s < 2 * NJ) (hl : M.length ≤ 18) (hi : i ≤ M.length) : placeF NJ w v (mp M) (nI i - 1) = nI (pAh w h M i) := by
  have hJ9 := hj.1
  cases i with
  | zero =>
    have er : rAt (mp M) (nI 0 - 1) = -1 := by
      unfold rAt
      rw [if_pos (by decide)]
    unfold placeF
    rw [er, if_neg (by unfold isStopB; simp), hv]
    rfl
  | succ i =>
    rw [nI_sub1 (by omega), show i + 1 - 1 = i by omega, place_at hg hj hv hM hl (by omega)]
    congr 1
    unfold pAt pAh
    have c : i < M.length := by omega
    rw [List.drop_eq_getElem_cons c, List.take_succ_eq_append_getElem c, List.map_append, List.getLast?_append]
    rfl
theorem detF_I (hg : gOk NP w) {a o b : Nat} (ha : a < NP) (ho : o < NP) (hb : b < NP) : (detF NP (w 2) (nI a) (nI o) (nI b)).toInt = (DI w a o + DI w o b) - DI w a b ∧ 0 ≤ (DI w a o + DI w o b) - DI w a b ∧ (DI w a o + DI w o b) - DI w a b ≤ 240 := by
  have h1 := hg.rng ha ho
  have h2 := hg.rng ho hb
  have h3 := hg.rng ha hb
  have h4 := hg.tri ha ho hb
  unfold detF
  exact ⟨i_sub (i_add (wayF_nI hg ha ho) (wayF_nI hg ho hb) (by omega)) (wayF_nI hg ha hb) (by omega), by omega, by omega⟩
theorem adds_I (hg : gOk NP w) (hj : jOk NP NJ w) {v : Nat → Int32} {M : List Nat} {J i k : Nat} (hv : vOk NP v) (hJ : J < NJ) (hM : ∀ s, s ∈ M → s < 2 * NJ) (hl : M.length ≤ 16) (hik : i ≤ k) (hk : k ≤ M.length) :
    (addsF NP NJ w v (mp M) (nI J) (nI i) (nI (k + 1))).toInt = costI w v (nWith M J i k) - costI w v M ∧ 0 ≤ costI w v (nWith M J i k) - costI w v M ∧ costI w v (nWith M J i k) - costI w v M ≤ 5000 := by
  obtain ⟨⟨h, hh, e⟩, -, -, hp, hf⟩ := id hv
  have hJ9 := hj.1
  have h12 := hg.1
  have e0 : (v 0).toInt.toNat = h := by rw [e, nI_toInt (by omega)]; exact Int.toNat_natCast h
  have s1 := sOk_pl (hj.2.1 (2 * J) (by omega)) h12
  have s2 := sOk_pl (hj.2.1 (2 * J + 1) (by omega)) h12
  have a1 := pAh_lt hg hj (i := i) hh hM
  have a2 := pAt_lt hg hj (i := i) hh hM
  have a3 := pAh_lt hg hj (i := k) hh hM
  have a4 := pAt_lt hg hj (i := k) hh hM
  have d1 := detF_I hg a1 s1.1 a2
  have d2 := detF_I hg s1.1 s2.1 a2
  have d3 := detF_I hg a3 s2.1 a4
  have el := lenI_with (w := w) (h := h) (J := J) hik hk
  have hne : nWith M J i k ≠ [] := fun q => by
    have := congrArg List.length q
    unfold nWith at this
    simp at this
  have ec : costI w v (nWith M J i k) = (v 5).toInt + (v 4).toInt * lenI w h (nWith M J i k) := by unfold costI; rw [if_neg hne, e0]
  have h0 : M = [] → lenI w h M = 0 := fun q => by rw [q]; show DI w h h + 0 = 0; rw [hg.self hh]; rfl
  have efo : (fOf (nI J)).toNatClampNeg = 2 * J := by rw [fOf_nI]; exact nI_clamp (by omega)
  have ebo : (bOf (nI J)).toNatClampNeg = 2 * J + 1 := by rw [bOf_nI]; exact nI_clamp (by omega)
  have ekk : nI (k + 1) = nI i + 1 ↔ k = i := by rw [nI_1, nI_inj (by omega) (by omega)]; omega
  have e2 : nI (k + 1) - 2 = nI k - 1 := by rw [← nI_1, Int32.sub_eq_add_neg, Int32.add_assoc]; rw [show (1 : Int32) + -2 = -1 by decide, ← Int32.sub_eq_add_neg]
  have e1 : nI (k + 1) - 1 = nI k := by rw [nI_sub1 (by omega)]; rfl
  have ef : (if nI (mp M).length = 0 then v 5 else 0).toInt = if M = [] then (v 5).toInt else 0 := by
    rw [List.length_map]
    cases M with
    | nil => rfl
    | cons s M =>
      rw [if_neg (fun c => by
        have h9 := (i_eq (nI_toInt (n := (s :: M).length) (by omega)) (show (0 : Int32).toInt = (0 : Int) from rfl)).mp c
        rw [List.length_cons] at h9
        omega), if_neg (by simp)]
      rfl
  have hX : ∀ X : Int, 0 ≤ X → X ≤ 480 → 0 ≤ (v 4).toInt * X ∧ (v 4).toInt * X ≤ 4320 := fun X q1 q2 => by
    have b1 : 0 ≤ (v 4).toInt * X := Int.mul_nonneg (by omega) q1
    have b2 : (v 4).toInt * X ≤ 9 * X := Int.mul_le_mul_of_nonneg_right hp.2 q1
    omega
  have fin : ∀ X : Int, 0 ≤ X → X ≤ 480 → lenI w h (nWith M J i k) = lenI w h M + X → (v 4).toInt * X + (if M = [] then (v 5).toInt else 0) = costI w v (nWith M J i k) - costI w v M := fun X q1 q2 q3 => by
    rw [ec, q3, Int.mul_add]
    unfold costI
    rw [e0]
    by_cases c : M = []
    · rw [if_pos c, if_pos c, h0 c]; omega
    · rw [if_neg c, if_neg c]; omega
  have hb5 : ∀ X : Int, 0 ≤ X → X ≤ 480 → -2147483648 ≤ (v 4).toInt * X + (if M = [] then (v 5).toInt else 0) ∧ (v 4).toInt * X + (if M = [] then (v 5).toInt else 0) < 2147483648 ∧ 0 ≤ (v 4).toInt * X + (if M = [] then (v 5).toInt else 0) ∧ (v 4).toInt * X + (if M = [] then (v 5).toInt else 0) ≤ 5000 := fun X q1 q2 => by
    have := hX X q1 q2
    split <;> omega
  unfold addsF
  rw [efo, ebo, s1.2, s2.2, place_ah hg hj e hM (by omega) (by omega), place_at hg hj e hM (by omega) (by omega), e2, e1, place_ah hg hj e hM (by omega) hk, place_at hg hj e hM (by omega) hk]
  by_cases c : k = i
  · rw [if_pos (ekk.mpr c)]
    rw [if_pos c] at el
    have x1 := i_add d1.1 d2.1 (by omega)
    have x2 := hX _ (by omega : 0 ≤ (DI w (pAh w h M i) (plc w (2 * J)) + DI w (plc w (2 * J)) (pAt w h M i) - DI w (pAh w h M i) (pAt w h M i)) + (DI w (plc w (2 * J)) (plc w (2 * J + 1)) + DI w (plc w (2 * J + 1)) (pAt w h M i) - DI w (plc w (2 * J)) (pAt w h M i))) (by omega)
    have x3 := hb5 _ (by omega : 0 ≤ (DI w (pAh w h M i) (plc w (2 * J)) + DI w (plc w (2 * J)) (pAt w h M i) - DI w (pAh w h M i) (pAt w h M i)) + (DI w (plc w (2 * J)) (plc w (2 * J + 1)) + DI w (plc w (2 * J + 1)) (pAt w h M i) - DI w (plc w (2 * J)) (pAt w h M i))) (by omega)
    have x4 := fin _ (by omega) (by omega) el
    rw [i_add (i_mul rfl x1 (by omega)) ef ⟨x3.1, x3.2.1⟩, ← x4]
    exact ⟨rfl, x3.2.2⟩
  · rw [if_neg (fun q => c (ekk.mp q))]
    rw [if_neg c] at el
    have x1 := i_add d1.1 d3.1 (by omega)
    have x2 := hX _ (by omega : 0 ≤ (DI w (pAh w h M i) (plc w (2 * J)) + DI w (plc w (2 * J)) (pAt w h M i) - DI w (pAh w h M i) (pAt w h M i)) + (DI w (pAh w h M k) (plc w (2 * J + 1)) + DI w (plc w (2 * J + 1)) (pAt w h M k) - DI w (pAh w h M k) (pAt w h M k))) (by omega)
    have x3 := hb5 _ (by omega : 0 ≤ (DI w (pAh w h M i) (plc w (2 * J)) + DI w (plc w (2 * J)) (pAt w h M i) - DI w (pAh w h M i) (pAt w h M i)) + (DI w (pAh w h M k) (plc w (2 * J + 1)) + DI w (plc w (2 * J + 1)) (pAt w h M k) - DI w (pAh w h M k) (pAt w h M k))) (by omega)
    have x4 := fin _ (by omega) (by omega) el
    rw [i_add (i_mul rfl x1 (by omega)) ef ⟨x3.1, x3.2.1⟩, ← x4]
    exact ⟨rfl, x3.2.2⟩
end
