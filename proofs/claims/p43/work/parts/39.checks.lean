def outF (x y z : Int32) : Bool := decide (x < y) || !decide (x ≤ z)
/-- a number from 0 on, below n -/
def inB (n : Nat) (x : Int32) : Bool := !decide (x < 0) && decide (x < nI n)
def stopB (NV : Nat) (R : Nat → List Int32) (v s : Int32) : Bool := inB NV v && inB (R v.toNatClampNeg).length s
theorem inB_3 {n : Nat} {x : Int32} (hn : n ≤ 3) (h : inB n x = true) : x = nI 0 ∨ x = nI 1 ∨ x = nI 2 := by
  unfold inB at h
  rw [Bool.and_eq_true, Bool.not_eq_true', decide_eq_false_iff_not, decide_eq_true_eq] at h
  obtain ⟨h1, h2⟩ := h
  rw [Int32.lt_iff_toInt_lt] at h1 h2
  rw [nI_toInt (by omega)] at h2
  have h0 : (0 : Int32).toInt = 0 := rfl
  rw [h0] at h1
  have k : ∀ m : Nat, m < 2147483648 → x.toInt = (m : Int) → x = nI m := fun m hm e => Int32.toInt_inj.mp (by rw [nI_toInt hm]; exact e)
  rcases (by omega : x.toInt = (0 : Int) ∨ x.toInt = (1 : Int) ∨ x.toInt = (2 : Int)) with e | e | e
  · exact Or.inl (k 0 (by omega) e)
  · exact Or.inr (Or.inl (k 1 (by omega) e))
  · exact Or.inr (Or.inr (k 2 (by omega) e))
set_option maxHeartbeats 4000000 in
set_option maxRecDepth 100000 in
theorem c_X5_checkKind (l : Launch) (hlT : l.stackTraces = false) (dC : Nat → ClassId) (dI : Nat → Nat → Nat) (cI cV : ClassId) (x : Int32) (sz : Nat) : vx_Met l yX5_checkKind (Cond.code yX5_checkKind cX5_checkKind 1 none :: TB) ({ frames := 6, cells := 1, slots := 6, locals := 100 } : Room) (PXr [.int x] (dC, dI) [] (TY cI cV) sz) (va_Qv (fun _ : Unit => outF x 0 3 = false) (fun _ _ => True) (NA sz)) (vx_X (fun E => E = "java/lang/IllegalArgumentException" ∧ outF x 0 3 = true) (fun E u _ => E = u) (NA sz)) 1 6 (NA sz) := by
  refine vx_ofW (cc := cX5_checkKind) (maxL := 1) (ret := none) (by decide) rfl ?_
  intro p e s m args below meth c s₁ B hml htb hv
  obtain ⟨rfl, hsz, hP, hK, hN, hXs, hZs⟩ := hv
  have hx := B.exec
  have hb := B.bytes
  have hr := B.returns
  have hts := atoms_spec (ws := (Cond.code yX5_checkKind cX5_checkKind 1 none :: TB)) B.pre
  have hown : s.vm.findClass RX5 = some m.cls := findClass_of_methodNamed B.named
  have hlocks := B.notSynchronized
  subst hsz
  have hA : ∀ q : Nat, s.heap.size ≤ q → NA s.heap.size q := fun q h => h
  have hS : va_S (NA s.heap.size) s.heap s.heap [] := va_S.rf
  have hl := lv_entry ([.int x]) (n := 1) (Nat.le_of_ble_eq_true rfl)
  rw [lg_entry_eq]
  generalize (lg_sl ([.int x]) ++ List.replicate (1 - (lg_sl ([.int x])).length) Slot.unset).toArray = ls at hl ⊢
  have hl : lv_has ls 1 [(0, .int x)] := hl
  refine lv_iload_n hx hb dX5_checkKind_0 rfl (lv_at hl 0 rfl) ?_
  refine lv_iconst (v := 0) hx hb dX5_checkKind_1 (by decide) ?_
  refine lv_iconst (v := 3) hx hb dX5_checkKind_2 (by decide) ?_
  refine k_Ti [.int x, .int 0, .int 3] ⟨hx, hb, hml, hown, hts⟩ (c_X5_isOutside l x 0 3) q_ml_X5_50 q_st_X5_isOutside q_ini_X5 q_co_X5_isOutside (n := 3) (by decide +kernel) rfl ⟨rfl, rfl⟩ ⟨Nat.le_of_ble_eq_true rfl, Nat.le_of_ble_eq_true rfl⟩ hl.1 rfl (Nat.le_of_ble_eq_true rfl) dX5_checkKind_3 ⟨Nat.le_of_ble_eq_true rfl, Nat.le_of_ble_eq_true rfl⟩ (fun r_1 hr_1 => ?_)
  subst hr_1
  refine lv_if_eq (tgt := 20) hx hb dX5_checkKind_6 (by decide) (fun c_2 => ?_) (fun c_2 => ?_)
  · refine k_wid (k := 1) (n := 6) (Nat.le_of_ble_eq_true rfl) (Nat.le_of_ble_eq_true rfl) (vx_ret ?_)
    exact W.vret hx hb hr (fun t9 ht9 hW9 => ⟨⟨(), rfl, b01_0.mp c_2, trivial⟩, hS.F ht9⟩) hS.2.2 dX5_checkKind_20
  · exact k_thaW ⟨hx, hb, hml, hown, hts⟩ hlT hXs hZs hS 331 "kind is 0 to 3" (by decide) hl.1 dX5_checkKind_9 dX5_checkKind_12 dX5_checkKind_13 dX5_checkKind_16 dX5_checkKind_19 htb ⟨by decide, by decide, Nat.le_of_ble_eq_true rfl, Nat.le_of_ble_eq_true rfl⟩ hlocks (fun t8 h0 h1 h2 => ⟨"java/lang/IllegalArgumentException", ⟨rfl, ts9.mp (fun q => c_2 (b01_0.mpr q))⟩, rfl, ⟨Nat.le_trans hS.1 h1, fun q p1 p2 => (h2 q (Nat.lt_of_lt_of_le p1 hS.1)).trans (hS.2.1 q p1 p2)⟩⟩) hS.2.2 ⟨Nat.le_of_ble_eq_true rfl, Nat.le_of_ble_eq_true rfl⟩
set_option maxHeartbeats 4000000 in
set_option maxRecDepth 100000 in
theorem c_X5_checkHours (l : Launch) (hlT : l.stackTraces = false) (dC : Nat → ClassId) (dI : Nat → Nat → Nat) (cI cV : ClassId) (x y : Int32) (sz : Nat) : vx_Met l yX5_checkHours (Cond.code yX5_checkHours cX5_checkHours 2 none :: TB) ({ frames := 6, cells := 1, slots := 6, locals := 100 } : Room) (PXr [.int x, .int y] (dC, dI) [] (TY cI cV) sz) (va_Qv (fun _ : Unit => (outF x 0 1440 || outF y x 1440) = false) (fun _ _ => True) (NA sz)) (vx_X (fun E => E = "java/lang/IllegalArgumentException" ∧ (outF x 0 1440 || outF y x 1440) = true) (fun E u _ => E = u) (NA sz)) 1 6 (NA sz) := by
  refine vx_ofW (cc := cX5_checkHours) (maxL := 2) (ret := none) (by decide) rfl ?_
  intro p e s m args below meth c s₁ B hml htb hv
  obtain ⟨rfl, hsz, hP, hK, hN, hXs, hZs⟩ := hv
  have hx := B.exec
  have hb := B.bytes
  have hr := B.returns
  have hts := atoms_spec (ws := (Cond.code yX5_checkHours cX5_checkHours 2 none :: TB)) B.pre
  have hown : s.vm.findClass RX5 = some m.cls := findClass_of_methodNamed B.named
  have hlocks := B.notSynchronized
  subst hsz
  have hA : ∀ q : Nat, s.heap.size ≤ q → NA s.heap.size q := fun q h => h
  have hS : va_S (NA s.heap.size) s.heap s.heap [] := va_S.rf
  have hl := lv_entry ([.int x, .int y]) (n := 2) (Nat.le_of_ble_eq_true rfl)
  rw [lg_entry_eq]
  generalize (lg_sl ([.int x, .int y]) ++ List.replicate (2 - (lg_sl ([.int x, .int y])).length) Slot.unset).toArray = ls at hl ⊢
  have hl : lv_has ls 2 [(0, .int x), (1, .int y)] := hl
  refine lv_iload_n hx hb dX5_checkHours_0 rfl (lv_at hl 0 rfl) ?_
  refine lv_iconst (v := 0) hx hb dX5_checkHours_1 (by decide) ?_
  refine lv_sipush (v := 1440) hx hb dX5_checkHours_2 (by decide) ?_
  refine k_Ti [.int x, .int 0, .int 1440] ⟨hx, hb, hml, hown, hts⟩ (c_X5_isOutside l x 0 1440) q_ml_X5_50 q_st_X5_isOutside q_ini_X5 q_co_X5_isOutside (n := 3) (by decide +kernel) rfl ⟨rfl, rfl⟩ ⟨Nat.le_of_ble_eq_true rfl, Nat.le_of_ble_eq_true rfl⟩ hl.1 rfl (Nat.le_of_ble_eq_true rfl) dX5_checkHours_5 ⟨Nat.le_of_ble_eq_true rfl, Nat.le_of_ble_eq_true rfl⟩ (fun r_1 hr_1 => ?_)
  subst hr_1
  refine lv_if_ne (tgt := 22) hx hb dX5_checkHours_8 (by decide) (fun c_2 => ?_) (fun c_2 => ?_)
  · exact k_thaW ⟨hx, hb, hml, hown, hts⟩ hlT hXs hZs hS 329 "from is 0 to 1440, to is from to 1440" (by decide) hl.1 dX5_checkHours_22 dX5_checkHours_25 dX5_checkHours_26 dX5_checkHours_29 dX5_checkHours_32 htb ⟨by decide, by decide, Nat.le_of_ble_eq_true rfl, Nat.le_of_ble_eq_true rfl⟩ hlocks (fun t8 h0 h1 h2 => ⟨"java/lang/IllegalArgumentException", ⟨rfl, by rw [(show outF x 0 1440 = true from (ts9.mp (fun q => c_2 (b01_0.mpr q))))]; rfl⟩, rfl, ⟨Nat.le_trans hS.1 h1, fun q p1 p2 => (h2 q (Nat.lt_of_lt_of_le p1 hS.1)).trans (hS.2.1 q p1 p2)⟩⟩) hS.2.2 ⟨Nat.le_of_ble_eq_true rfl, Nat.le_of_ble_eq_true rfl⟩
  · refine lv_iload_n hx hb dX5_checkHours_11 rfl (lv_at hl 1 rfl) ?_
    refine lv_iload_n hx hb dX5_checkHours_12 rfl (lv_at hl 0 rfl) ?_
    refine lv_sipush (v := 1440) hx hb dX5_checkHours_13 (by decide) ?_
    refine k_Ti [.int y, .int x, .int 1440] ⟨hx, hb, hml, hown, hts⟩ (c_X5_isOutside l y x 1440) q_ml_X5_50 q_st_X5_isOutside q_ini_X5 q_co_X5_isOutside (n := 3) (by decide +kernel) rfl ⟨rfl, rfl⟩ ⟨Nat.le_of_ble_eq_true rfl, Nat.le_of_ble_eq_true rfl⟩ hl.1 rfl (Nat.le_of_ble_eq_true rfl) dX5_checkHours_16 ⟨Nat.le_of_ble_eq_true rfl, Nat.le_of_ble_eq_true rfl⟩ (fun r_3 hr_3 => ?_)
    subst hr_3
    refine lv_if_eq (tgt := 33) hx hb dX5_checkHours_19 (by decide) (fun c_4 => ?_) (fun c_4 => ?_)
    · refine k_wid (k := 1) (n := 6) (Nat.le_of_ble_eq_true rfl) (Nat.le_of_ble_eq_true rfl) (vx_ret ?_)
      exact W.vret hx hb hr (fun t9 ht9 hW9 => ⟨⟨(), rfl, by rw [(show outF x 0 1440 = false from (b01_0.mp c_2)), (show outF y x 1440 = false from (b01_0.mp c_4))]; rfl, trivial⟩, hS.F ht9⟩) hS.2.2 dX5_checkHours_33
    · exact k_thaW ⟨hx, hb, hml, hown, hts⟩ hlT hXs hZs hS 329 "from is 0 to 1440, to is from to 1440" (by decide) hl.1 dX5_checkHours_22 dX5_checkHours_25 dX5_checkHours_26 dX5_checkHours_29 dX5_checkHours_32 htb ⟨by decide, by decide, Nat.le_of_ble_eq_true rfl, Nat.le_of_ble_eq_true rfl⟩ hlocks (fun t8 h0 h1 h2 => ⟨"java/lang/IllegalArgumentException", ⟨rfl, by rw [(show outF x 0 1440 = false from (b01_0.mp c_2)), (show outF y x 1440 = true from (ts9.mp (fun q => c_4 (b01_0.mpr q))))]; rfl⟩, rfl, ⟨Nat.le_trans hS.1 h1, fun q p1 p2 => (h2 q (Nat.lt_of_lt_of_le p1 hS.1)).trans (hS.2.1 q p1 p2)⟩⟩) hS.2.2 ⟨Nat.le_of_ble_eq_true rfl, Nat.le_of_ble_eq_true rfl⟩
set_option maxHeartbeats 4000000 in
set_option maxRecDepth 100000 in
theorem c_X5_checkPlace (l : Launch) (hlT : l.stackTraces = false) (dC : Nat → ClassId) (dI : Nat → Nat → Nat) (cI cV : ClassId) (P F G T za : Nat) (fa ia : Nat → Nat) (w : Nat → Nat → Int32) (NP NJ NV : Nat) (hNP : NP ≤ 12) (hNJ : NJ ≤ 9) (hNV : NV ≤ 3) (ck bg : Int32) (x : Int32) (sz : Nat) : vx_Met l yX5_checkPlace (Cond.code yX5_checkPlace cX5_checkPlace 2 none :: TB) ({ frames := 6, cells := 1, slots := 6, locals := 100 } : Room) (PXr [.ref P, .int x] (dC, dI) [(P, .inr (5, [.ref F, .ref G, .ref T, .ref za, .ref (ia 0), .ref (ia 1), .ref (ia 2), .int (nI NV), .int bg])), (F, .inr (0, [.ref (fa 0), .ref (fa 1), .ref (fa 2), .ref (fa 3), .ref (fa 4), .ref (fa 5), .ref (fa 6), .ref (fa 7), .ref (fa 8), .int (nI NP), .int (nI NJ), .int ck])), (fa 0, .inl (cI, 12, .inl (w 0))), (fa 1, .inl (cI, 12, .inl (w 1))), (fa 2, .inl (cI, 144, .inl (w 2))), (fa 3, .inl (cI, 9, .inl (w 3))), (fa 4, .inl (cI, 18, .inl (w 4))), (fa 5, .inl (cI, 18, .inl (w 5))), (fa 6, .inl (cI, 18, .inl (w 6))), (fa 7, .inl (cI, 18, .inl (w 7))), (fa 8, .inl (cI, 18, .inl (w 8)))] (TY cI cV) sz) (va_Qv (fun _ : Unit => isPlaceB NP x = true) (fun _ _ => True) (NA sz)) (vx_X (fun E => E = "java/lang/IndexOutOfBoundsException" ∧ isPlaceB NP x = false) (fun E u _ => E = u) (NA sz)) 1 6 (NA sz) := by
  refine vx_ofW (cc := cX5_checkPlace) (maxL := 2) (ret := none) (by decide) rfl ?_
  intro p e s m args below meth c s₁ B hml htb hv
  obtain ⟨rfl, hsz, hP, hK, hN, hXs, hZs⟩ := hv
  have hx := B.exec
  have hb := B.bytes
  have hr := B.returns
  have hts := atoms_spec (ws := (Cond.code yX5_checkPlace cX5_checkPlace 2 none :: TB)) B.pre
  have hown : s.vm.findClass RX5 = some m.cls := findClass_of_methodNamed B.named
  have hlocks := B.notSynchronized
  subst hsz
  have hA : ∀ q : Nat, s.heap.size ≤ q → NA s.heap.size q := fun q h => h
  have hS : va_S (NA s.heap.size) s.heap s.heap [] := va_S.rf
  have hl := lv_entry ([.ref P, .int x]) (n := 2) (Nat.le_of_ble_eq_true rfl)
  rw [lg_entry_eq]
  generalize (lg_sl ([.ref P, .int x]) ++ List.replicate (2 - (lg_sl ([.ref P, .int x])).length) Slot.unset).toArray = ls at hl ⊢
  have hl : lv_has ls 2 [(0, .ref P), (1, .int x)] := hl
  refine lv_aload_n hx hb dX5_checkPlace_0 rfl (lv_at hl 0 rfl) ?_
  refine va_get (D := (dC, dI)) (ci := 5) (v := .ref F) (C := RX5) (T := TX5) (N := 9) hx hb hts (fun w h => tb_in (inX5 w h)) hown hK hP 0 rfl rfl 0 (by decide) (hts _ (tb_in q_fl_X5_12)) (fun _ h9 => h9) rfl dX5_checkPlace_1 ?_
  refine lv_iload_n hx hb dX5_checkPlace_4 rfl (lv_at hl 1 rfl) ?_
  refine k_Vi (ci := 0) (q0 := 0) [.int x] ⟨hx, hb, hml, hown, hts⟩ (c_X0_isPlace l dC dI cI cV F fa w NP NJ hNP hNJ ck x) q_ml_X5_333 q_im_X0_isPlace q_se_X0_isPlace q_ini_X0 q_co_X0_isPlace (n := 1) (by decide +kernel) rfl ⟨rfl, rfl⟩ ⟨Nat.le_of_ble_eq_true rfl, Nat.le_of_ble_eq_true rfl⟩ (hP.sub [1, 2, 3, 4, 5, 6, 7, 8, 9, 10] rfl) hK hN rfl rfl rfl hl.1 rfl (Nat.le_of_ble_eq_true rfl) dX5_checkPlace_5 ⟨Nat.le_of_ble_eq_true rfl, Nat.le_of_ble_eq_true rfl⟩ (fun r_1 hr_1 => ?_)
  subst hr_1
  refine lv_if_ne (tgt := 22) hx hb dX5_checkPlace_8 (by decide) (fun c_2 => ?_) (fun c_2 => ?_)
  · refine k_wid (k := 1) (n := 6) (Nat.le_of_ble_eq_true rfl) (Nat.le_of_ble_eq_true rfl) (vx_ret ?_)
    exact W.vret hx hb hr (fun t9 ht9 hW9 => ⟨⟨(), rfl, (ts9.mp (fun q => c_2 (b01_0.mpr q))), trivial⟩, hS.F ht9⟩) hS.2.2 dX5_checkPlace_22
  · exact k_thxW ⟨hx, hb, hml, hown, hts⟩ hlT hXs hZs hS 338 "no such place" (by decide) hl.1 dX5_checkPlace_11 dX5_checkPlace_14 dX5_checkPlace_15 dX5_checkPlace_18 dX5_checkPlace_21 htb ⟨by decide, by decide, Nat.le_of_ble_eq_true rfl, Nat.le_of_ble_eq_true rfl⟩ hlocks (fun t8 h0 h1 h2 => ⟨"java/lang/IndexOutOfBoundsException", ⟨rfl, (b01_0.mp c_2)⟩, rfl, ⟨Nat.le_trans hS.1 h1, fun q p1 p2 => (h2 q (Nat.lt_of_lt_of_le p1 hS.1)).trans (hS.2.1 q p1 p2)⟩⟩) hS.2.2 ⟨Nat.le_of_ble_eq_true rfl, Nat.le_of_ble_eq_true rfl⟩
set_option maxHeartbeats 4000000 in
set_option maxRecDepth 100000 in
theorem c_X5_checkVehicle (l : Launch) (hlT : l.stackTraces = false) (dC : Nat → ClassId) (dI : Nat → Nat → Nat) (cI cV : ClassId) (P F G T za : Nat) (fa ia : Nat → Nat) (w : Nat → Nat → Int32) (NP NJ NV : Nat) (hNP : NP ≤ 12) (hNJ : NJ ≤ 9) (hNV : NV ≤ 3) (ck bg : Int32) (x : Int32) (sz : Nat) : vx_Met l yX5_checkVehicle (Cond.code yX5_checkVehicle cX5_checkVehicle 2 none :: TB) ({ frames := 6, cells := 1, slots := 6, locals := 100 } : Room) (PXr [.ref P, .int x] (dC, dI) [(P, .inr (5, [.ref F, .ref G, .ref T, .ref za, .ref (ia 0), .ref (ia 1), .ref (ia 2), .int (nI NV), .int bg]))] (TY cI cV) sz) (va_Qv (fun _ : Unit => inB NV x = true) (fun _ _ => True) (NA sz)) (vx_X (fun E => E = "java/lang/IndexOutOfBoundsException" ∧ inB NV x = false) (fun E u _ => E = u) (NA sz)) 1 6 (NA sz) := by
  refine vx_ofW (cc := cX5_checkVehicle) (maxL := 2) (ret := none) (by decide) rfl ?_
  intro p e s m args below meth c s₁ B hml htb hv
  obtain ⟨rfl, hsz, hP, hK, hN, hXs, hZs⟩ := hv
  have hx := B.exec
  have hb := B.bytes
  have hr := B.returns
  have hts := atoms_spec (ws := (Cond.code yX5_checkVehicle cX5_checkVehicle 2 none :: TB)) B.pre
  have hown : s.vm.findClass RX5 = some m.cls := findClass_of_methodNamed B.named
  have hlocks := B.notSynchronized
  subst hsz
  have hA : ∀ q : Nat, s.heap.size ≤ q → NA s.heap.size q := fun q h => h
  have hS : va_S (NA s.heap.size) s.heap s.heap [] := va_S.rf
  have hl := lv_entry ([.ref P, .int x]) (n := 2) (Nat.le_of_ble_eq_true rfl)
  rw [lg_entry_eq]
  generalize (lg_sl ([.ref P, .int x]) ++ List.replicate (2 - (lg_sl ([.ref P, .int x])).length) Slot.unset).toArray = ls at hl ⊢
  have hl : lv_has ls 2 [(0, .ref P), (1, .int x)] := hl
  refine lv_iload_n hx hb dX5_checkVehicle_0 rfl (lv_at hl 1 rfl) ?_
  refine lv_if_lt (tgt := 12) hx hb dX5_checkVehicle_1 (by decide) (fun c_1 => ?_) (fun c_1 => ?_)
  · exact k_thxW ⟨hx, hb, hml, hown, hts⟩ hlT hXs hZs hS 341 "no such vehicle" (by decide) hl.1 dX5_checkVehicle_12 dX5_checkVehicle_15 dX5_checkVehicle_16 dX5_checkVehicle_19 dX5_checkVehicle_22 htb ⟨by decide, by decide, Nat.le_of_ble_eq_true rfl, Nat.le_of_ble_eq_true rfl⟩ hlocks (fun t8 h0 h1 h2 => ⟨"java/lang/IndexOutOfBoundsException", ⟨rfl, by simp [inB, c_1]⟩, rfl, ⟨Nat.le_trans hS.1 h1, fun q p1 p2 => (h2 q (Nat.lt_of_lt_of_le p1 hS.1)).trans (hS.2.1 q p1 p2)⟩⟩) hS.2.2 ⟨Nat.le_of_ble_eq_true rfl, Nat.le_of_ble_eq_true rfl⟩
  · refine lv_iload_n hx hb dX5_checkVehicle_4 rfl (lv_at hl 1 rfl) ?_
    refine lv_aload_n hx hb dX5_checkVehicle_5 rfl (lv_at hl 0 rfl) ?_
    refine va_get (D := (dC, dI)) (ci := 5) (v := .int (nI NV)) (C := RX5) (T := TX5) (N := 9) hx hb hts (fun w h => tb_in (inX5 w h)) hown hK hP 0 rfl rfl 7 (by decide) (hts _ (tb_in q_fl_X5_86)) (fun _ h9 => h9) rfl dX5_checkVehicle_6 ?_
    refine lv_icmp_lt (tgt := 23) hx hb dX5_checkVehicle_9 (by decide) (fun c_2 => ?_) (fun c_2 => ?_)
    · refine k_wid (k := 1) (n := 6) (Nat.le_of_ble_eq_true rfl) (Nat.le_of_ble_eq_true rfl) (vx_ret ?_)
      exact W.vret hx hb hr (fun t9 ht9 hW9 => ⟨⟨(), rfl, by simp [inB, c_1, c_2], trivial⟩, hS.F ht9⟩) hS.2.2 dX5_checkVehicle_23
    · exact k_thxW ⟨hx, hb, hml, hown, hts⟩ hlT hXs hZs hS 341 "no such vehicle" (by decide) hl.1 dX5_checkVehicle_12 dX5_checkVehicle_15 dX5_checkVehicle_16 dX5_checkVehicle_19 dX5_checkVehicle_22 htb ⟨by decide, by decide, Nat.le_of_ble_eq_true rfl, Nat.le_of_ble_eq_true rfl⟩ hlocks (fun t8 h0 h1 h2 => ⟨"java/lang/IndexOutOfBoundsException", ⟨rfl, by simp [inB, c_1, c_2]⟩, rfl, ⟨Nat.le_trans hS.1 h1, fun q p1 p2 => (h2 q (Nat.lt_of_lt_of_le p1 hS.1)).trans (hS.2.1 q p1 p2)⟩⟩) hS.2.2 ⟨Nat.le_of_ble_eq_true rfl, Nat.le_of_ble_eq_true rfl⟩
set_option maxHeartbeats 4000000 in
set_option maxRecDepth 100000 in
theorem c_X5_checkJob (l : Launch) (hlT : l.stackTraces = false) (dC : Nat → ClassId) (dI : Nat → Nat → Nat) (cI cV : ClassId) (P F G T za : Nat) (fa ia : Nat → Nat) (w : Nat → Nat → Int32) (NP NJ NV : Nat) (hNP : NP ≤ 12) (hNJ : NJ ≤ 9) (hNV : NV ≤ 3) (ck bg : Int32) (x : Int32) (sz : Nat) : vx_Met l yX5_checkJob (Cond.code yX5_checkJob cX5_checkJob 2 none :: TB) ({ frames := 6, cells := 1, slots := 6, locals := 100 } : Room) (PXr [.ref P, .int x] (dC, dI) [(P, .inr (5, [.ref F, .ref G, .ref T, .ref za, .ref (ia 0), .ref (ia 1), .ref (ia 2), .int (nI NV), .int bg])), (F, .inr (0, [.ref (fa 0), .ref (fa 1), .ref (fa 2), .ref (fa 3), .ref (fa 4), .ref (fa 5), .ref (fa 6), .ref (fa 7), .ref (fa 8), .int (nI NP), .int (nI NJ), .int ck])), (fa 0, .inl (cI, 12, .inl (w 0))), (fa 1, .inl (cI, 12, .inl (w 1))), (fa 2, .inl (cI, 144, .inl (w 2))), (fa 3, .inl (cI, 9, .inl (w 3))), (fa 4, .inl (cI, 18, .inl (w 4))), (fa 5, .inl (cI, 18, .inl (w 5))), (fa 6, .inl (cI, 18, .inl (w 6))), (fa 7, .inl (cI, 18, .inl (w 7))), (fa 8, .inl (cI, 18, .inl (w 8)))] (TY cI cV) sz) (va_Qv (fun _ : Unit => inB NJ x = true) (fun _ _ => True) (NA sz)) (vx_X (fun E => E = "java/lang/IndexOutOfBoundsException" ∧ inB NJ x = false) (fun E u _ => E = u) (NA sz)) 1 6 (NA sz) := by
  refine vx_ofW (cc := cX5_checkJob) (maxL := 2) (ret := none) (by decide) rfl ?_
  intro p e s m args below meth c s₁ B hml htb hv
  obtain ⟨rfl, hsz, hP, hK, hN, hXs, hZs⟩ := hv
  have hx := B.exec
  have hb := B.bytes
  have hr := B.returns
  have hts := atoms_spec (ws := (Cond.code yX5_checkJob cX5_checkJob 2 none :: TB)) B.pre
  have hown : s.vm.findClass RX5 = some m.cls := findClass_of_methodNamed B.named
  have hlocks := B.notSynchronized
  subst hsz
  have hA : ∀ q : Nat, s.heap.size ≤ q → NA s.heap.size q := fun q h => h
  have hS : va_S (NA s.heap.size) s.heap s.heap [] := va_S.rf
  have hl := lv_entry ([.ref P, .int x]) (n := 2) (Nat.le_of_ble_eq_true rfl)
  rw [lg_entry_eq]
  generalize (lg_sl ([.ref P, .int x]) ++ List.replicate (2 - (lg_sl ([.ref P, .int x])).length) Slot.unset).toArray = ls at hl ⊢
  have hl : lv_has ls 2 [(0, .ref P), (1, .int x)] := hl
  refine lv_iload_n hx hb dX5_checkJob_0 rfl (lv_at hl 1 rfl) ?_
  refine lv_if_lt (tgt := 15) hx hb dX5_checkJob_1 (by decide) (fun c_1 => ?_) (fun c_1 => ?_)
  · exact k_thxW ⟨hx, hb, hml, hown, hts⟩ hlT hXs hZs hS 345 "no such job" (by decide) hl.1 dX5_checkJob_15 dX5_checkJob_18 dX5_checkJob_19 dX5_checkJob_22 dX5_checkJob_25 htb ⟨by decide, by decide, Nat.le_of_ble_eq_true rfl, Nat.le_of_ble_eq_true rfl⟩ hlocks (fun t8 h0 h1 h2 => ⟨"java/lang/IndexOutOfBoundsException", ⟨rfl, by simp [inB, c_1]⟩, rfl, ⟨Nat.le_trans hS.1 h1, fun q p1 p2 => (h2 q (Nat.lt_of_lt_of_le p1 hS.1)).trans (hS.2.1 q p1 p2)⟩⟩) hS.2.2 ⟨Nat.le_of_ble_eq_true rfl, Nat.le_of_ble_eq_true rfl⟩
  · refine lv_iload_n hx hb dX5_checkJob_4 rfl (lv_at hl 1 rfl) ?_
    refine lv_aload_n hx hb dX5_checkJob_5 rfl (lv_at hl 0 rfl) ?_
    refine va_get (D := (dC, dI)) (ci := 5) (v := .ref F) (C := RX5) (T := TX5) (N := 9) hx hb hts (fun w h => tb_in (inX5 w h)) hown hK hP 0 rfl rfl 0 (by decide) (hts _ (tb_in q_fl_X5_12)) (fun _ h9 => h9) rfl dX5_checkJob_6 ?_
    refine va_get (D := (dC, dI)) (ci := 0) (v := .int (nI NJ)) (C := RX0) (T := TX0) (N := 12) hx hb hts (fun w h => tb_in (inX0 w h)) hown hK hP 1 rfl rfl 10 (by decide) (hts _ (tb_in q_fl_X5_111)) (fun _ h9 => h9) rfl dX5_checkJob_9 ?_
    refine lv_icmp_lt (tgt := 26) hx hb dX5_checkJob_12 (by decide) (fun c_2 => ?_) (fun c_2 => ?_)
    · refine k_wid (k := 1) (n := 6) (Nat.le_of_ble_eq_true rfl) (Nat.le_of_ble_eq_true rfl) (vx_ret ?_)
      exact W.vret hx hb hr (fun t9 ht9 hW9 => ⟨⟨(), rfl, by simp [inB, c_1, c_2], trivial⟩, hS.F ht9⟩) hS.2.2 dX5_checkJob_26
    · exact k_thxW ⟨hx, hb, hml, hown, hts⟩ hlT hXs hZs hS 345 "no such job" (by decide) hl.1 dX5_checkJob_15 dX5_checkJob_18 dX5_checkJob_19 dX5_checkJob_22 dX5_checkJob_25 htb ⟨by decide, by decide, Nat.le_of_ble_eq_true rfl, Nat.le_of_ble_eq_true rfl⟩ hlocks (fun t8 h0 h1 h2 => ⟨"java/lang/IndexOutOfBoundsException", ⟨rfl, by simp [inB, c_1, c_2]⟩, rfl, ⟨Nat.le_trans hS.1 h1, fun q p1 p2 => (h2 q (Nat.lt_of_lt_of_le p1 hS.1)).trans (hS.2.1 q p1 p2)⟩⟩) hS.2.2 ⟨Nat.le_of_ble_eq_true rfl, Nat.le_of_ble_eq_true rfl⟩
set_option maxHeartbeats 4000000 in
set_option maxRecDepth 100000 in
theorem c_X5_checkOpen (l : Launch) (hlT : l.stackTraces = false) (dC : Nat → ClassId) (dI : Nat → Nat → Nat) (cI cV : ClassId) (P F G T za : Nat) (fa ia : Nat → Nat) (w : Nat → Nat → Int32) (NP NJ NV : Nat) (hNP : NP ≤ 12) (hNJ : NJ ≤ 9) (hNV : NV ≤ 3) (ck bg : Int32) (vd ra rb xa ya : Nat → Nat) (vv : Nat → Nat → Int32) (R : Nat → List Int32) (rf : Nat → Nat → Int32) (hR : ∀ k, rw_ok (R k) (rf k)) (x : Int32) (sz : Nat) : vx_Met l yX5_checkOpen (Cond.code yX5_checkOpen cX5_checkOpen 2 none :: TB) ({ frames := 6, cells := 1, slots := 6, locals := 100 } : Room) (PXr [.ref P, .int x] (dC, dI) [(P, .inr (5, [.ref F, .ref G, .ref T, .ref za, .ref (ia 0), .ref (ia 1), .ref (ia 2), .int (nI NV), .int bg])), (G, .inl (cV, 3, .inr (.inr (.inr (.inr (fun k => some (vd k))))))), (vd 0, .inr (4, [.int (vv 0 0), .int (vv 0 1), .int (vv 0 2), .int (vv 0 3), .int (vv 0 4), .int (vv 0 5), .int (vv 0 6), .int (vv 0 7), .ref (ra 0), .ref (xa 0), .ref (ya 0)])), (vd 1, .inr (4, [.int (vv 1 0), .int (vv 1 1), .int (vv 1 2), .int (vv 1 3), .int (vv 1 4), .int (vv 1 5), .int (vv 1 6), .int (vv 1 7), .ref (ra 1), .ref (xa 1), .ref (ya 1)])), (vd 2, .inr (4, [.int (vv 2 0), .int (vv 2 1), .int (vv 2 2), .int (vv 2 3), .int (vv 2 4), .int (vv 2 5), .int (vv 2 6), .int (vv 2 7), .ref (ra 2), .ref (xa 2), .ref (ya 2)])), (ra 0, .inr (2, [.ref (rb 0), .int (nI ((R 0)).length)])), (rb 0, .inl (cI, 18, .inl (rf 0))), (ra 1, .inr (2, [.ref (rb 1), .int (nI ((R 1)).length)])), (rb 1, .inl (cI, 18, .inl (rf 1))), (ra 2, .inr (2, [.ref (rb 2), .int (nI ((R 2)).length)])), (rb 2, .inl (cI, 18, .inl (rf 2)))] (TY cI cV) sz) (va_Qv (fun _ : Unit => carrF NV R x = -1) (fun _ _ => True) (NA sz)) (vx_X (fun E => E = "java/lang/IllegalStateException" ∧ ¬ carrF NV R x = -1) (fun E u _ => E = u) (NA sz)) 1 6 (NA sz) := by
  refine vx_ofW (cc := cX5_checkOpen) (maxL := 2) (ret := none) (by decide) rfl ?_
  intro p e s m args below meth c s₁ B hml htb hv
  obtain ⟨rfl, hsz, hP, hK, hN, hXs, hZs⟩ := hv
  have hx := B.exec
  have hb := B.bytes
  have hr := B.returns
  have hts := atoms_spec (ws := (Cond.code yX5_checkOpen cX5_checkOpen 2 none :: TB)) B.pre
  have hown : s.vm.findClass RX5 = some m.cls := findClass_of_methodNamed B.named
  have hlocks := B.notSynchronized
  subst hsz
  have hA : ∀ q : Nat, s.heap.size ≤ q → NA s.heap.size q := fun q h => h
  have hS : va_S (NA s.heap.size) s.heap s.heap [] := va_S.rf
  have hl := lv_entry ([.ref P, .int x]) (n := 2) (Nat.le_of_ble_eq_true rfl)
  rw [lg_entry_eq]
  generalize (lg_sl ([.ref P, .int x]) ++ List.replicate (2 - (lg_sl ([.ref P, .int x])).length) Slot.unset).toArray = ls at hl ⊢
  have hl : lv_has ls 2 [(0, .ref P), (1, .int x)] := hl
  refine lv_aload_n hx hb dX5_checkOpen_0 rfl (lv_at hl 0 rfl) ?_
  refine lv_iload_n hx hb dX5_checkOpen_1 rfl (lv_at hl 1 rfl) ?_
  refine k_Vi (ci := 5) (q0 := 0) [.int x] ⟨hx, hb, hml, hown, hts⟩ (c_X5_carrierOf l dC dI cI cV P F G T za fa ia w NP NJ NV hNP hNJ hNV ck bg vd ra rb xa ya vv R rf hR x) q_ml_X5_194 q_im_X5_carrierOf q_se_X5_carrierOf q_ini_X5 q_co_X5_carrierOf (n := 1) (by decide +kernel) rfl ⟨rfl, rfl⟩ ⟨Nat.le_of_ble_eq_true rfl, Nat.le_of_ble_eq_true rfl⟩ (hP.sub [0, 1, 2, 3, 4, 5, 6, 7, 8, 9, 10] rfl) hK hN rfl rfl rfl hl.1 rfl (Nat.le_of_ble_eq_true rfl) dX5_checkOpen_2 ⟨Nat.le_of_ble_eq_true rfl, Nat.le_of_ble_eq_true rfl⟩ (fun r_1 hr_1 => ?_)
  subst hr_1
  refine lv_iconst (v := (-1)) hx hb dX5_checkOpen_5 (by decide) ?_
  refine lv_icmp_eq (tgt := 20) hx hb dX5_checkOpen_6 (by decide) (fun c_2 => ?_) (fun c_2 => ?_)
  · refine k_wid (k := 1) (n := 6) (Nat.le_of_ble_eq_true rfl) (Nat.le_of_ble_eq_true rfl) (vx_ret ?_)
    exact W.vret hx hb hr (fun t9 ht9 hW9 => ⟨⟨(), rfl, c_2, trivial⟩, hS.F ht9⟩) hS.2.2 dX5_checkOpen_20
  · exact k_thsW ⟨hx, hb, hml, hown, hts⟩ hlT hXs hZs hS 347 "the job is planned" (by decide) hl.1 dX5_checkOpen_9 dX5_checkOpen_12 dX5_checkOpen_13 dX5_checkOpen_16 dX5_checkOpen_19 htb ⟨by decide, by decide, Nat.le_of_ble_eq_true rfl, Nat.le_of_ble_eq_true rfl⟩ hlocks (fun t8 h0 h1 h2 => ⟨"java/lang/IllegalStateException", ⟨rfl, c_2⟩, rfl, ⟨Nat.le_trans hS.1 h1, fun q p1 p2 => (h2 q (Nat.lt_of_lt_of_le p1 hS.1)).trans (hS.2.1 q p1 p2)⟩⟩) hS.2.2 ⟨Nat.le_of_ble_eq_true rfl, Nat.le_of_ble_eq_true rfl⟩
