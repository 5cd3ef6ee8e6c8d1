set_option maxHeartbeats 4000000 in
set_option maxRecDepth 100000 in
theorem c_X0_isPlace (l : Launch) (dC : Nat → ClassId) (dI : Nat → Nat → Nat) (cI cV cJ cL : ClassId) (F : Nat) (fa : Nat → Nat) (ck x : Int32) (sz : Nat) : Met l yX0_isPlace (Cond.code yX0_isPlace cX0_isPlace 2 (some .boolean) :: TB) ({ frames := 1, cells := 0, slots := 0, locals := 24 } : Room) (PW [.ref F, .int x] (dC, dI) [(F, .inr (0, [.ref (fa 0), .ref (fa 1), .ref (fa 2), .ref (fa 3), .ref (fa 4), .ref (fa 5), .ref (fa 6), .ref (fa 7), .ref (fa 8), .int 0, .int 0, .int ck]))] (TYP cI cV cJ cL) sz) (va_Qi (fun (r : Int32) (_ : Unit) => r = 0) (QB (dC, dI) (fun (_ : Unit) => [(F, .inr (0, [.ref (fa 0), .ref (fa 1), .ref (fa 2), .ref (fa 3), .ref (fa 4), .ref (fa 5), .ref (fa 6), .ref (fa 7), .ref (fa 8), .int 0, .int 0, .int ck]))]) (TYP cI cV cJ cL) (va_A [(F, .inr (0, [.ref (fa 0), .ref (fa 1), .ref (fa 2), .ref (fa 3), .ref (fa 4), .ref (fa 5), .ref (fa 6), .ref (fa 7), .ref (fa 8), .int 0, .int 0, .int ck]))] sz)) (va_A [(F, .inr (0, [.ref (fa 0), .ref (fa 1), .ref (fa 2), .ref (fa 3), .ref (fa 4), .ref (fa 5), .ref (fa 6), .ref (fa 7), .ref (fa 8), .int 0, .int 0, .int ck]))] sz)) 0 0 (va_A [(F, .inr (0, [.ref (fa 0), .ref (fa 1), .ref (fa 2), .ref (fa 3), .ref (fa 4), .ref (fa 5), .ref (fa 6), .ref (fa 7), .ref (fa 8), .int 0, .int 0, .int ck]))] sz) := by
  refine Met.ofW (cc := cX0_isPlace) (maxL := 2) (ret := (some .boolean)) (by decide) rfl ?_
  intro p e s m args below meth c s₁ B hml hv
  obtain ⟨rfl, hsz, hP, hK, hD0, hN⟩ := hv
  have hx := B.exec
  have hb := B.bytes
  have hr := B.returns
  have hts := atoms_spec (ws := (Cond.code yX0_isPlace cX0_isPlace 2 (some .boolean) :: TB)) B.pre
  have hown : s.vm.findClass RX0 = some m.cls := findClass_of_methodNamed B.named
  have hlocks := B.notSynchronized
  subst hsz
  have hD := hD0.self (sz := s.heap.size)
  generalize hAe : va_A [(F, .inr (0, [.ref (fa 0), .ref (fa 1), .ref (fa 2), .ref (fa 3), .ref (fa 4), .ref (fa 5), .ref (fa 6), .ref (fa 7), .ref (fa 8), .int 0, .int 0, .int ck]))] s.heap.size = A at hD ⊢
  have hA : ∀ q : Nat, s.heap.size ≤ q → A q := fun q h => by rw [← hAe]; exact Or.inr h
  have hS : va_S A s.heap s.heap [] := va_S.rf
  have hl := lv_entry ([.ref F, .int x]) (n := 2) (Nat.le_of_ble_eq_true rfl)
  rw [lg_entry_eq]
  generalize (lg_sl ([.ref F, .int x]) ++ List.replicate (2 - (lg_sl ([.ref F, .int x])).length) Slot.unset).toArray = ls at hl ⊢
  have hl : lv_has ls 2 [(0, .ref F), (1, .int x)] := hl
  refine lv_iload_n hx hb dX0_isPlace_0 rfl (lv_at hl 1 rfl) ?_
  refine lv_if_lt (tgt := 16) hx hb dX0_isPlace_1 (by decide) (fun c_1 => ?_) (fun c_1 => ?_)
  · refine lv_iconst (v := 0) hx hb dX0_isPlace_16 (by decide) ?_
    refine W.widen (k := 0) (n := 0) (Nat.le_of_ble_eq_true rfl) (Nat.le_of_ble_eq_true rfl) ?_
    have hP9 := hP
    have hD9 := hD
    exact W.zret (v := 0) hx hb hr rfl (fun t9 ht9 hW9 => ⟨⟨_, (), rfl, rfl, by rw [ht9]; exact hP9, va_K.moved hW9.alike hK, hD9⟩, hS.F ht9⟩) hS.2.2 dX0_isPlace_17
  · refine lv_iload_n hx hb dX0_isPlace_4 rfl (lv_at hl 1 rfl) ?_
    refine lv_aload_n hx hb dX0_isPlace_5 rfl (lv_at hl 0 rfl) ?_
    refine va_get (D := (dC, dI)) (ci := 0) (v := .int 0) (C := RX0) (T := TX0) (N := 12) hx hb hts (fun w h => tb_in (inX0 w h)) hown hK hP 0 rfl rfl 9 (by decide) (hts _ (tb_in q_fl_X0_39)) (fun _ h9 => h9) rfl dX0_isPlace_6 ?_
    refine lv_icmp_ge (tgt := 16) hx hb dX0_isPlace_9 (by decide) (fun c_2 => ?_) (fun c_2 => ?_)
    · refine lv_iconst (v := 0) hx hb dX0_isPlace_16 (by decide) ?_
      refine W.widen (k := 0) (n := 0) (Nat.le_of_ble_eq_true rfl) (Nat.le_of_ble_eq_true rfl) ?_
      have hP9 := hP
      have hD9 := hD
      exact W.zret (v := 0) hx hb hr rfl (fun t9 ht9 hW9 => ⟨⟨_, (), rfl, rfl, by rw [ht9]; exact hP9, va_K.moved hW9.alike hK, hD9⟩, hS.F ht9⟩) hS.2.2 dX0_isPlace_17
    · exact absurd (z_ge c_1) c_2
set_option maxHeartbeats 4000000 in
set_option maxRecDepth 100000 in
theorem c_X5_checkVehicle (l : Launch) (hlT : l.stackTraces = false) (dC : Nat → ClassId) (dI : Nat → Nat → Nat) (cI cV cJ cL : ClassId) (P F G T za : Nat) (fa ia : Nat → Nat) (bg ck : Int32) (x : Int32) (sz : Nat) : vx_Met l yX5_checkVehicle (Cond.code yX5_checkVehicle cX5_checkVehicle 2 none :: TB) ({ frames := 8, cells := 1, slots := 6, locals := 300 } : Room) (PXr [.ref P, .int x] (dC, dI) [(P, .inr (5, [.ref F, .ref G, .ref T, .ref za, .ref (ia 0), .ref (ia 1), .ref (ia 2), .int 0, .int bg]))] (TYP cI cV cJ cL) sz) (va_Qv (fun _ : Unit => False) (fun _ _ => True) (NA sz)) (vx_X (fun E => E = "java/lang/IndexOutOfBoundsException") (fun E u _ => E = u) (NA sz)) 1 6 (NA sz) := by
  refine vx_ofW (cc := cX5_checkVehicle) (maxL := 2) (ret := none) (by decide) rfl ?_
  intro p e s m args below meth c s₁ B hml htb hv
  obtain ⟨rfl, hsz, hP, hK, hN, hXs, hZs⟩ := hv
  have hx := B.exec
  have hb := B.bytes
  have hr := B.returns
  have hts := atoms_spec (ws := (Cond.code yX5_checkVehicle cX5_checkVehicle 2 none :: TB)) B.pre
  have hown : s.vm.findClass RX5 = some m.cls := findClass_of_methodNamed B.named
  have hlocks := B.notSynchronized
  subst hsz
  have hA : ∀ q : Nat, s.heap.size ≤ q → NA s.heap.size q := fun q h => h
  have hS : va_S (NA s.heap.size) s.heap s.heap [] := va_S.rf
  have hl := lv_entry ([.ref P, .int x]) (n := 2) (Nat.le_of_ble_eq_true rfl)
  rw [lg_entry_eq]
  generalize (lg_sl ([.ref P, .int x]) ++ List.replicate (2 - (lg_sl ([.ref P, .int x])).length) Slot.unset).toArray = ls at hl ⊢
  have hl : lv_has ls 2 [(0, .ref P), (1, .int x)] := hl
  refine lv_iload_n hx hb dX5_checkVehicle_0 rfl (lv_at hl 1 rfl) ?_
  refine lv_if_lt (tgt := 12) hx hb dX5_checkVehicle_1 (by decide) (fun c_1 => ?_) (fun c_1 => ?_)
  · exact k_thxW ⟨hx, hb, hml, hown, hts⟩ hlT hXs hZs hS 341 "no such vehicle" (by decide) hl.1 dX5_checkVehicle_12 dX5_checkVehicle_15 dX5_checkVehicle_16 dX5_checkVehicle_19 dX5_checkVehicle_22 htb ⟨by decide, by decide, Nat.le_of_ble_eq_true rfl, Nat.le_of_ble_eq_true rfl⟩ hlocks (fun t8 h0 h1 h2 => ⟨"java/lang/IndexOutOfBoundsException", rfl, rfl, ⟨Nat.le_trans hS.1 h1, fun q p1 p2 => (h2 q (Nat.lt_of_lt_of_le p1 hS.1)).trans (hS.2.1 q p1 p2)⟩⟩) hS.2.2 ⟨Nat.le_of_ble_eq_true rfl, Nat.le_of_ble_eq_true rfl⟩
  · refine lv_iload_n hx hb dX5_checkVehicle_4 rfl (lv_at hl 1 rfl) ?_
    refine lv_aload_n hx hb dX5_checkVehicle_5 rfl (lv_at hl 0 rfl) ?_
    refine va_get (D := (dC, dI)) (ci := 5) (v := .int 0) (C := RX5) (T := TX5) (N := 9) hx hb hts (fun w h => tb_in (inX5 w h)) hown hK hP 0 rfl rfl 7 (by decide) (hts _ (tb_in q_fl_X5_86)) (fun _ h9 => h9) rfl dX5_checkVehicle_6 ?_
    refine lv_icmp_lt (tgt := 23) hx hb dX5_checkVehicle_9 (by decide) (fun c_2 => ?_) (fun c_2 => ?_)
    · exact absurd c_2 c_1
    · exact k_thxW ⟨hx, hb, hml, hown, hts⟩ hlT hXs hZs hS 341 "no such vehicle" (by decide) hl.1 dX5_checkVehicle_12 dX5_checkVehicle_15 dX5_checkVehicle_16 dX5_checkVehicle_19 dX5_checkVehicle_22 htb ⟨by decide, by decide, Nat.le_of_ble_eq_true rfl, Nat.le_of_ble_eq_true rfl⟩ hlocks (fun t8 h0 h1 h2 => ⟨"java/lang/IndexOutOfBoundsException", rfl, rfl, ⟨Nat.le_trans hS.1 h1, fun q p1 p2 => (h2 q (Nat.lt_of_lt_of_le p1 hS.1)).trans (hS.2.1 q p1 p2)⟩⟩) hS.2.2 ⟨Nat.le_of_ble_eq_true rfl, Nat.le_of_ble_eq_true rfl⟩
set_option maxHeartbeats 4000000 in
set_option maxRecDepth 100000 in
theorem c_X5_checkJob (l : Launch) (hlT : l.stackTraces = false) (dC : Nat → ClassId) (dI : Nat → Nat → Nat) (cI cV cJ cL : ClassId) (P F G T za : Nat) (fa ia : Nat → Nat) (bg ck : Int32) (x : Int32) (sz : Nat) : vx_Met l yX5_checkJob (Cond.code yX5_checkJob cX5_checkJob 2 none :: TB) ({ frames := 8, cells := 1, slots := 6, locals := 300 } : Room) (PXr [.ref P, .int x] (dC, dI) [(P, .inr (5, [.ref F, .ref G, .ref T, .ref za, .ref (ia 0), .ref (ia 1), .ref (ia 2), .int 0, .int bg])), (F, .inr (0, [.ref (fa 0), .ref (fa 1), .ref (fa 2), .ref (fa 3), .ref (fa 4), .ref (fa 5), .ref (fa 6), .ref (fa 7), .ref (fa 8), .int 0, .int 0, .int ck]))] (TYP cI cV cJ cL) sz) (va_Qv (fun _ : Unit => False) (fun _ _ => True) (NA sz)) (vx_X (fun E => E = "java/lang/IndexOutOfBoundsException") (fun E u _ => E = u) (NA sz)) 1 6 (NA sz) := by
  refine vx_ofW (cc := cX5_checkJob) (maxL := 2) (ret := none) (by decide) rfl ?_
  intro p e s m args below meth c s₁ B hml htb hv
  obtain ⟨rfl, hsz, hP, hK, hN, hXs, hZs⟩ := hv
  have hx := B.exec
  have hb := B.bytes
  have hr := B.returns
  have hts := atoms_spec (ws := (Cond.code yX5_checkJob cX5_checkJob 2 none :: TB)) B.pre
  have hown : s.vm.findClass RX5 = some m.cls := findClass_of_methodNamed B.named
  have hlocks := B.notSynchronized
  subst hsz
  have hA : ∀ q : Nat, s.heap.size ≤ q → NA s.heap.size q := fun q h => h
  have hS : va_S (NA s.heap.size) s.heap s.heap [] := va_S.rf
  have hl := lv_entry ([.ref P, .int x]) (n := 2) (Nat.le_of_ble_eq_true rfl)
  rw [lg_entry_eq]
  generalize (lg_sl ([.ref P, .int x]) ++ List.replicate (2 - (lg_sl ([.ref P, .int x])).length) Slot.unset).toArray = ls at hl ⊢
  have hl : lv_has ls 2 [(0, .ref P), (1, .int x)] := hl
  refine lv_iload_n hx hb dX5_checkJob_0 rfl (lv_at hl 1 rfl) ?_
  refine lv_if_lt (tgt := 15) hx hb dX5_checkJob_1 (by decide) (fun c_1 => ?_) (fun c_1 => ?_)
  · exact k_thxW ⟨hx, hb, hml, hown, hts⟩ hlT hXs hZs hS 345 "no such job" (by decide) hl.1 dX5_checkJob_15 dX5_checkJob_18 dX5_checkJob_19 dX5_checkJob_22 dX5_checkJob_25 htb ⟨by decide, by decide, Nat.le_of_ble_eq_true rfl, Nat.le_of_ble_eq_true rfl⟩ hlocks (fun t8 h0 h1 h2 => ⟨"java/lang/IndexOutOfBoundsException", rfl, rfl, ⟨Nat.le_trans hS.1 h1, fun q p1 p2 => (h2 q (Nat.lt_of_lt_of_le p1 hS.1)).trans (hS.2.1 q p1 p2)⟩⟩) hS.2.2 ⟨Nat.le_of_ble_eq_true rfl, Nat.le_of_ble_eq_true rfl⟩
  · refine lv_iload_n hx hb dX5_checkJob_4 rfl (lv_at hl 1 rfl) ?_
    refine lv_aload_n hx hb dX5_checkJob_5 rfl (lv_at hl 0 rfl) ?_
    refine va_get (D := (dC, dI)) (ci := 5) (v := .ref F) (C := RX5) (T := TX5) (N := 9) hx hb hts (fun w h => tb_in (inX5 w h)) hown hK hP 0 rfl rfl 0 (by decide) (hts _ (tb_in q_fl_X5_12)) (fun _ h9 => h9) rfl dX5_checkJob_6 ?_
    refine va_get (D := (dC, dI)) (ci := 0) (v := .int 0) (C := RX0) (T := TX0) (N := 12) hx hb hts (fun w h => tb_in (inX0 w h)) hown hK hP 1 rfl rfl 10 (by decide) (hts _ (tb_in q_fl_X5_111)) (fun _ h9 => h9) rfl dX5_checkJob_9 ?_
    refine lv_icmp_lt (tgt := 26) hx hb dX5_checkJob_12 (by decide) (fun c_2 => ?_) (fun c_2 => ?_)
    · exact absurd c_2 c_1
    · exact k_thxW ⟨hx, hb, hml, hown, hts⟩ hlT hXs hZs hS 345 "no such job" (by decide) hl.1 dX5_checkJob_15 dX5_checkJob_18 dX5_checkJob_19 dX5_checkJob_22 dX5_checkJob_25 htb ⟨by decide, by decide, Nat.le_of_ble_eq_true rfl, Nat.le_of_ble_eq_true rfl⟩ hlocks (fun t8 h0 h1 h2 => ⟨"java/lang/IndexOutOfBoundsException", rfl, rfl, ⟨Nat.le_trans hS.1 h1, fun q p1 p2 => (h2 q (Nat.lt_of_lt_of_le p1 hS.1)).trans (hS.2.1 q p1 p2)⟩⟩) hS.2.2 ⟨Nat.le_of_ble_eq_true rfl, Nat.le_of_ble_eq_true rfl⟩
set_option maxHeartbeats 4000000 in
set_option maxRecDepth 100000 in
theorem c_X5_checkPlace (l : Launch) (hlT : l.stackTraces = false) (dC : Nat → ClassId) (dI : Nat → Nat → Nat) (cI cV cJ cL : ClassId) (P F G T za : Nat) (fa ia : Nat → Nat) (bg ck : Int32) (x : Int32) (sz : Nat) : vx_Met l yX5_checkPlace (Cond.code yX5_checkPlace cX5_checkPlace 2 none :: TB) ({ frames := 8, cells := 1, slots := 6, locals := 300 } : Room) (PXw [.ref P, .int x] (dC, dI) [(P, .inr (5, [.ref F, .ref G, .ref T, .ref za, .ref (ia 0), .ref (ia 1), .ref (ia 2), .int 0, .int bg])), (F, .inr (0, [.ref (fa 0), .ref (fa 1), .ref (fa 2), .ref (fa 3), .ref (fa 4), .ref (fa 5), .ref (fa 6), .ref (fa 7), .ref (fa 8), .int 0, .int 0, .int ck]))] (TYP cI cV cJ cL) sz) (va_Qv (fun (_ : Unit) => False) (QB (dC, dI) (fun (_ : Unit) => []) (TYP cI cV cJ cL) (va_A [(P, .inr (5, [.ref F, .ref G, .ref T, .ref za, .ref (ia 0), .ref (ia 1), .ref (ia 2), .int 0, .int bg])), (F, .inr (0, [.ref (fa 0), .ref (fa 1), .ref (fa 2), .ref (fa 3), .ref (fa 4), .ref (fa 5), .ref (fa 6), .ref (fa 7), .ref (fa 8), .int 0, .int 0, .int ck]))] sz)) (va_A [(P, .inr (5, [.ref F, .ref G, .ref T, .ref za, .ref (ia 0), .ref (ia 1), .ref (ia 2), .int 0, .int bg])), (F, .inr (0, [.ref (fa 0), .ref (fa 1), .ref (fa 2), .ref (fa 3), .ref (fa 4), .ref (fa 5), .ref (fa 6), .ref (fa 7), .ref (fa 8), .int 0, .int 0, .int ck]))] sz)) (vx_X (fun (q : String × Unit) => q.1 = "java/lang/IndexOutOfBoundsException") (fun E (u : String × Unit) t8 => E = u.1 ∧ QB (dC, dI) (fun (_ : Unit) => [(P, .inr (5, [.ref F, .ref G, .ref T, .ref za, .ref (ia 0), .ref (ia 1), .ref (ia 2), .int 0, .int bg])), (F, .inr (0, [.ref (fa 0), .ref (fa 1), .ref (fa 2), .ref (fa 3), .ref (fa 4), .ref (fa 5), .ref (fa 6), .ref (fa 7), .ref (fa 8), .int 0, .int 0, .int ck]))]) (TYP cI cV cJ cL) (va_A [(P, .inr (5, [.ref F, .ref G, .ref T, .ref za, .ref (ia 0), .ref (ia 1), .ref (ia 2), .int 0, .int bg])), (F, .inr (0, [.ref (fa 0), .ref (fa 1), .ref (fa 2), .ref (fa 3), .ref (fa 4), .ref (fa 5), .ref (fa 6), .ref (fa 7), .ref (fa 8), .int 0, .int 0, .int ck]))] sz) u.2 t8) (va_A [(P, .inr (5, [.ref F, .ref G, .ref T, .ref za, .ref (ia 0), .ref (ia 1), .ref (ia 2), .int 0, .int bg])), (F, .inr (0, [.ref (fa 0), .ref (fa 1), .ref (fa 2), .ref (fa 3), .ref (fa 4), .ref (fa 5), .ref (fa 6), .ref (fa 7), .ref (fa 8), .int 0, .int 0, .int ck]))] sz)) 1 6 (va_A [(P, .inr (5, [.ref F, .ref G, .ref T, .ref za, .ref (ia 0), .ref (ia 1), .ref (ia 2), .int 0, .int bg])), (F, .inr (0, [.ref (fa 0), .ref (fa 1), .ref (fa 2), .ref (fa 3), .ref (fa 4), .ref (fa 5), .ref (fa 6), .ref (fa 7), .ref (fa 8), .int 0, .int 0, .int ck]))] sz) := by
  refine vx_ofW (cc := cX5_checkPlace) (maxL := 2) (ret := none) (by decide) rfl ?_
  intro p e s m args below meth c s₁ B hml htb hv
  obtain ⟨rfl, hsz, hP, hK, hD0, hN, hXs, hZs⟩ := hv
  have hx := B.exec
  have hb := B.bytes
  have hr := B.returns
  have hts := atoms_spec (ws := (Cond.code yX5_checkPlace cX5_checkPlace 2 none :: TB)) B.pre
  have hown : s.vm.findClass RX5 = some m.cls := findClass_of_methodNamed B.named
  have hlocks := B.notSynchronized
  subst hsz
  have hD := hD0.self (sz := s.heap.size)
  generalize hAe : va_A [(P, .inr (5, [.ref F, .ref G, .ref T, .ref za, .ref (ia 0), .ref (ia 1), .ref (ia 2), .int 0, .int bg])), (F, .inr (0, [.ref (fa 0), .ref (fa 1), .ref (fa 2), .ref (fa 3), .ref (fa 4), .ref (fa 5), .ref (fa 6), .ref (fa 7), .ref (fa 8), .int 0, .int 0, .int ck]))] s.heap.size = A at hD hZs ⊢
  have hA : ∀ q : Nat, s.heap.size ≤ q → A q := fun q h => by rw [← hAe]; exact Or.inr h
  have hS : va_S A s.heap s.heap [] := va_S.rf
  have hl := lv_entry ([.ref P, .int x]) (n := 2) (Nat.le_of_ble_eq_true rfl)
  rw [lg_entry_eq]
  generalize (lg_sl ([.ref P, .int x]) ++ List.replicate (2 - (lg_sl ([.ref P, .int x])).length) Slot.unset).toArray = ls at hl ⊢
  have hl : lv_has ls 2 [(0, .ref P), (1, .int x)] := hl
  refine lv_aload_n hx hb dX5_checkPlace_0 rfl (lv_at hl 0 rfl) ?_
  refine va_get (D := (dC, dI)) (ci := 5) (v := .ref F) (C := RX5) (T := TX5) (N := 9) hx hb hts (fun w h => tb_in (inX5 w h)) hown hK hP 0 rfl rfl 0 (by decide) (hts _ (tb_in q_fl_X5_12)) (fun _ h9 => h9) rfl dX5_checkPlace_1 ?_
  refine lv_iload_n hx hb dX5_checkPlace_4 rfl (lv_at hl 1 rfl) ?_
  refine n_Vz (ci := 0) (q0 := 0) (wc := [(F, .inr (0, [.ref (fa 0), .ref (fa 1), .ref (fa 2), .ref (fa 3), .ref (fa 4), .ref (fa 5), .ref (fa 6), .ref (fa 7), .ref (fa 8), .int 0, .int 0, .int ck]))]) (wr := [(P, .inr (5, [.ref F, .ref G, .ref T, .ref za, .ref (ia 0), .ref (ia 1), .ref (ia 2), .int 0, .int bg]))]) [.int x] [1] [0] ⟨hx, hb, hml, hown, hts⟩ (fun sz => c_X0_isPlace l dC dI cI cV cJ cL F fa ck x sz) q_ml_X5_333 q_im_X0_isPlace q_se_X0_isPlace q_ini_X0 q_co_X0_isPlace (n := 1) (by decide +kernel) rfl ⟨rfl, rfl⟩ ⟨Nat.le_of_ble_eq_true rfl, Nat.le_of_ble_eq_true rfl⟩ hP hD hS hA hK hN rfl rfl (by decide) (by decide) (by decide) rfl rfl rfl hl.1 rfl (Nat.le_of_ble_eq_true rfl) dX5_checkPlace_5 ⟨Nat.le_of_ble_eq_true rfl, Nat.le_of_ble_eq_true rfl⟩ (fun r_2 u_1 H locs hu_1 hP hD hS => ?_)
  have hP : va_P (dC, dI) cls [(P, .inr (5, [.ref F, .ref G, .ref T, .ref za, .ref (ia 0), .ref (ia 1), .ref (ia 2), .int 0, .int bg])), (F, .inr (0, [.ref (fa 0), .ref (fa 1), .ref (fa 2), .ref (fa 3), .ref (fa 4), .ref (fa 5), .ref (fa 6), .ref (fa 7), .ref (fa 8), .int 0, .int 0, .int ck]))] H := hP
  have hD : va_D A [(P, .inr (5, [.ref F, .ref G, .ref T, .ref za, .ref (ia 0), .ref (ia 1), .ref (ia 2), .int 0, .int bg])), (F, .inr (0, [.ref (fa 0), .ref (fa 1), .ref (fa 2), .ref (fa 3), .ref (fa 4), .ref (fa 5), .ref (fa 6), .ref (fa 7), .ref (fa 8), .int 0, .int 0, .int ck]))] := hD
  obtain rfl := hu_1
  refine lv_if_ne (tgt := 22) hx hb dX5_checkPlace_8 (by decide) (fun c_3 => ?_) (fun c_3 => ?_)
  · first | exact absurd c_3 (by decide) | exact absurd (by decide) c_3
  exact k_thxW ⟨hx, hb, hml, hown, hts⟩ hlT hXs hZs hS 338 "no such place" (by decide) hl.1 dX5_checkPlace_11 dX5_checkPlace_14 dX5_checkPlace_15 dX5_checkPlace_18 dX5_checkPlace_21 htb ⟨by decide, by decide, Nat.le_of_ble_eq_true rfl, Nat.le_of_ble_eq_true rfl⟩ hlocks (fun t8 h0 h1 h2 => ⟨("java/lang/IndexOutOfBoundsException", ()), rfl, ⟨rfl, hP.kept (fun k q hk => h2 q.1 (hP k q hk).lt), va_K.moved h0 hK, hD⟩, ⟨Nat.le_trans hS.1 h1, fun q p1 p2 => (h2 q (Nat.lt_of_lt_of_le p1 hS.1)).trans (hS.2.1 q p1 p2)⟩⟩) hS.2.2 ⟨Nat.le_of_ble_eq_true rfl, Nat.le_of_ble_eq_true rfl⟩
set_option maxHeartbeats 4000000 in
set_option maxRecDepth 100000 in
theorem c_X5_checkStop (l : Launch) (hlT : l.stackTraces = false) (dC : Nat → ClassId) (dI : Nat → Nat → Nat) (cI cV cJ cL : ClassId) (P F G T za : Nat) (fa ia : Nat → Nat) (bg ck : Int32) (x y : Int32) (sz : Nat) : vx_Met l yX5_checkStop (Cond.code yX5_checkStop cX5_checkStop 3 none :: TB) ({ frames := 10, cells := 1, slots := 6, locals := 400 } : Room) (PXr [.ref P, .int x, .int y] (dC, dI) [(P, .inr (5, [.ref F, .ref G, .ref T, .ref za, .ref (ia 0), .ref (ia 1), .ref (ia 2), .int 0, .int bg]))] (TYP cI cV cJ cL) sz) (va_Qv (fun _ : Unit => False) (fun _ _ => True) (NA sz)) (vx_X (fun E => E = "java/lang/IndexOutOfBoundsException") (fun E u _ => E = u) (NA sz)) 1 6 (NA sz) := by
  refine vx_ofW (cc := cX5_checkStop) (maxL := 3) (ret := none) (by decide) rfl ?_
  intro p e s m args below meth c s₁ B hml htb hv
  obtain ⟨rfl, hsz, hP, hK, hN, hXs, hZs⟩ := hv
  have hx := B.exec
  have hb := B.bytes
  have hr := B.returns
  have hts := atoms_spec (ws := (Cond.code yX5_checkStop cX5_checkStop 3 none :: TB)) B.pre
  have hown : s.vm.findClass RX5 = some m.cls := findClass_of_methodNamed B.named
  have hlocks := B.notSynchronized
  subst hsz
  have hA : ∀ q : Nat, s.heap.size ≤ q → NA s.heap.size q := fun q h => h
  have hS : va_S (NA s.heap.size) s.heap s.heap [] := va_S.rf
  have hl := lv_entry ([.ref P, .int x, .int y]) (n := 3) (Nat.le_of_ble_eq_true rfl)
  rw [lg_entry_eq]
  generalize (lg_sl ([.ref P, .int x, .int y]) ++ List.replicate (3 - (lg_sl ([.ref P, .int x, .int y])).length) Slot.unset).toArray = ls at hl ⊢
  have hl : lv_has ls 3 [(0, .ref P), (1, .int x), (2, .int y)] := hl
  refine lv_aload_n hx hb dX5_checkStop_0 rfl (lv_at hl 0 rfl) ?_
  refine lv_iload_n hx hb dX5_checkStop_1 rfl (lv_at hl 1 rfl) ?_
  refine k_Xv (ci := 5) (q0 := 0) [.int x] [0] ⟨hx, hb, hml, hown, hts⟩ (fun sz => c_X5_checkVehicle l hlT dC dI cI cV cJ cL P F G T za fa ia bg ck x sz) q_ml_X5_157 q_im_X5_checkVehicle q_se_X5_checkVehicle q_ini_X5 q_co_X5_checkVehicle (n := 1) (by decide +kernel) rfl ⟨rfl, rfl⟩ ⟨Nat.le_of_ble_eq_true rfl, Nat.le_of_ble_eq_true rfl⟩ hP hS hA hK hN hXs hZs rfl rfl rfl rfl hl.1 rfl (Nat.le_of_ble_eq_true rfl) dX5_checkStop_2 ⟨Nat.le_of_ble_eq_true rfl, Nat.le_of_ble_eq_true rfl⟩ (fun E ce q9 H locs hpx hP hS hc1 hc2 hc3 => ?_) (fun H locs hpo hP hS => ?_)
  · exact vx_out (fun x h => (htb x h).elim) hlocks hc1 hc2 hc3 (fun t8 ht9 hW9 => ⟨E, hpx, rfl, hS.F ht9⟩) hS.2.2 (Nat.le_of_ble_eq_true rfl) (Nat.le_of_ble_eq_true rfl)
  have ho_1 := hpo
  have hP : va_P (dC, dI) cls [(P, .inr (5, [.ref F, .ref G, .ref T, .ref za, .ref (ia 0), .ref (ia 1), .ref (ia 2), .int 0, .int bg]))] H := hP
  exact ho_1.elim
set_option maxHeartbeats 4000000 in
set_option maxRecDepth 100000 in
theorem c_X5_checkKind (l : Launch) (hlT : l.stackTraces = false) (dC : Nat → ClassId) (dI : Nat → Nat → Nat) (cI cV cJ cL : ClassId) (P F G T za : Nat) (fa ia : Nat → Nat) (bg ck : Int32) (x : Int32) (sz : Nat) : vx_Met l yX5_checkKind (Cond.code yX5_checkKind cX5_checkKind 1 none :: TB) ({ frames := 8, cells := 1, slots := 6, locals := 300 } : Room) (PXr [.int x] (dC, dI) [] (TYP cI cV cJ cL) sz) (va_Qv (fun _ : Unit => outF x 0 3 = false) (fun _ _ => True) (NA sz)) (vx_X (fun E => E = "java/lang/IllegalArgumentException" ∧ outF x 0 3 = true) (fun E u _ => E = u) (NA sz)) 1 6 (NA sz) := by
  refine vx_ofW (cc := cX5_checkKind) (maxL := 1) (ret := none) (by decide) rfl ?_
  intro p e s m args below meth c s₁ B hml htb hv
  obtain ⟨rfl, hsz, hP, hK, hN, hXs, hZs⟩ := hv
  have hx := B.exec
  have hb := B.bytes
  have hr := B.returns
  have hts := atoms_spec (ws := (Cond.code yX5_checkKind cX5_checkKind 1 none :: TB)) B.pre
  have hown : s.vm.findClass RX5 = some m.cls := findClass_of_methodNamed B.named
  have hlocks := B.notSynchronized
  subst hsz
  have hA : ∀ q : Nat, s.heap.size ≤ q → NA s.heap.size q := fun q h => h
  have hS : va_S (NA s.heap.size) s.heap s.heap [] := va_S.rf
  have hl := lv_entry ([.int x]) (n := 1) (Nat.le_of_ble_eq_true rfl)
  rw [lg_entry_eq]
  generalize (lg_sl ([.int x]) ++ List.replicate (1 - (lg_sl ([.int x])).length) Slot.unset).toArray = ls at hl ⊢
  have hl : lv_has ls 1 [(0, .int x)] := hl
  refine lv_iload_n hx hb dX5_checkKind_0 rfl (lv_at hl 0 rfl) ?_
  refine lv_iconst (v := 0) hx hb dX5_checkKind_1 (by decide) ?_
  refine lv_iconst (v := 3) hx hb dX5_checkKind_2 (by decide) ?_
  refine k_Ti [.int x, .int 0, .int 3] ⟨hx, hb, hml, hown, hts⟩ (c_X5_isOutside l x 0 3) q_ml_X5_50 q_st_X5_isOutside q_ini_X5 q_co_X5_isOutside (n := 3) (by decide +kernel) rfl ⟨rfl, rfl⟩ ⟨Nat.le_of_ble_eq_true rfl, Nat.le_of_ble_eq_true rfl⟩ hl.1 rfl (Nat.le_of_ble_eq_true rfl) dX5_checkKind_3 ⟨Nat.le_of_ble_eq_true rfl, Nat.le_of_ble_eq_true rfl⟩ (fun r_1 hr_1 => ?_)
  subst hr_1
  refine lv_if_eq (tgt := 20) hx hb dX5_checkKind_6 (by decide) (fun c_2 => ?_) (fun c_2 => ?_)
  · refine k_wid (k := 1) (n := 6) (Nat.le_of_ble_eq_true rfl) (Nat.le_of_ble_eq_true rfl) (vx_ret ?_)
    exact W.vret hx hb hr (fun t9 ht9 hW9 => ⟨⟨(), rfl, (show outF x 0 3 = false from cz0 c_2), trivial⟩, hS.F ht9⟩) hS.2.2 dX5_checkKind_20
  · exact k_thaW ⟨hx, hb, hml, hown, hts⟩ hlT hXs hZs hS 331 "kind is 0 to 3" (by decide) hl.1 dX5_checkKind_9 dX5_checkKind_12 dX5_checkKind_13 dX5_checkKind_16 dX5_checkKind_19 htb ⟨by decide, by decide, Nat.le_of_ble_eq_true rfl, Nat.le_of_ble_eq_true rfl⟩ hlocks (fun t8 h0 h1 h2 => ⟨"java/lang/IllegalArgumentException", ⟨rfl, (show outF x 0 3 = true from cz1 c_2)⟩, rfl, ⟨Nat.le_trans hS.1 h1, fun q p1 p2 => (h2 q (Nat.lt_of_lt_of_le p1 hS.1)).trans (hS.2.1 q p1 p2)⟩⟩) hS.2.2 ⟨Nat.le_of_ble_eq_true rfl, Nat.le_of_ble_eq_true rfl⟩
set_option maxHeartbeats 4000000 in
set_option maxRecDepth 100000 in
theorem c_X5_addVehicle (l : Launch) (hlT : l.stackTraces = false) (dC : Nat → ClassId) (dI : Nat → Nat → Nat) (cI cV cJ cL : ClassId) (P F G T za : Nat) (fa ia : Nat → Nat) (bg ck : Int32) (p0 p1 p2 p3 p4 p5 : Int32) (sz : Nat) : vx_Met l yX5_addVehicle (Cond.code yX5_addVehicle cX5_addVehicle 8 (some .int) :: TB) ({ frames := 12, cells := 1, slots := 6, locals := 500 } : Room) (PXw [.ref P, .int p0, .int p1, .int p2, .int p3, .int p4, .int p5] (dC, dI) [(P, .inr (5, [.ref F, .ref G, .ref T, .ref za, .ref (ia 0), .ref (ia 1), .ref (ia 2), .int 0, .int bg])), (F, .inr (0, [.ref (fa 0), .ref (fa 1), .ref (fa 2), .ref (fa 3), .ref (fa 4), .ref (fa 5), .ref (fa 6), .ref (fa 7), .ref (fa 8), .int 0, .int 0, .int ck]))] (TYP cI cV cJ cL) sz) (va_Qi (fun (_ : Int32) (_ : Unit) => False) (QB (dC, dI) (fun (_ : Unit) => []) (TYP cI cV cJ cL) (va_A [(P, .inr (5, [.ref F, .ref G, .ref T, .ref za, .ref (ia 0), .ref (ia 1), .ref (ia 2), .int 0, .int bg])), (F, .inr (0, [.ref (fa 0), .ref (fa 1), .ref (fa 2), .ref (fa 3), .ref (fa 4), .ref (fa 5), .ref (fa 6), .ref (fa 7), .ref (fa 8), .int 0, .int 0, .int ck]))] sz)) (va_A [(P, .inr (5, [.ref F, .ref G, .ref T, .ref za, .ref (ia 0), .ref (ia 1), .ref (ia 2), .int 0, .int bg])), (F, .inr (0, [.ref (fa 0), .ref (fa 1), .ref (fa 2), .ref (fa 3), .ref (fa 4), .ref (fa 5), .ref (fa 6), .ref (fa 7), .ref (fa 8), .int 0, .int 0, .int ck]))] sz)) (vx_X (fun (q : String × Unit) => q.1 = "java/lang/IndexOutOfBoundsException") (fun E (u : String × Unit) t8 => E = u.1 ∧ QB (dC, dI) (fun (_ : Unit) => [(P, .inr (5, [.ref F, .ref G, .ref T, .ref za, .ref (ia 0), .ref (ia 1), .ref (ia 2), .int 0, .int bg])), (F, .inr (0, [.ref (fa 0), .ref (fa 1), .ref (fa 2), .ref (fa 3), .ref (fa 4), .ref (fa 5), .ref (fa 6), .ref (fa 7), .ref (fa 8), .int 0, .int 0, .int ck]))]) (TYP cI cV cJ cL) (va_A [(P, .inr (5, [.ref F, .ref G, .ref T, .ref za, .ref (ia 0), .ref (ia 1), .ref (ia 2), .int 0, .int bg])), (F, .inr (0, [.ref (fa 0), .ref (fa 1), .ref (fa 2), .ref (fa 3), .ref (fa 4), .ref (fa 5), .ref (fa 6), .ref (fa 7), .ref (fa 8), .int 0, .int 0, .int ck]))] sz) u.2 t8) (va_A [(P, .inr (5, [.ref F, .ref G, .ref T, .ref za, .ref (ia 0), .ref (ia 1), .ref (ia 2), .int 0, .int bg])), (F, .inr (0, [.ref (fa 0), .ref (fa 1), .ref (fa 2), .ref (fa 3), .ref (fa 4), .ref (fa 5), .ref (fa 6), .ref (fa 7), .ref (fa 8), .int 0, .int 0, .int ck]))] sz)) 1 6 (va_A [(P, .inr (5, [.ref F, .ref G, .ref T, .ref za, .ref (ia 0), .ref (ia 1), .ref (ia 2), .int 0, .int bg])), (F, .inr (0, [.ref (fa 0), .ref (fa 1), .ref (fa 2), .ref (fa 3), .ref (fa 4), .ref (fa 5), .ref (fa 6), .ref (fa 7), .ref (fa 8), .int 0, .int 0, .int ck]))] sz) := by
  refine vx_ofW (cc := cX5_addVehicle) (maxL := 8) (ret := (some .int)) (by decide) rfl ?_
  intro p e s m args below meth c s₁ B hml htb hv
  obtain ⟨rfl, hsz, hP, hK, hD0, hN, hXs, hZs⟩ := hv
  have hx := B.exec
  have hb := B.bytes
  have hr := B.returns
  have hts := atoms_spec (ws := (Cond.code yX5_addVehicle cX5_addVehicle 8 (some .int) :: TB)) B.pre
  have hown : s.vm.findClass RX5 = some m.cls := findClass_of_methodNamed B.named
  have hlocks := B.notSynchronized
  subst hsz
  have hD := hD0.self (sz := s.heap.size)
  generalize hAe : va_A [(P, .inr (5, [.ref F, .ref G, .ref T, .ref za, .ref (ia 0), .ref (ia 1), .ref (ia 2), .int 0, .int bg])), (F, .inr (0, [.ref (fa 0), .ref (fa 1), .ref (fa 2), .ref (fa 3), .ref (fa 4), .ref (fa 5), .ref (fa 6), .ref (fa 7), .ref (fa 8), .int 0, .int 0, .int ck]))] s.heap.size = A at hD hZs ⊢
  have hA : ∀ q : Nat, s.heap.size ≤ q → A q := fun q h => by rw [← hAe]; exact Or.inr h
  have hS : va_S A s.heap s.heap [] := va_S.rf
  have hl := lv_entry ([.ref P, .int p0, .int p1, .int p2, .int p3, .int p4, .int p5]) (n := 8) (Nat.le_of_ble_eq_true rfl)
  rw [lg_entry_eq]
  generalize (lg_sl ([.ref P, .int p0, .int p1, .int p2, .int p3, .int p4, .int p5]) ++ List.replicate (8 - (lg_sl ([.ref P, .int p0, .int p1, .int p2, .int p3, .int p4, .int p5])).length) Slot.unset).toArray = ls at hl ⊢
  have hl : lv_has ls 8 [(0, .ref P), (1, .int p0), (2, .int p1), (3, .int p2), (4, .int p3), (5, .int p4), (6, .int p5)] := hl
  refine lv_aload_n hx hb dX5_addVehicle_0 rfl (lv_at hl 0 rfl) ?_
  refine lv_iload_n hx hb dX5_addVehicle_1 rfl (lv_at hl 1 rfl) ?_
  refine x_Vv (ci := 5) (q0 := 0) (wc := [(P, .inr (5, [.ref F, .ref G, .ref T, .ref za, .ref (ia 0), .ref (ia 1), .ref (ia 2), .int 0, .int bg])), (F, .inr (0, [.ref (fa 0), .ref (fa 1), .ref (fa 2), .ref (fa 3), .ref (fa 4), .ref (fa 5), .ref (fa 6), .ref (fa 7), .ref (fa 8), .int 0, .int 0, .int ck]))]) [.int p0] [0, 1] ⟨hx, hb, hml, hown, hts⟩ (fun sz => c_X5_checkPlace l hlT dC dI cI cV cJ cL P F G T za fa ia bg ck p0 sz) q_ml_X5_74 q_im_X5_checkPlace q_se_X5_checkPlace q_ini_X5 q_co_X5_checkPlace (n := 1) (by decide +kernel) rfl ⟨rfl, rfl⟩ ⟨Nat.le_of_ble_eq_true rfl, Nat.le_of_ble_eq_true rfl⟩ hP hD hS hA hK hN hXs hZs rfl (by decide) rfl rfl rfl hl.1 rfl (Nat.le_of_ble_eq_true rfl) dX5_addVehicle_2 ⟨Nat.le_of_ble_eq_true rfl, Nat.le_of_ble_eq_true rfl⟩ (fun E ce q9 H locs hpx hP hD hS hc1 hc2 hc3 => ?_) (fun H locs hpo => ?_)
  · exact vx_out (fun x h => (htb x h).elim) hlocks hc1 hc2 hc3 (fun t8 ht9 hW9 => ⟨(E, ()), hpx, ⟨rfl, by rw [ht9]; exact hP, va_K.moved hW9 hK, hD⟩, hS.F ht9⟩) hS.2.2 (Nat.le_of_ble_eq_true rfl) (Nat.le_of_ble_eq_true rfl)
  exact hpo.elim
set_option maxHeartbeats 4000000 in
set_option maxRecDepth 100000 in
theorem c_X5_addJob (l : Launch) (hlT : l.stackTraces = false) (dC : Nat → ClassId) (dI : Nat → Nat → Nat) (cI cV cJ cL : ClassId) (P F G T za : Nat) (fa ia : Nat → Nat) (bg ck : Int32) (p0 p1 p2 p3 p4 : Int32) (sz : Nat) : vx_Met l yX5_addJob (Cond.code yX5_addJob cX5_addJob 6 (some .int) :: TB) ({ frames := 12, cells := 1, slots := 6, locals := 500 } : Room) (PXw [.ref P, .int p0, .int p1, .int p2, .int p3, .int p4] (dC, dI) [(P, .inr (5, [.ref F, .ref G, .ref T, .ref za, .ref (ia 0), .ref (ia 1), .ref (ia 2), .int 0, .int bg])), (F, .inr (0, [.ref (fa 0), .ref (fa 1), .ref (fa 2), .ref (fa 3), .ref (fa 4), .ref (fa 5), .ref (fa 6), .ref (fa 7), .ref (fa 8), .int 0, .int 0, .int ck]))] (TYP cI cV cJ cL) sz) (va_Qi (fun (_ : Int32) (_ : Unit) => False) (QB (dC, dI) (fun (_ : Unit) => []) (TYP cI cV cJ cL) (va_A [(P, .inr (5, [.ref F, .ref G, .ref T, .ref za, .ref (ia 0), .ref (ia 1), .ref (ia 2), .int 0, .int bg])), (F, .inr (0, [.ref (fa 0), .ref (fa 1), .ref (fa 2), .ref (fa 3), .ref (fa 4), .ref (fa 5), .ref (fa 6), .ref (fa 7), .ref (fa 8), .int 0, .int 0, .int ck]))] sz)) (va_A [(P, .inr (5, [.ref F, .ref G, .ref T, .ref za, .ref (ia 0), .ref (ia 1), .ref (ia 2), .int 0, .int bg])), (F, .inr (0, [.ref (fa 0), .ref (fa 1), .ref (fa 2), .ref (fa 3), .ref (fa 4), .ref (fa 5), .ref (fa 6), .ref (fa 7), .ref (fa 8), .int 0, .int 0, .int ck]))] sz)) (vx_X (fun (q : String × Unit) => q.1 = "java/lang/IndexOutOfBoundsException") (fun E (u : String × Unit) t8 => E = u.1 ∧ QB (dC, dI) (fun (_ : Unit) => [(P, .inr (5, [.ref F, .ref G, .ref T, .ref za, .ref (ia 0), .ref (ia 1), .ref (ia 2), .int 0, .int bg])), (F, .inr (0, [.ref (fa 0), .ref (fa 1), .ref (fa 2), .ref (fa 3), .ref (fa 4), .ref (fa 5), .ref (fa 6), .ref (fa 7), .ref (fa 8), .int 0, .int 0, .int ck]))]) (TYP cI cV cJ cL) (va_A [(P, .inr (5, [.ref F, .ref G, .ref T, .ref za, .ref (ia 0), .ref (ia 1), .ref (ia 2), .int 0, .int bg])), (F, .inr (0, [.ref (fa 0), .ref (fa 1), .ref (fa 2), .ref (fa 3), .ref (fa 4), .ref (fa 5), .ref (fa 6), .ref (fa 7), .ref (fa 8), .int 0, .int 0, .int ck]))] sz) u.2 t8) (va_A [(P, .inr (5, [.ref F, .ref G, .ref T, .ref za, .ref (ia 0), .ref (ia 1), .ref (ia 2), .int 0, .int bg])), (F, .inr (0, [.ref (fa 0), .ref (fa 1), .ref (fa 2), .ref (fa 3), .ref (fa 4), .ref (fa 5), .ref (fa 6), .ref (fa 7), .ref (fa 8), .int 0, .int 0, .int ck]))] sz)) 1 6 (va_A [(P, .inr (5, [.ref F, .ref G, .ref T, .ref za, .ref (ia 0), .ref (ia 1), .ref (ia 2), .int 0, .int bg])), (F, .inr (0, [.ref (fa 0), .ref (fa 1), .ref (fa 2), .ref (fa 3), .ref (fa 4), .ref (fa 5), .ref (fa 6), .ref (fa 7), .ref (fa 8), .int 0, .int 0, .int ck]))] sz) := by
  refine vx_ofW (cc := cX5_addJob) (maxL := 6) (ret := (some .int)) (by decide) rfl ?_
  intro p e s m args below meth c s₁ B hml htb hv
  obtain ⟨rfl, hsz, hP, hK, hD0, hN, hXs, hZs⟩ := hv
  have hx := B.exec
  have hb := B.bytes
  have hr := B.returns
  have hts := atoms_spec (ws := (Cond.code yX5_addJob cX5_addJob 6 (some .int) :: TB)) B.pre
  have hown : s.vm.findClass RX5 = some m.cls := findClass_of_methodNamed B.named
  have hlocks := B.notSynchronized
  subst hsz
  have hD := hD0.self (sz := s.heap.size)
  generalize hAe : va_A [(P, .inr (5, [.ref F, .ref G, .ref T, .ref za, .ref (ia 0), .ref (ia 1), .ref (ia 2), .int 0, .int bg])), (F, .inr (0, [.ref (fa 0), .ref (fa 1), .ref (fa 2), .ref (fa 3), .ref (fa 4), .ref (fa 5), .ref (fa 6), .ref (fa 7), .ref (fa 8), .int 0, .int 0, .int ck]))] s.heap.size = A at hD hZs ⊢
  have hA : ∀ q : Nat, s.heap.size ≤ q → A q := fun q h => by rw [← hAe]; exact Or.inr h
  have hS : va_S A s.heap s.heap [] := va_S.rf
  have hl := lv_entry ([.ref P, .int p0, .int p1, .int p2, .int p3, .int p4]) (n := 6) (Nat.le_of_ble_eq_true rfl)
  rw [lg_entry_eq]
  generalize (lg_sl ([.ref P, .int p0, .int p1, .int p2, .int p3, .int p4]) ++ List.replicate (6 - (lg_sl ([.ref P, .int p0, .int p1, .int p2, .int p3, .int p4])).length) Slot.unset).toArray = ls at hl ⊢
  have hl : lv_has ls 6 [(0, .ref P), (1, .int p0), (2, .int p1), (3, .int p2), (4, .int p3), (5, .int p4)] := hl
  refine lv_aload_n hx hb dX5_addJob_0 rfl (lv_at hl 0 rfl) ?_
  refine lv_iload_n hx hb dX5_addJob_1 rfl (lv_at hl 1 rfl) ?_
  refine x_Vv (ci := 5) (q0 := 0) (wc := [(P, .inr (5, [.ref F, .ref G, .ref T, .ref za, .ref (ia 0), .ref (ia 1), .ref (ia 2), .int 0, .int bg])), (F, .inr (0, [.ref (fa 0), .ref (fa 1), .ref (fa 2), .ref (fa 3), .ref (fa 4), .ref (fa 5), .ref (fa 6), .ref (fa 7), .ref (fa 8), .int 0, .int 0, .int ck]))]) [.int p0] [0, 1] ⟨hx, hb, hml, hown, hts⟩ (fun sz => c_X5_checkPlace l hlT dC dI cI cV cJ cL P F G T za fa ia bg ck p0 sz) q_ml_X5_74 q_im_X5_checkPlace q_se_X5_checkPlace q_ini_X5 q_co_X5_checkPlace (n := 1) (by decide +kernel) rfl ⟨rfl, rfl⟩ ⟨Nat.le_of_ble_eq_true rfl, Nat.le_of_ble_eq_true rfl⟩ hP hD hS hA hK hN hXs hZs rfl (by decide) rfl rfl rfl hl.1 rfl (Nat.le_of_ble_eq_true rfl) dX5_addJob_2 ⟨Nat.le_of_ble_eq_true rfl, Nat.le_of_ble_eq_true rfl⟩ (fun E ce q9 H locs hpx hP hD hS hc1 hc2 hc3 => ?_) (fun H locs hpo => ?_)
  · exact vx_out (fun x h => (htb x h).elim) hlocks hc1 hc2 hc3 (fun t8 ht9 hW9 => ⟨(E, ()), hpx, ⟨rfl, by rw [ht9]; exact hP, va_K.moved hW9 hK, hD⟩, hS.F ht9⟩) hS.2.2 (Nat.le_of_ble_eq_true rfl) (Nat.le_of_ble_eq_true rfl)
  exact hpo.elim
set_option maxHeartbeats 4000000 in
set_option maxRecDepth 100000 in
theorem c_X5_way (l : Launch) (hlT : l.stackTraces = false) (dC : Nat → ClassId) (dI : Nat → Nat → Nat) (cI cV cJ cL : ClassId) (P F G T za : Nat) (fa ia : Nat → Nat) (bg ck : Int32) (p0 p1 : Int32) (sz : Nat) : vx_Met l yX5_way (Cond.code yX5_way cX5_way 3 (some .int) :: TB) ({ frames := 12, cells := 1, slots := 6, locals := 500 } : Room) (PXw [.ref P, .int p0, .int p1] (dC, dI) [(P, .inr (5, [.ref F, .ref G, .ref T, .ref za, .ref (ia 0), .ref (ia 1), .ref (ia 2), .int 0, .int bg])), (F, .inr (0, [.ref (fa 0), .ref (fa 1), .ref (fa 2), .ref (fa 3), .ref (fa 4), .ref (fa 5), .ref (fa 6), .ref (fa 7), .ref (fa 8), .int 0, .int 0, .int ck]))] (TYP cI cV cJ cL) sz) (va_Qi (fun (_ : Int32) (_ : Unit) => False) (QB (dC, dI) (fun (_ : Unit) => []) (TYP cI cV cJ cL) (va_A [(P, .inr (5, [.ref F, .ref G, .ref T, .ref za, .ref (ia 0), .ref (ia 1), .ref (ia 2), .int 0, .int bg])), (F, .inr (0, [.ref (fa 0), .ref (fa 1), .ref (fa 2), .ref (fa 3), .ref (fa 4), .ref (fa 5), .ref (fa 6), .ref (fa 7), .ref (fa 8), .int 0, .int 0, .int ck]))] sz)) (va_A [(P, .inr (5, [.ref F, .ref G, .ref T, .ref za, .ref (ia 0), .ref (ia 1), .ref (ia 2), .int 0, .int bg])), (F, .inr (0, [.ref (fa 0), .ref (fa 1), .ref (fa 2), .ref (fa 3), .ref (fa 4), .ref (fa 5), .ref (fa 6), .ref (fa 7), .ref (fa 8), .int 0, .int 0, .int ck]))] sz)) (vx_X (fun (q : String × Unit) => q.1 = "java/lang/IndexOutOfBoundsException") (fun E (u : String × Unit) t8 => E = u.1 ∧ QB (dC, dI) (fun (_ : Unit) => [(P, .inr (5, [.ref F, .ref G, .ref T, .ref za, .ref (ia 0), .ref (ia 1), .ref (ia 2), .int 0, .int bg])), (F, .inr (0, [.ref (fa 0), .ref (fa 1), .ref (fa 2), .ref (fa 3), .ref (fa 4), .ref (fa 5), .ref (fa 6), .ref (fa 7), .ref (fa 8), .int 0, .int 0, .int ck]))]) (TYP cI cV cJ cL) (va_A [(P, .inr (5, [.ref F, .ref G, .ref T, .ref za, .ref (ia 0), .ref (ia 1), .ref (ia 2), .int 0, .int bg])), (F, .inr (0, [.ref (fa 0), .ref (fa 1), .ref (fa 2), .ref (fa 3), .ref (fa 4), .ref (fa 5), .ref (fa 6), .ref (fa 7), .ref (fa 8), .int 0, .int 0, .int ck]))] sz) u.2 t8) (va_A [(P, .inr (5, [.ref F, .ref G, .ref T, .ref za, .ref (ia 0), .ref (ia 1), .ref (ia 2), .int 0, .int bg])), (F, .inr (0, [.ref (fa 0), .ref (fa 1), .ref (fa 2), .ref (fa 3), .ref (fa 4), .ref (fa 5), .ref (fa 6), .ref (fa 7), .ref (fa 8), .int 0, .int 0, .int ck]))] sz)) 1 6 (va_A [(P, .inr (5, [.ref F, .ref G, .ref T, .ref za, .ref (ia 0), .ref (ia 1), .ref (ia 2), .int 0, .int bg])), (F, .inr (0, [.ref (fa 0), .ref (fa 1), .ref (fa 2), .ref (fa 3), .ref (fa 4), .ref (fa 5), .ref (fa 6), .ref (fa 7), .ref (fa 8), .int 0, .int 0, .int ck]))] sz) := by
  refine vx_ofW (cc := cX5_way) (maxL := 3) (ret := (some .int)) (by decide) rfl ?_
  intro p e s m args below meth c s₁ B hml htb hv
  obtain ⟨rfl, hsz, hP, hK, hD0, hN, hXs, hZs⟩ := hv
  have hx := B.exec
  have hb := B.bytes
  have hr := B.returns
  have hts := atoms_spec (ws := (Cond.code yX5_way cX5_way 3 (some .int) :: TB)) B.pre
  have hown : s.vm.findClass RX5 = some m.cls := findClass_of_methodNamed B.named
  have hlocks := B.notSynchronized
  subst hsz
  have hD := hD0.self (sz := s.heap.size)
  generalize hAe : va_A [(P, .inr (5, [.ref F, .ref G, .ref T, .ref za, .ref (ia 0), .ref (ia 1), .ref (ia 2), .int 0, .int bg])), (F, .inr (0, [.ref (fa 0), .ref (fa 1), .ref (fa 2), .ref (fa 3), .ref (fa 4), .ref (fa 5), .ref (fa 6), .ref (fa 7), .ref (fa 8), .int 0, .int 0, .int ck]))] s.heap.size = A at hD hZs ⊢
  have hA : ∀ q : Nat, s.heap.size ≤ q → A q := fun q h => by rw [← hAe]; exact Or.inr h
  have hS : va_S A s.heap s.heap [] := va_S.rf
  have hl := lv_entry ([.ref P, .int p0, .int p1]) (n := 3) (Nat.le_of_ble_eq_true rfl)
  rw [lg_entry_eq]
  generalize (lg_sl ([.ref P, .int p0, .int p1]) ++ List.replicate (3 - (lg_sl ([.ref P, .int p0, .int p1])).length) Slot.unset).toArray = ls at hl ⊢
  have hl : lv_has ls 3 [(0, .ref P), (1, .int p0), (2, .int p1)] := hl
  refine lv_aload_n hx hb dX5_way_0 rfl (lv_at hl 0 rfl) ?_
  refine lv_iload_n hx hb dX5_way_1 rfl (lv_at hl 1 rfl) ?_
  refine x_Vv (ci := 5) (q0 := 0) (wc := [(P, .inr (5, [.ref F, .ref G, .ref T, .ref za, .ref (ia 0), .ref (ia 1), .ref (ia 2), .int 0, .int bg])), (F, .inr (0, [.ref (fa 0), .ref (fa 1), .ref (fa 2), .ref (fa 3), .ref (fa 4), .ref (fa 5), .ref (fa 6), .ref (fa 7), .ref (fa 8), .int 0, .int 0, .int ck]))]) [.int p0] [0, 1] ⟨hx, hb, hml, hown, hts⟩ (fun sz => c_X5_checkPlace l hlT dC dI cI cV cJ cL P F G T za fa ia bg ck p0 sz) q_ml_X5_74 q_im_X5_checkPlace q_se_X5_checkPlace q_ini_X5 q_co_X5_checkPlace (n := 1) (by decide +kernel) rfl ⟨rfl, rfl⟩ ⟨Nat.le_of_ble_eq_true rfl, Nat.le_of_ble_eq_true rfl⟩ hP hD hS hA hK hN hXs hZs rfl (by decide) rfl rfl rfl hl.1 rfl (Nat.le_of_ble_eq_true rfl) dX5_way_2 ⟨Nat.le_of_ble_eq_true rfl, Nat.le_of_ble_eq_true rfl⟩ (fun E ce q9 H locs hpx hP hD hS hc1 hc2 hc3 => ?_) (fun H locs hpo => ?_)
  · exact vx_out (fun x h => (htb x h).elim) hlocks hc1 hc2 hc3 (fun t8 ht9 hW9 => ⟨(E, ()), hpx, ⟨rfl, by rw [ht9]; exact hP, va_K.moved hW9 hK, hD⟩, hS.F ht9⟩) hS.2.2 (Nat.le_of_ble_eq_true rfl) (Nat.le_of_ble_eq_true rfl)
  exact hpo.elim
set_option maxHeartbeats 4000000 in
set_option maxRecDepth 100000 in
theorem c_X5_setHours (l : Launch) (hlT : l.stackTraces = false) (dC : Nat → ClassId) (dI : Nat → Nat → Nat) (cI cV cJ cL : ClassId) (P F G T za : Nat) (fa ia : Nat → Nat) (bg ck : Int32) (p0 p1 p2 p3 : Int32) (sz : Nat) : vx_Met l yX5_setHours (Cond.code yX5_setHours cX5_setHours 5 (some .boolean) :: TB) ({ frames := 12, cells := 1, slots := 6, locals := 500 } : Room) (PXw [.ref P, .int p0, .int p1, .int p2, .int p3] (dC, dI) [(P, .inr (5, [.ref F, .ref G, .ref T, .ref za, .ref (ia 0), .ref (ia 1), .ref (ia 2), .int 0, .int bg])), (F, .inr (0, [.ref (fa 0), .ref (fa 1), .ref (fa 2), .ref (fa 3), .ref (fa 4), .ref (fa 5), .ref (fa 6), .ref (fa 7), .ref (fa 8), .int 0, .int 0, .int ck]))] (TYP cI cV cJ cL) sz) (va_Qi (fun (_ : Int32) (_ : Unit) => False) (QB (dC, dI) (fun (_ : Unit) => []) (TYP cI cV cJ cL) (va_A [(P, .inr (5, [.ref F, .ref G, .ref T, .ref za, .ref (ia 0), .ref (ia 1), .ref (ia 2), .int 0, .int bg])), (F, .inr (0, [.ref (fa 0), .ref (fa 1), .ref (fa 2), .ref (fa 3), .ref (fa 4), .ref (fa 5), .ref (fa 6), .ref (fa 7), .ref (fa 8), .int 0, .int 0, .int ck]))] sz)) (va_A [(P, .inr (5, [.ref F, .ref G, .ref T, .ref za, .ref (ia 0), .ref (ia 1), .ref (ia 2), .int 0, .int bg])), (F, .inr (0, [.ref (fa 0), .ref (fa 1), .ref (fa 2), .ref (fa 3), .ref (fa 4), .ref (fa 5), .ref (fa 6), .ref (fa 7), .ref (fa 8), .int 0, .int 0, .int ck]))] sz)) (vx_X (fun (q : String × Unit) => q.1 = "java/lang/IndexOutOfBoundsException") (fun E (u : String × Unit) t8 => E = u.1 ∧ QB (dC, dI) (fun (_ : Unit) => [(P, .inr (5, [.ref F, .ref G, .ref T, .ref za, .ref (ia 0), .ref (ia 1), .ref (ia 2), .int 0, .int bg])), (F, .inr (0, [.ref (fa 0), .ref (fa 1), .ref (fa 2), .ref (fa 3), .ref (fa 4), .ref (fa 5), .ref (fa 6), .ref (fa 7), .ref (fa 8), .int 0, .int 0, .int ck]))]) (TYP cI cV cJ cL) (va_A [(P, .inr (5, [.ref F, .ref G, .ref T, .ref za, .ref (ia 0), .ref (ia 1), .ref (ia 2), .int 0, .int bg])), (F, .inr (0, [.ref (fa 0), .ref (fa 1), .ref (fa 2), .ref (fa 3), .ref (fa 4), .ref (fa 5), .ref (fa 6), .ref (fa 7), .ref (fa 8), .int 0, .int 0, .int ck]))] sz) u.2 t8) (va_A [(P, .inr (5, [.ref F, .ref G, .ref T, .ref za, .ref (ia 0), .ref (ia 1), .ref (ia 2), .int 0, .int bg])), (F, .inr (0, [.ref (fa 0), .ref (fa 1), .ref (fa 2), .ref (fa 3), .ref (fa 4), .ref (fa 5), .ref (fa 6), .ref (fa 7), .ref (fa 8), .int 0, .int 0, .int ck]))] sz)) 1 6 (va_A [(P, .inr (5, [.ref F, .ref G, .ref T, .ref za, .ref (ia 0), .ref (ia 1), .ref (ia 2), .int 0, .int bg])), (F, .inr (0, [.ref (fa 0), .ref (fa 1), .ref (fa 2), .ref (fa 3), .ref (fa 4), .ref (fa 5), .ref (fa 6), .ref (fa 7), .ref (fa 8), .int 0, .int 0, .int ck]))] sz) := by
  refine vx_ofW (cc := cX5_setHours) (maxL := 5) (ret := (some .boolean)) (by decide) rfl ?_
  intro p e s m args below meth c s₁ B hml htb hv
  obtain ⟨rfl, hsz, hP, hK, hD0, hN, hXs, hZs⟩ := hv
  have hx := B.exec
  have hb := B.bytes
  have hr := B.returns
  have hts := atoms_spec (ws := (Cond.code yX5_setHours cX5_setHours 5 (some .boolean) :: TB)) B.pre
  have hown : s.vm.findClass RX5 = some m.cls := findClass_of_methodNamed B.named
  have hlocks := B.notSynchronized
  subst hsz
  have hD := hD0.self (sz := s.heap.size)
  generalize hAe : va_A [(P, .inr (5, [.ref F, .ref G, .ref T, .ref za, .ref (ia 0), .ref (ia 1), .ref (ia 2), .int 0, .int bg])), (F, .inr (0, [.ref (fa 0), .ref (fa 1), .ref (fa 2), .ref (fa 3), .ref (fa 4), .ref (fa 5), .ref (fa 6), .ref (fa 7), .ref (fa 8), .int 0, .int 0, .int ck]))] s.heap.size = A at hD hZs ⊢
  have hA : ∀ q : Nat, s.heap.size ≤ q → A q := fun q h => by rw [← hAe]; exact Or.inr h
  have hS : va_S A s.heap s.heap [] := va_S.rf
  have hl := lv_entry ([.ref P, .int p0, .int p1, .int p2, .int p3]) (n := 5) (Nat.le_of_ble_eq_true rfl)
  rw [lg_entry_eq]
  generalize (lg_sl ([.ref P, .int p0, .int p1, .int p2, .int p3]) ++ List.replicate (5 - (lg_sl ([.ref P, .int p0, .int p1, .int p2, .int p3])).length) Slot.unset).toArray = ls at hl ⊢
  have hl : lv_has ls 5 [(0, .ref P), (1, .int p0), (2, .int p1), (3, .int p2), (4, .int p3)] := hl
  refine lv_aload_n hx hb dX5_setHours_0 rfl (lv_at hl 0 rfl) ?_
  refine lv_iload_n hx hb dX5_setHours_1 rfl (lv_at hl 1 rfl) ?_
  refine k_Xv (ci := 5) (q0 := 0) [.int p0] [0, 1] ⟨hx, hb, hml, hown, hts⟩ (fun sz => c_X5_checkJob l hlT dC dI cI cV cJ cL P F G T za fa ia bg ck p0 sz) q_ml_X5_120 q_im_X5_checkJob q_se_X5_checkJob q_ini_X5 q_co_X5_checkJob (n := 1) (by decide +kernel) rfl ⟨rfl, rfl⟩ ⟨Nat.le_of_ble_eq_true rfl, Nat.le_of_ble_eq_true rfl⟩ hP hS hA hK hN hXs hZs rfl rfl rfl rfl hl.1 rfl (Nat.le_of_ble_eq_true rfl) dX5_setHours_2 ⟨Nat.le_of_ble_eq_true rfl, Nat.le_of_ble_eq_true rfl⟩ (fun E ce q9 H locs hpx hP hS hc1 hc2 hc3 => ?_) (fun H locs hpo hP hS => ?_)
  · exact vx_out (fun x h => (htb x h).elim) hlocks hc1 hc2 hc3 (fun t8 ht9 hW9 => ⟨(E, ()), hpx, ⟨rfl, by rw [ht9]; exact hP, va_K.moved hW9 hK, hD⟩, hS.F ht9⟩) hS.2.2 (Nat.le_of_ble_eq_true rfl) (Nat.le_of_ble_eq_true rfl)
  have ho_1 := hpo
  have hP : va_P (dC, dI) cls [(P, .inr (5, [.ref F, .ref G, .ref T, .ref za, .ref (ia 0), .ref (ia 1), .ref (ia 2), .int 0, .int bg])), (F, .inr (0, [.ref (fa 0), .ref (fa 1), .ref (fa 2), .ref (fa 3), .ref (fa 4), .ref (fa 5), .ref (fa 6), .ref (fa 7), .ref (fa 8), .int 0, .int 0, .int ck]))] H := hP
  have hD : va_D A [(P, .inr (5, [.ref F, .ref G, .ref T, .ref za, .ref (ia 0), .ref (ia 1), .ref (ia 2), .int 0, .int bg])), (F, .inr (0, [.ref (fa 0), .ref (fa 1), .ref (fa 2), .ref (fa 3), .ref (fa 4), .ref (fa 5), .ref (fa 6), .ref (fa 7), .ref (fa 8), .int 0, .int 0, .int ck]))] := hD
  exact ho_1.elim
set_option maxHeartbeats 4000000 in
set_option maxRecDepth 100000 in
theorem c_X5_insert (l : Launch) (hlT : l.stackTraces = false) (dC : Nat → ClassId) (dI : Nat → Nat → Nat) (cI cV cJ cL : ClassId) (P F G T za : Nat) (fa ia : Nat → Nat) (bg ck : Int32) (p0 : Int32) (sz : Nat) : vx_Met l yX5_insert (Cond.code yX5_insert cX5_insert 2 (some .int) :: TB) ({ frames := 12, cells := 1, slots := 6, locals := 500 } : Room) (PXw [.ref P, .int p0] (dC, dI) [(P, .inr (5, [.ref F, .ref G, .ref T, .ref za, .ref (ia 0), .ref (ia 1), .ref (ia 2), .int 0, .int bg])), (F, .inr (0, [.ref (fa 0), .ref (fa 1), .ref (fa 2), .ref (fa 3), .ref (fa 4), .ref (fa 5), .ref (fa 6), .ref (fa 7), .ref (fa 8), .int 0, .int 0, .int ck]))] (TYP cI cV cJ cL) sz) (va_Qi (fun (_ : Int32) (_ : Unit) => False) (QB (dC, dI) (fun (_ : Unit) => []) (TYP cI cV cJ cL) (va_A [(P, .inr (5, [.ref F, .ref G, .ref T, .ref za, .ref (ia 0), .ref (ia 1), .ref (ia 2), .int 0, .int bg])), (F, .inr (0, [.ref (fa 0), .ref (fa 1), .ref (fa 2), .ref (fa 3), .ref (fa 4), .ref (fa 5), .ref (fa 6), .ref (fa 7), .ref (fa 8), .int 0, .int 0, .int ck]))] sz)) (va_A [(P, .inr (5, [.ref F, .ref G, .ref T, .ref za, .ref (ia 0), .ref (ia 1), .ref (ia 2), .int 0, .int bg])), (F, .inr (0, [.ref (fa 0), .ref (fa 1), .ref (fa 2), .ref (fa 3), .ref (fa 4), .ref (fa 5), .ref (fa 6), .ref (fa 7), .ref (fa 8), .int 0, .int 0, .int ck]))] sz)) (vx_X (fun (q : String × Unit) => q.1 = "java/lang/IndexOutOfBoundsException") (fun E (u : String × Unit) t8 => E = u.1 ∧ QB (dC, dI) (fun (_ : Unit) => [(P, .inr (5, [.ref F, .ref G, .ref T, .ref za, .ref (ia 0), .ref (ia 1), .ref (ia 2), .int 0, .int bg])), (F, .inr (0, [.ref (fa 0), .ref (fa 1), .ref (fa 2), .ref (fa 3), .ref (fa 4), .ref (fa 5), .ref (fa 6), .ref (fa 7), .ref (fa 8), .int 0, .int 0, .int ck]))]) (TYP cI cV cJ cL) (va_A [(P, .inr (5, [.ref F, .ref G, .ref T, .ref za, .ref (ia 0), .ref (ia 1), .ref (ia 2), .int 0, .int bg])), (F, .inr (0, [.ref (fa 0), .ref (fa 1), .ref (fa 2), .ref (fa 3), .ref (fa 4), .ref (fa 5), .ref (fa 6), .ref (fa 7), .ref (fa 8), .int 0, .int 0, .int ck]))] sz) u.2 t8) (va_A [(P, .inr (5, [.ref F, .ref G, .ref T, .ref za, .ref (ia 0), .ref (ia 1), .ref (ia 2), .int 0, .int bg])), (F, .inr (0, [.ref (fa 0), .ref (fa 1), .ref (fa 2), .ref (fa 3), .ref (fa 4), .ref (fa 5), .ref (fa 6), .ref (fa 7), .ref (fa 8), .int 0, .int 0, .int ck]))] sz)) 1 6 (va_A [(P, .inr (5, [.ref F, .ref G, .ref T, .ref za, .ref (ia 0), .ref (ia 1), .ref (ia 2), .int 0, .int bg])), (F, .inr (0, [.ref (fa 0), .ref (fa 1), .ref (fa 2), .ref (fa 3), .ref (fa 4), .ref (fa 5), .ref (fa 6), .ref (fa 7), .ref (fa 8), .int 0, .int 0, .int ck]))] sz) := by
  refine vx_ofW (cc := cX5_insert) (maxL := 2) (ret := (some .int)) (by decide) rfl ?_
  intro p e s m args below meth c s₁ B hml htb hv
  obtain ⟨rfl, hsz, hP, hK, hD0, hN, hXs, hZs⟩ := hv
  have hx := B.exec
  have hb := B.bytes
  have hr := B.returns
  have hts := atoms_spec (ws := (Cond.code yX5_insert cX5_insert 2 (some .int) :: TB)) B.pre
  have hown : s.vm.findClass RX5 = some m.cls := findClass_of_methodNamed B.named
  have hlocks := B.notSynchronized
  subst hsz
  have hD := hD0.self (sz := s.heap.size)
  generalize hAe : va_A [(P, .inr (5, [.ref F, .ref G, .ref T, .ref za, .ref (ia 0), .ref (ia 1), .ref (ia 2), .int 0, .int bg])), (F, .inr (0, [.ref (fa 0), .ref (fa 1), .ref (fa 2), .ref (fa 3), .ref (fa 4), .ref (fa 5), .ref (fa 6), .ref (fa 7), .ref (fa 8), .int 0, .int 0, .int ck]))] s.heap.size = A at hD hZs ⊢
  have hA : ∀ q : Nat, s.heap.size ≤ q → A q := fun q h => by rw [← hAe]; exact Or.inr h
  have hS : va_S A s.heap s.heap [] := va_S.rf
  have hl := lv_entry ([.ref P, .int p0]) (n := 2) (Nat.le_of_ble_eq_true rfl)
  rw [lg_entry_eq]
  generalize (lg_sl ([.ref P, .int p0]) ++ List.replicate (2 - (lg_sl ([.ref P, .int p0])).length) Slot.unset).toArray = ls at hl ⊢
  have hl : lv_has ls 2 [(0, .ref P), (1, .int p0)] := hl
  refine lv_aload_n hx hb dX5_insert_0 rfl (lv_at hl 0 rfl) ?_
  refine lv_iload_n hx hb dX5_insert_1 rfl (lv_at hl 1 rfl) ?_
  refine k_Xv (ci := 5) (q0 := 0) [.int p0] [0, 1] ⟨hx, hb, hml, hown, hts⟩ (fun sz => c_X5_checkJob l hlT dC dI cI cV cJ cL P F G T za fa ia bg ck p0 sz) q_ml_X5_120 q_im_X5_checkJob q_se_X5_checkJob q_ini_X5 q_co_X5_checkJob (n := 1) (by decide +kernel) rfl ⟨rfl, rfl⟩ ⟨Nat.le_of_ble_eq_true rfl, Nat.le_of_ble_eq_true rfl⟩ hP hS hA hK hN hXs hZs rfl rfl rfl rfl hl.1 rfl (Nat.le_of_ble_eq_true rfl) dX5_insert_2 ⟨Nat.le_of_ble_eq_true rfl, Nat.le_of_ble_eq_true rfl⟩ (fun E ce q9 H locs hpx hP hS hc1 hc2 hc3 => ?_) (fun H locs hpo hP hS => ?_)
  · exact vx_out (fun x h => (htb x h).elim) hlocks hc1 hc2 hc3 (fun t8 ht9 hW9 => ⟨(E, ()), hpx, ⟨rfl, by rw [ht9]; exact hP, va_K.moved hW9 hK, hD⟩, hS.F ht9⟩) hS.2.2 (Nat.le_of_ble_eq_true rfl) (Nat.le_of_ble_eq_true rfl)
  have ho_1 := hpo
  have hP : va_P (dC, dI) cls [(P, .inr (5, [.ref F, .ref G, .ref T, .ref za, .ref (ia 0), .ref (ia 1), .ref (ia 2), .int 0, .int bg])), (F, .inr (0, [.ref (fa 0), .ref (fa 1), .ref (fa 2), .ref (fa 3), .ref (fa 4), .ref (fa 5), .ref (fa 6), .ref (fa 7), .ref (fa 8), .int 0, .int 0, .int ck]))] H := hP
  have hD : va_D A [(P, .inr (5, [.ref F, .ref G, .ref T, .ref za, .ref (ia 0), .ref (ia 1), .ref (ia 2), .int 0, .int bg])), (F, .inr (0, [.ref (fa 0), .ref (fa 1), .ref (fa 2), .ref (fa 3), .ref (fa 4), .ref (fa 5), .ref (fa 6), .ref (fa 7), .ref (fa 8), .int 0, .int 0, .int ck]))] := hD
  exact ho_1.elim
set_option maxHeartbeats 4000000 in
set_option maxRecDepth 100000 in
theorem c_X5_insertAt (l : Launch) (hlT : l.stackTraces = false) (dC : Nat → ClassId) (dI : Nat → Nat → Nat) (cI cV cJ cL : ClassId) (P F G T za : Nat) (fa ia : Nat → Nat) (bg ck : Int32) (p0 p1 p2 p3 : Int32) (sz : Nat) : vx_Met l yX5_insertAt (Cond.code yX5_insertAt cX5_insertAt 7 (some .int) :: TB) ({ frames := 12, cells := 1, slots := 6, locals := 500 } : Room) (PXw [.ref P, .int p0, .int p1, .int p2, .int p3] (dC, dI) [(P, .inr (5, [.ref F, .ref G, .ref T, .ref za, .ref (ia 0), .ref (ia 1), .ref (ia 2), .int 0, .int bg])), (F, .inr (0, [.ref (fa 0), .ref (fa 1), .ref (fa 2), .ref (fa 3), .ref (fa 4), .ref (fa 5), .ref (fa 6), .ref (fa 7), .ref (fa 8), .int 0, .int 0, .int ck]))] (TYP cI cV cJ cL) sz) (va_Qi (fun (_ : Int32) (_ : Unit) => False) (QB (dC, dI) (fun (_ : Unit) => []) (TYP cI cV cJ cL) (va_A [(P, .inr (5, [.ref F, .ref G, .ref T, .ref za, .ref (ia 0), .ref (ia 1), .ref (ia 2), .int 0, .int bg])), (F, .inr (0, [.ref (fa 0), .ref (fa 1), .ref (fa 2), .ref (fa 3), .ref (fa 4), .ref (fa 5), .ref (fa 6), .ref (fa 7), .ref (fa 8), .int 0, .int 0, .int ck]))] sz)) (va_A [(P, .inr (5, [.ref F, .ref G, .ref T, .ref za, .ref (ia 0), .ref (ia 1), .ref (ia 2), .int 0, .int bg])), (F, .inr (0, [.ref (fa 0), .ref (fa 1), .ref (fa 2), .ref (fa 3), .ref (fa 4), .ref (fa 5), .ref (fa 6), .ref (fa 7), .ref (fa 8), .int 0, .int 0, .int ck]))] sz)) (vx_X (fun (q : String × Unit) => q.1 = "java/lang/IndexOutOfBoundsException") (fun E (u : String × Unit) t8 => E = u.1 ∧ QB (dC, dI) (fun (_ : Unit) => [(P, .inr (5, [.ref F, .ref G, .ref T, .ref za, .ref (ia 0), .ref (ia 1), .ref (ia 2), .int 0, .int bg])), (F, .inr (0, [.ref (fa 0), .ref (fa 1), .ref (fa 2), .ref (fa 3), .ref (fa 4), .ref (fa 5), .ref (fa 6), .ref (fa 7), .ref (fa 8), .int 0, .int 0, .int ck]))]) (TYP cI cV cJ cL) (va_A [(P, .inr (5, [.ref F, .ref G, .ref T, .ref za, .ref (ia 0), .ref (ia 1), .ref (ia 2), .int 0, .int bg])), (F, .inr (0, [.ref (fa 0), .ref (fa 1), .ref (fa 2), .ref (fa 3), .ref (fa 4), .ref (fa 5), .ref (fa 6), .ref (fa 7), .ref (fa 8), .int 0, .int 0, .int ck]))] sz) u.2 t8) (va_A [(P, .inr (5, [.ref F, .ref G, .ref T, .ref za, .ref (ia 0), .ref (ia 1), .ref (ia 2), .int 0, .int bg])), (F, .inr (0, [.ref (fa 0), .ref (fa 1), .ref (fa 2), .ref (fa 3), .ref (fa 4), .ref (fa 5), .ref (fa 6), .ref (fa 7), .ref (fa 8), .int 0, .int 0, .int ck]))] sz)) 1 6 (va_A [(P, .inr (5, [.ref F, .ref G, .ref T, .ref za, .ref (ia 0), .ref (ia 1), .ref (ia 2), .int 0, .int bg])), (F, .inr (0, [.ref (fa 0), .ref (fa 1), .ref (fa 2), .ref (fa 3), .ref (fa 4), .ref (fa 5), .ref (fa 6), .ref (fa 7), .ref (fa 8), .int 0, .int 0, .int ck]))] sz) := by
  refine vx_ofW (cc := cX5_insertAt) (maxL := 7) (ret := (some .int)) (by decide) rfl ?_
  intro p e s m args below meth c s₁ B hml htb hv
  obtain ⟨rfl, hsz, hP, hK, hD0, hN, hXs, hZs⟩ := hv
  have hx := B.exec
  have hb := B.bytes
  have hr := B.returns
  have hts := atoms_spec (ws := (Cond.code yX5_insertAt cX5_insertAt 7 (some .int) :: TB)) B.pre
  have hown : s.vm.findClass RX5 = some m.cls := findClass_of_methodNamed B.named
  have hlocks := B.notSynchronized
  subst hsz
  have hD := hD0.self (sz := s.heap.size)
  generalize hAe : va_A [(P, .inr (5, [.ref F, .ref G, .ref T, .ref za, .ref (ia 0), .ref (ia 1), .ref (ia 2), .int 0, .int bg])), (F, .inr (0, [.ref (fa 0), .ref (fa 1), .ref (fa 2), .ref (fa 3), .ref (fa 4), .ref (fa 5), .ref (fa 6), .ref (fa 7), .ref (fa 8), .int 0, .int 0, .int ck]))] s.heap.size = A at hD hZs ⊢
  have hA : ∀ q : Nat, s.heap.size ≤ q → A q := fun q h => by rw [← hAe]; exact Or.inr h
  have hS : va_S A s.heap s.heap [] := va_S.rf
  have hl := lv_entry ([.ref P, .int p0, .int p1, .int p2, .int p3]) (n := 7) (Nat.le_of_ble_eq_true rfl)
  rw [lg_entry_eq]
  generalize (lg_sl ([.ref P, .int p0, .int p1, .int p2, .int p3]) ++ List.replicate (7 - (lg_sl ([.ref P, .int p0, .int p1, .int p2, .int p3])).length) Slot.unset).toArray = ls at hl ⊢
  have hl : lv_has ls 7 [(0, .ref P), (1, .int p0), (2, .int p1), (3, .int p2), (4, .int p3)] := hl
  refine lv_aload_n hx hb dX5_insertAt_0 rfl (lv_at hl 0 rfl) ?_
  refine lv_iload_n hx hb dX5_insertAt_1 rfl (lv_at hl 1 rfl) ?_
  refine k_Xv (ci := 5) (q0 := 0) [.int p0] [0, 1] ⟨hx, hb, hml, hown, hts⟩ (fun sz => c_X5_checkJob l hlT dC dI cI cV cJ cL P F G T za fa ia bg ck p0 sz) q_ml_X5_120 q_im_X5_checkJob q_se_X5_checkJob q_ini_X5 q_co_X5_checkJob (n := 1) (by decide +kernel) rfl ⟨rfl, rfl⟩ ⟨Nat.le_of_ble_eq_true rfl, Nat.le_of_ble_eq_true rfl⟩ hP hS hA hK hN hXs hZs rfl rfl rfl rfl hl.1 rfl (Nat.le_of_ble_eq_true rfl) dX5_insertAt_2 ⟨Nat.le_of_ble_eq_true rfl, Nat.le_of_ble_eq_true rfl⟩ (fun E ce q9 H locs hpx hP hS hc1 hc2 hc3 => ?_) (fun H locs hpo hP hS => ?_)
  · exact vx_out (fun x h => (htb x h).elim) hlocks hc1 hc2 hc3 (fun t8 ht9 hW9 => ⟨(E, ()), hpx, ⟨rfl, by rw [ht9]; exact hP, va_K.moved hW9 hK, hD⟩, hS.F ht9⟩) hS.2.2 (Nat.le_of_ble_eq_true rfl) (Nat.le_of_ble_eq_true rfl)
  have ho_1 := hpo
  have hP : va_P (dC, dI) cls [(P, .inr (5, [.ref F, .ref G, .ref T, .ref za, .ref (ia 0), .ref (ia 1), .ref (ia 2), .int 0, .int bg])), (F, .inr (0, [.ref (fa 0), .ref (fa 1), .ref (fa 2), .ref (fa 3), .ref (fa 4), .ref (fa 5), .ref (fa 6), .ref (fa 7), .ref (fa 8), .int 0, .int 0, .int ck]))] H := hP
  have hD : va_D A [(P, .inr (5, [.ref F, .ref G, .ref T, .ref za, .ref (ia 0), .ref (ia 1), .ref (ia 2), .int 0, .int bg])), (F, .inr (0, [.ref (fa 0), .ref (fa 1), .ref (fa 2), .ref (fa 3), .ref (fa 4), .ref (fa 5), .ref (fa 6), .ref (fa 7), .ref (fa 8), .int 0, .int 0, .int ck]))] := hD
  exact ho_1.elim
set_option maxHeartbeats 4000000 in
set_option maxRecDepth 100000 in
theorem c_X5_take (l : Launch) (hlT : l.stackTraces = false) (dC : Nat → ClassId) (dI : Nat → Nat → Nat) (cI cV cJ cL : ClassId) (P F G T za : Nat) (fa ia : Nat → Nat) (bg ck : Int32) (p0 : Int32) (sz : Nat) : vx_Met l yX5_take (Cond.code yX5_take cX5_take 3 (some .int) :: TB) ({ frames := 12, cells := 1, slots := 6, locals := 500 } : Room) (PXw [.ref P, .int p0] (dC, dI) [(P, .inr (5, [.ref F, .ref G, .ref T, .ref za, .ref (ia 0), .ref (ia 1), .ref (ia 2), .int 0, .int bg])), (F, .inr (0, [.ref (fa 0), .ref (fa 1), .ref (fa 2), .ref (fa 3), .ref (fa 4), .ref (fa 5), .ref (fa 6), .ref (fa 7), .ref (fa 8), .int 0, .int 0, .int ck]))] (TYP cI cV cJ cL) sz) (va_Qi (fun (_ : Int32) (_ : Unit) => False) (QB (dC, dI) (fun (_ : Unit) => []) (TYP cI cV cJ cL) (va_A [(P, .inr (5, [.ref F, .ref G, .ref T, .ref za, .ref (ia 0), .ref (ia 1), .ref (ia 2), .int 0, .int bg])), (F, .inr (0, [.ref (fa 0), .ref (fa 1), .ref (fa 2), .ref (fa 3), .ref (fa 4), .ref (fa 5), .ref (fa 6), .ref (fa 7), .ref (fa 8), .int 0, .int 0, .int ck]))] sz)) (va_A [(P, .inr (5, [.ref F, .ref G, .ref T, .ref za, .ref (ia 0), .ref (ia 1), .ref (ia 2), .int 0, .int bg])), (F, .inr (0, [.ref (fa 0), .ref (fa 1), .ref (fa 2), .ref (fa 3), .ref (fa 4), .ref (fa 5), .ref (fa 6), .ref (fa 7), .ref (fa 8), .int 0, .int 0, .int ck]))] sz)) (vx_X (fun (q : String × Unit) => q.1 = "java/lang/IndexOutOfBoundsException") (fun E (u : String × Unit) t8 => E = u.1 ∧ QB (dC, dI) (fun (_ : Unit) => [(P, .inr (5, [.ref F, .ref G, .ref T, .ref za, .ref (ia 0), .ref (ia 1), .ref (ia 2), .int 0, .int bg])), (F, .inr (0, [.ref (fa 0), .ref (fa 1), .ref (fa 2), .ref (fa 3), .ref (fa 4), .ref (fa 5), .ref (fa 6), .ref (fa 7), .ref (fa 8), .int 0, .int 0, .int ck]))]) (TYP cI cV cJ cL) (va_A [(P, .inr (5, [.ref F, .ref G, .ref T, .ref za, .ref (ia 0), .ref (ia 1), .ref (ia 2), .int 0, .int bg])), (F, .inr (0, [.ref (fa 0), .ref (fa 1), .ref (fa 2), .ref (fa 3), .ref (fa 4), .ref (fa 5), .ref (fa 6), .ref (fa 7), .ref (fa 8), .int 0, .int 0, .int ck]))] sz) u.2 t8) (va_A [(P, .inr (5, [.ref F, .ref G, .ref T, .ref za, .ref (ia 0), .ref (ia 1), .ref (ia 2), .int 0, .int bg])), (F, .inr (0, [.ref (fa 0), .ref (fa 1), .ref (fa 2), .ref (fa 3), .ref (fa 4), .ref (fa 5), .ref (fa 6), .ref (fa 7), .ref (fa 8), .int 0, .int 0, .int ck]))] sz)) 1 6 (va_A [(P, .inr (5, [.ref F, .ref G, .ref T, .ref za, .ref (ia 0), .ref (ia 1), .ref (ia 2), .int 0, .int bg])), (F, .inr (0, [.ref (fa 0), .ref (fa 1), .ref (fa 2), .ref (fa 3), .ref (fa 4), .ref (fa 5), .ref (fa 6), .ref (fa 7), .ref (fa 8), .int 0, .int 0, .int ck]))] sz) := by
  refine vx_ofW (cc := cX5_take) (maxL := 3) (ret := (some .int)) (by decide) rfl ?_
  intro p e s m args below meth c s₁ B hml htb hv
  obtain ⟨rfl, hsz, hP, hK, hD0, hN, hXs, hZs⟩ := hv
  have hx := B.exec
  have hb := B.bytes
  have hr := B.returns
  have hts := atoms_spec (ws := (Cond.code yX5_take cX5_take 3 (some .int) :: TB)) B.pre
  have hown : s.vm.findClass RX5 = some m.cls := findClass_of_methodNamed B.named
  have hlocks := B.notSynchronized
  subst hsz
  have hD := hD0.self (sz := s.heap.size)
  generalize hAe : va_A [(P, .inr (5, [.ref F, .ref G, .ref T, .ref za, .ref (ia 0), .ref (ia 1), .ref (ia 2), .int 0, .int bg])), (F, .inr (0, [.ref (fa 0), .ref (fa 1), .ref (fa 2), .ref (fa 3), .ref (fa 4), .ref (fa 5), .ref (fa 6), .ref (fa 7), .ref (fa 8), .int 0, .int 0, .int ck]))] s.heap.size = A at hD hZs ⊢
  have hA : ∀ q : Nat, s.heap.size ≤ q → A q := fun q h => by rw [← hAe]; exact Or.inr h
  have hS : va_S A s.heap s.heap [] := va_S.rf
  have hl := lv_entry ([.ref P, .int p0]) (n := 3) (Nat.le_of_ble_eq_true rfl)
  rw [lg_entry_eq]
  generalize (lg_sl ([.ref P, .int p0]) ++ List.replicate (3 - (lg_sl ([.ref P, .int p0])).length) Slot.unset).toArray = ls at hl ⊢
  have hl : lv_has ls 3 [(0, .ref P), (1, .int p0)] := hl
  refine lv_aload_n hx hb dX5_take_0 rfl (lv_at hl 0 rfl) ?_
  refine lv_iload_n hx hb dX5_take_1 rfl (lv_at hl 1 rfl) ?_
  refine k_Xv (ci := 5) (q0 := 0) [.int p0] [0, 1] ⟨hx, hb, hml, hown, hts⟩ (fun sz => c_X5_checkJob l hlT dC dI cI cV cJ cL P F G T za fa ia bg ck p0 sz) q_ml_X5_120 q_im_X5_checkJob q_se_X5_checkJob q_ini_X5 q_co_X5_checkJob (n := 1) (by decide +kernel) rfl ⟨rfl, rfl⟩ ⟨Nat.le_of_ble_eq_true rfl, Nat.le_of_ble_eq_true rfl⟩ hP hS hA hK hN hXs hZs rfl rfl rfl rfl hl.1 rfl (Nat.le_of_ble_eq_true rfl) dX5_take_2 ⟨Nat.le_of_ble_eq_true rfl, Nat.le_of_ble_eq_true rfl⟩ (fun E ce q9 H locs hpx hP hS hc1 hc2 hc3 => ?_) (fun H locs hpo hP hS => ?_)
  · exact vx_out (fun x h => (htb x h).elim) hlocks hc1 hc2 hc3 (fun t8 ht9 hW9 => ⟨(E, ()), hpx, ⟨rfl, by rw [ht9]; exact hP, va_K.moved hW9 hK, hD⟩, hS.F ht9⟩) hS.2.2 (Nat.le_of_ble_eq_true rfl) (Nat.le_of_ble_eq_true rfl)
  have ho_1 := hpo
  have hP : va_P (dC, dI) cls [(P, .inr (5, [.ref F, .ref G, .ref T, .ref za, .ref (ia 0), .ref (ia 1), .ref (ia 2), .int 0, .int bg])), (F, .inr (0, [.ref (fa 0), .ref (fa 1), .ref (fa 2), .ref (fa 3), .ref (fa 4), .ref (fa 5), .ref (fa 6), .ref (fa 7), .ref (fa 8), .int 0, .int 0, .int ck]))] H := hP
  have hD : va_D A [(P, .inr (5, [.ref F, .ref G, .ref T, .ref za, .ref (ia 0), .ref (ia 1), .ref (ia 2), .int 0, .int bg])), (F, .inr (0, [.ref (fa 0), .ref (fa 1), .ref (fa 2), .ref (fa 3), .ref (fa 4), .ref (fa 5), .ref (fa 6), .ref (fa 7), .ref (fa 8), .int 0, .int 0, .int ck]))] := hD
  exact ho_1.elim
set_option maxHeartbeats 4000000 in
set_option maxRecDepth 100000 in
theorem c_X5_vehicleOf (l : Launch) (hlT : l.stackTraces = false) (dC : Nat → ClassId) (dI : Nat → Nat → Nat) (cI cV cJ cL : ClassId) (P F G T za : Nat) (fa ia : Nat → Nat) (bg ck : Int32) (p0 : Int32) (sz : Nat) : vx_Met l yX5_vehicleOf (Cond.code yX5_vehicleOf cX5_vehicleOf 2 (some .int) :: TB) ({ frames := 12, cells := 1, slots := 6, locals := 500 } : Room) (PXw [.ref P, .int p0] (dC, dI) [(P, .inr (5, [.ref F, .ref G, .ref T, .ref za, .ref (ia 0), .ref (ia 1), .ref (ia 2), .int 0, .int bg])), (F, .inr (0, [.ref (fa 0), .ref (fa 1), .ref (fa 2), .ref (fa 3), .ref (fa 4), .ref (fa 5), .ref (fa 6), .ref (fa 7), .ref (fa 8), .int 0, .int 0, .int ck]))] (TYP cI cV cJ cL) sz) (va_Qi (fun (_ : Int32) (_ : Unit) => False) (QB (dC, dI) (fun (_ : Unit) => []) (TYP cI cV cJ cL) (va_A [(P, .inr (5, [.ref F, .ref G, .ref T, .ref za, .ref (ia 0), .ref (ia 1), .ref (ia 2), .int 0, .int bg])), (F, .inr (0, [.ref (fa 0), .ref (fa 1), .ref (fa 2), .ref (fa 3), .ref (fa 4), .ref (fa 5), .ref (fa 6), .ref (fa 7), .ref (fa 8), .int 0, .int 0, .int ck]))] sz)) (va_A [(P, .inr (5, [.ref F, .ref G, .ref T, .ref za, .ref (ia 0), .ref (ia 1), .ref (ia 2), .int 0, .int bg])), (F, .inr (0, [.ref (fa 0), .ref (fa 1), .ref (fa 2), .ref (fa 3), .ref (fa 4), .ref (fa 5), .ref (fa 6), .ref (fa 7), .ref (fa 8), .int 0, .int 0, .int ck]))] sz)) (vx_X (fun (q : String × Unit) => q.1 = "java/lang/IndexOutOfBoundsException") (fun E (u : String × Unit) t8 => E = u.1 ∧ QB (dC, dI) (fun (_ : Unit) => [(P, .inr (5, [.ref F, .ref G, .ref T, .ref za, .ref (ia 0), .ref (ia 1), .ref (ia 2), .int 0, .int bg])), (F, .inr (0, [.ref (fa 0), .ref (fa 1), .ref (fa 2), .ref (fa 3), .ref (fa 4), .ref (fa 5), .ref (fa 6), .ref (fa 7), .ref (fa 8), .int 0, .int 0, .int ck]))]) (TYP cI cV cJ cL) (va_A [(P, .inr (5, [.ref F, .ref G, .ref T, .ref za, .ref (ia 0), .ref (ia 1), .ref (ia 2), .int 0, .int bg])), (F, .inr (0, [.ref (fa 0), .ref (fa 1), .ref (fa 2), .ref (fa 3), .ref (fa 4), .ref (fa 5), .ref (fa 6), .ref (fa 7), .ref (fa 8), .int 0, .int 0, .int ck]))] sz) u.2 t8) (va_A [(P, .inr (5, [.ref F, .ref G, .ref T, .ref za, .ref (ia 0), .ref (ia 1), .ref (ia 2), .int 0, .int bg])), (F, .inr (0, [.ref (fa 0), .ref (fa 1), .ref (fa 2), .ref (fa 3), .ref (fa 4), .ref (fa 5), .ref (fa 6), .ref (fa 7), .ref (fa 8), .int 0, .int 0, .int ck]))] sz)) 1 6 (va_A [(P, .inr (5, [.ref F, .ref G, .ref T, .ref za, .ref (ia 0), .ref (ia 1), .ref (ia 2), .int 0, .int bg])), (F, .inr (0, [.ref (fa 0), .ref (fa 1), .ref (fa 2), .ref (fa 3), .ref (fa 4), .ref (fa 5), .ref (fa 6), .ref (fa 7), .ref (fa 8), .int 0, .int 0, .int ck]))] sz) := by
  refine vx_ofW (cc := cX5_vehicleOf) (maxL := 2) (ret := (some .int)) (by decide) rfl ?_
  intro p e s m args below meth c s₁ B hml htb hv
  obtain ⟨rfl, hsz, hP, hK, hD0, hN, hXs, hZs⟩ := hv
  have hx := B.exec
  have hb := B.bytes
  have hr := B.returns
  have hts := atoms_spec (ws := (Cond.code yX5_vehicleOf cX5_vehicleOf 2 (some .int) :: TB)) B.pre
  have hown : s.vm.findClass RX5 = some m.cls := findClass_of_methodNamed B.named
  have hlocks := B.notSynchronized
  subst hsz
  have hD := hD0.self (sz := s.heap.size)
  generalize hAe : va_A [(P, .inr (5, [.ref F, .ref G, .ref T, .ref za, .ref (ia 0), .ref (ia 1), .ref (ia 2), .int 0, .int bg])), (F, .inr (0, [.ref (fa 0), .ref (fa 1), .ref (fa 2), .ref (fa 3), .ref (fa 4), .ref (fa 5), .ref (fa 6), .ref (fa 7), .ref (fa 8), .int 0, .int 0, .int ck]))] s.heap.size = A at hD hZs ⊢
  have hA : ∀ q : Nat, s.heap.size ≤ q → A q := fun q h => by rw [← hAe]; exact Or.inr h
  have hS : va_S A s.heap s.heap [] := va_S.rf
  have hl := lv_entry ([.ref P, .int p0]) (n := 2) (Nat.le_of_ble_eq_true rfl)
  rw [lg_entry_eq]
  generalize (lg_sl ([.ref P, .int p0]) ++ List.replicate (2 - (lg_sl ([.ref P, .int p0])).length) Slot.unset).toArray = ls at hl ⊢
  have hl : lv_has ls 2 [(0, .ref P), (1, .int p0)] := hl
  refine lv_aload_n hx hb dX5_vehicleOf_0 rfl (lv_at hl 0 rfl) ?_
  refine lv_iload_n hx hb dX5_vehicleOf_1 rfl (lv_at hl 1 rfl) ?_
  refine k_Xv (ci := 5) (q0 := 0) [.int p0] [0, 1] ⟨hx, hb, hml, hown, hts⟩ (fun sz => c_X5_checkJob l hlT dC dI cI cV cJ cL P F G T za fa ia bg ck p0 sz) q_ml_X5_120 q_im_X5_checkJob q_se_X5_checkJob q_ini_X5 q_co_X5_checkJob (n := 1) (by decide +kernel) rfl ⟨rfl, rfl⟩ ⟨Nat.le_of_ble_eq_true rfl, Nat.le_of_ble_eq_true rfl⟩ hP hS hA hK hN hXs hZs rfl rfl rfl rfl hl.1 rfl (Nat.le_of_ble_eq_true rfl) dX5_vehicleOf_2 ⟨Nat.le_of_ble_eq_true rfl, Nat.le_of_ble_eq_true rfl⟩ (fun E ce q9 H locs hpx hP hS hc1 hc2 hc3 => ?_) (fun H locs hpo hP hS => ?_)
  · exact vx_out (fun x h => (htb x h).elim) hlocks hc1 hc2 hc3 (fun t8 ht9 hW9 => ⟨(E, ()), hpx, ⟨rfl, by rw [ht9]; exact hP, va_K.moved hW9 hK, hD⟩, hS.F ht9⟩) hS.2.2 (Nat.le_of_ble_eq_true rfl) (Nat.le_of_ble_eq_true rfl)
  have ho_1 := hpo
  have hP : va_P (dC, dI) cls [(P, .inr (5, [.ref F, .ref G, .ref T, .ref za, .ref (ia 0), .ref (ia 1), .ref (ia 2), .int 0, .int bg])), (F, .inr (0, [.ref (fa 0), .ref (fa 1), .ref (fa 2), .ref (fa 3), .ref (fa 4), .ref (fa 5), .ref (fa 6), .ref (fa 7), .ref (fa 8), .int 0, .int 0, .int ck]))] H := hP
  have hD : va_D A [(P, .inr (5, [.ref F, .ref G, .ref T, .ref za, .ref (ia 0), .ref (ia 1), .ref (ia 2), .int 0, .int bg])), (F, .inr (0, [.ref (fa 0), .ref (fa 1), .ref (fa 2), .ref (fa 3), .ref (fa 4), .ref (fa 5), .ref (fa 6), .ref (fa 7), .ref (fa 8), .int 0, .int 0, .int ck]))] := hD
  exact ho_1.elim
set_option maxHeartbeats 4000000 in
set_option maxRecDepth 100000 in
theorem c_X5_isSet (l : Launch) (hlT : l.stackTraces = false) (dC : Nat → ClassId) (dI : Nat → Nat → Nat) (cI cV cJ cL : ClassId) (P F G T za : Nat) (fa ia : Nat → Nat) (bg ck : Int32) (p0 : Int32) (sz : Nat) : vx_Met l yX5_isSet (Cond.code yX5_isSet cX5_isSet 2 (some .boolean) :: TB) ({ frames := 12, cells := 1, slots := 6, locals := 500 } : Room) (PXw [.ref P, .int p0] (dC, dI) [(P, .inr (5, [.ref F, .ref G, .ref T, .ref za, .ref (ia 0), .ref (ia 1), .ref (ia 2), .int 0, .int bg])), (F, .inr (0, [.ref (fa 0), .ref (fa 1), .ref (fa 2), .ref (fa 3), .ref (fa 4), .ref (fa 5), .ref (fa 6), .ref (fa 7), .ref (fa 8), .int 0, .int 0, .int ck]))] (TYP cI cV cJ cL) sz) (va_Qi (fun (_ : Int32) (_ : Unit) => False) (QB (dC, dI) (fun (_ : Unit) => []) (TYP cI cV cJ cL) (va_A [(P, .inr (5, [.ref F, .ref G, .ref T, .ref za, .ref (ia 0), .ref (ia 1), .ref (ia 2), .int 0, .int bg])), (F, .inr (0, [.ref (fa 0), .ref (fa 1), .ref (fa 2), .ref (fa 3), .ref (fa 4), .ref (fa 5), .ref (fa 6), .ref (fa 7), .ref (fa 8), .int 0, .int 0, .int ck]))] sz)) (va_A [(P, .inr (5, [.ref F, .ref G, .ref T, .ref za, .ref (ia 0), .ref (ia 1), .ref (ia 2), .int 0, .int bg])), (F, .inr (0, [.ref (fa 0), .ref (fa 1), .ref (fa 2), .ref (fa 3), .ref (fa 4), .ref (fa 5), .ref (fa 6), .ref (fa 7), .ref (fa 8), .int 0, .int 0, .int ck]))] sz)) (vx_X (fun (q : String × Unit) => q.1 = "java/lang/IndexOutOfBoundsException") (fun E (u : String × Unit) t8 => E = u.1 ∧ QB (dC, dI) (fun (_ : Unit) => [(P, .inr (5, [.ref F, .ref G, .ref T, .ref za, .ref (ia 0), .ref (ia 1), .ref (ia 2), .int 0, .int bg])), (F, .inr (0, [.ref (fa 0), .ref (fa 1), .ref (fa 2), .ref (fa 3), .ref (fa 4), .ref (fa 5), .ref (fa 6), .ref (fa 7), .ref (fa 8), .int 0, .int 0, .int ck]))]) (TYP cI cV cJ cL) (va_A [(P, .inr (5, [.ref F, .ref G, .ref T, .ref za, .ref (ia 0), .ref (ia 1), .ref (ia 2), .int 0, .int bg])), (F, .inr (0, [.ref (fa 0), .ref (fa 1), .ref (fa 2), .ref (fa 3), .ref (fa 4), .ref (fa 5), .ref (fa 6), .ref (fa 7), .ref (fa 8), .int 0, .int 0, .int ck]))] sz) u.2 t8) (va_A [(P, .inr (5, [.ref F, .ref G, .ref T, .ref za, .ref (ia 0), .ref (ia 1), .ref (ia 2), .int 0, .int bg])), (F, .inr (0, [.ref (fa 0), .ref (fa 1), .ref (fa 2), .ref (fa 3), .ref (fa 4), .ref (fa 5), .ref (fa 6), .ref (fa 7), .ref (fa 8), .int 0, .int 0, .int ck]))] sz)) 1 6 (va_A [(P, .inr (5, [.ref F, .ref G, .ref T, .ref za, .ref (ia 0), .ref (ia 1), .ref (ia 2), .int 0, .int bg])), (F, .inr (0, [.ref (fa 0), .ref (fa 1), .ref (fa 2), .ref (fa 3), .ref (fa 4), .ref (fa 5), .ref (fa 6), .ref (fa 7), .ref (fa 8), .int 0, .int 0, .int ck]))] sz) := by
  refine vx_ofW (cc := cX5_isSet) (maxL := 2) (ret := (some .boolean)) (by decide) rfl ?_
  intro p e s m args below meth c s₁ B hml htb hv
  obtain ⟨rfl, hsz, hP, hK, hD0, hN, hXs, hZs⟩ := hv
  have hx := B.exec
  have hb := B.bytes
  have hr := B.returns
  have hts := atoms_spec (ws := (Cond.code yX5_isSet cX5_isSet 2 (some .boolean) :: TB)) B.pre
  have hown : s.vm.findClass RX5 = some m.cls := findClass_of_methodNamed B.named
  have hlocks := B.notSynchronized
  subst hsz
  have hD := hD0.self (sz := s.heap.size)
  generalize hAe : va_A [(P, .inr (5, [.ref F, .ref G, .ref T, .ref za, .ref (ia 0), .ref (ia 1), .ref (ia 2), .int 0, .int bg])), (F, .inr (0, [.ref (fa 0), .ref (fa 1), .ref (fa 2), .ref (fa 3), .ref (fa 4), .ref (fa 5), .ref (fa 6), .ref (fa 7), .ref (fa 8), .int 0, .int 0, .int ck]))] s.heap.size = A at hD hZs ⊢
  have hA : ∀ q : Nat, s.heap.size ≤ q → A q := fun q h => by rw [← hAe]; exact Or.inr h
  have hS : va_S A s.heap s.heap [] := va_S.rf
  have hl := lv_entry ([.ref P, .int p0]) (n := 2) (Nat.le_of_ble_eq_true rfl)
  rw [lg_entry_eq]
  generalize (lg_sl ([.ref P, .int p0]) ++ List.replicate (2 - (lg_sl ([.ref P, .int p0])).length) Slot.unset).toArray = ls at hl ⊢
  have hl : lv_has ls 2 [(0, .ref P), (1, .int p0)] := hl
  refine lv_aload_n hx hb dX5_isSet_0 rfl (lv_at hl 0 rfl) ?_
  refine lv_iload_n hx hb dX5_isSet_1 rfl (lv_at hl 1 rfl) ?_
  refine k_Xv (ci := 5) (q0 := 0) [.int p0] [0, 1] ⟨hx, hb, hml, hown, hts⟩ (fun sz => c_X5_checkJob l hlT dC dI cI cV cJ cL P F G T za fa ia bg ck p0 sz) q_ml_X5_120 q_im_X5_checkJob q_se_X5_checkJob q_ini_X5 q_co_X5_checkJob (n := 1) (by decide +kernel) rfl ⟨rfl, rfl⟩ ⟨Nat.le_of_ble_eq_true rfl, Nat.le_of_ble_eq_true rfl⟩ hP hS hA hK hN hXs hZs rfl rfl rfl rfl hl.1 rfl (Nat.le_of_ble_eq_true rfl) dX5_isSet_2 ⟨Nat.le_of_ble_eq_true rfl, Nat.le_of_ble_eq_true rfl⟩ (fun E ce q9 H locs hpx hP hS hc1 hc2 hc3 => ?_) (fun H locs hpo hP hS => ?_)
  · exact vx_out (fun x h => (htb x h).elim) hlocks hc1 hc2 hc3 (fun t8 ht9 hW9 => ⟨(E, ()), hpx, ⟨rfl, by rw [ht9]; exact hP, va_K.moved hW9 hK, hD⟩, hS.F ht9⟩) hS.2.2 (Nat.le_of_ble_eq_true rfl) (Nat.le_of_ble_eq_true rfl)
  have ho_1 := hpo
  have hP : va_P (dC, dI) cls [(P, .inr (5, [.ref F, .ref G, .ref T, .ref za, .ref (ia 0), .ref (ia 1), .ref (ia 2), .int 0, .int bg])), (F, .inr (0, [.ref (fa 0), .ref (fa 1), .ref (fa 2), .ref (fa 3), .ref (fa 4), .ref (fa 5), .ref (fa 6), .ref (fa 7), .ref (fa 8), .int 0, .int 0, .int ck]))] H := hP
  have hD : va_D A [(P, .inr (5, [.ref F, .ref G, .ref T, .ref za, .ref (ia 0), .ref (ia 1), .ref (ia 2), .int 0, .int bg])), (F, .inr (0, [.ref (fa 0), .ref (fa 1), .ref (fa 2), .ref (fa 3), .ref (fa 4), .ref (fa 5), .ref (fa 6), .ref (fa 7), .ref (fa 8), .int 0, .int 0, .int ck]))] := hD
  exact ho_1.elim
set_option maxHeartbeats 4000000 in
set_option maxRecDepth 100000 in
theorem c_X5_wouldAdd (l : Launch) (hlT : l.stackTraces = false) (dC : Nat → ClassId) (dI : Nat → Nat → Nat) (cI cV cJ cL : ClassId) (P F G T za : Nat) (fa ia : Nat → Nat) (bg ck : Int32) (p0 p1 : Int32) (sz : Nat) : vx_Met l yX5_wouldAdd (Cond.code yX5_wouldAdd cX5_wouldAdd 4 (some .int) :: TB) ({ frames := 12, cells := 1, slots := 6, locals := 500 } : Room) (PXw [.ref P, .int p0, .int p1] (dC, dI) [(P, .inr (5, [.ref F, .ref G, .ref T, .ref za, .ref (ia 0), .ref (ia 1), .ref (ia 2), .int 0, .int bg])), (F, .inr (0, [.ref (fa 0), .ref (fa 1), .ref (fa 2), .ref (fa 3), .ref (fa 4), .ref (fa 5), .ref (fa 6), .ref (fa 7), .ref (fa 8), .int 0, .int 0, .int ck]))] (TYP cI cV cJ cL) sz) (va_Qi (fun (_ : Int32) (_ : Unit) => False) (QB (dC, dI) (fun (_ : Unit) => []) (TYP cI cV cJ cL) (va_A [(P, .inr (5, [.ref F, .ref G, .ref T, .ref za, .ref (ia 0), .ref (ia 1), .ref (ia 2), .int 0, .int bg])), (F, .inr (0, [.ref (fa 0), .ref (fa 1), .ref (fa 2), .ref (fa 3), .ref (fa 4), .ref (fa 5), .ref (fa 6), .ref (fa 7), .ref (fa 8), .int 0, .int 0, .int ck]))] sz)) (va_A [(P, .inr (5, [.ref F, .ref G, .ref T, .ref za, .ref (ia 0), .ref (ia 1), .ref (ia 2), .int 0, .int bg])), (F, .inr (0, [.ref (fa 0), .ref (fa 1), .ref (fa 2), .ref (fa 3), .ref (fa 4), .ref (fa 5), .ref (fa 6), .ref (fa 7), .ref (fa 8), .int 0, .int 0, .int ck]))] sz)) (vx_X (fun (q : String × Unit) => q.1 = "java/lang/IndexOutOfBoundsException") (fun E (u : String × Unit) t8 => E = u.1 ∧ QB (dC, dI) (fun (_ : Unit) => [(P, .inr (5, [.ref F, .ref G, .ref T, .ref za, .ref (ia 0), .ref (ia 1), .ref (ia 2), .int 0, .int bg])), (F, .inr (0, [.ref (fa 0), .ref (fa 1), .ref (fa 2), .ref (fa 3), .ref (fa 4), .ref (fa 5), .ref (fa 6), .ref (fa 7), .ref (fa 8), .int 0, .int 0, .int ck]))]) (TYP cI cV cJ cL) (va_A [(P, .inr (5, [.ref F, .ref G, .ref T, .ref za, .ref (ia 0), .ref (ia 1), .ref (ia 2), .int 0, .int bg])), (F, .inr (0, [.ref (fa 0), .ref (fa 1), .ref (fa 2), .ref (fa 3), .ref (fa 4), .ref (fa 5), .ref (fa 6), .ref (fa 7), .ref (fa 8), .int 0, .int 0, .int ck]))] sz) u.2 t8) (va_A [(P, .inr (5, [.ref F, .ref G, .ref T, .ref za, .ref (ia 0), .ref (ia 1), .ref (ia 2), .int 0, .int bg])), (F, .inr (0, [.ref (fa 0), .ref (fa 1), .ref (fa 2), .ref (fa 3), .ref (fa 4), .ref (fa 5), .ref (fa 6), .ref (fa 7), .ref (fa 8), .int 0, .int 0, .int ck]))] sz)) 1 6 (va_A [(P, .inr (5, [.ref F, .ref G, .ref T, .ref za, .ref (ia 0), .ref (ia 1), .ref (ia 2), .int 0, .int bg])), (F, .inr (0, [.ref (fa 0), .ref (fa 1), .ref (fa 2), .ref (fa 3), .ref (fa 4), .ref (fa 5), .ref (fa 6), .ref (fa 7), .ref (fa 8), .int 0, .int 0, .int ck]))] sz) := by
  refine vx_ofW (cc := cX5_wouldAdd) (maxL := 4) (ret := (some .int)) (by decide) rfl ?_
  intro p e s m args below meth c s₁ B hml htb hv
  obtain ⟨rfl, hsz, hP, hK, hD0, hN, hXs, hZs⟩ := hv
  have hx := B.exec
  have hb := B.bytes
  have hr := B.returns
  have hts := atoms_spec (ws := (Cond.code yX5_wouldAdd cX5_wouldAdd 4 (some .int) :: TB)) B.pre
  have hown : s.vm.findClass RX5 = some m.cls := findClass_of_methodNamed B.named
  have hlocks := B.notSynchronized
  subst hsz
  have hD := hD0.self (sz := s.heap.size)
  generalize hAe : va_A [(P, .inr (5, [.ref F, .ref G, .ref T, .ref za, .ref (ia 0), .ref (ia 1), .ref (ia 2), .int 0, .int bg])), (F, .inr (0, [.ref (fa 0), .ref (fa 1), .ref (fa 2), .ref (fa 3), .ref (fa 4), .ref (fa 5), .ref (fa 6), .ref (fa 7), .ref (fa 8), .int 0, .int 0, .int ck]))] s.heap.size = A at hD hZs ⊢
  have hA : ∀ q : Nat, s.heap.size ≤ q → A q := fun q h => by rw [← hAe]; exact Or.inr h
  have hS : va_S A s.heap s.heap [] := va_S.rf
  have hl := lv_entry ([.ref P, .int p0, .int p1]) (n := 4) (Nat.le_of_ble_eq_true rfl)
  rw [lg_entry_eq]
  generalize (lg_sl ([.ref P, .int p0, .int p1]) ++ List.replicate (4 - (lg_sl ([.ref P, .int p0, .int p1])).length) Slot.unset).toArray = ls at hl ⊢
  have hl : lv_has ls 4 [(0, .ref P), (1, .int p0), (2, .int p1)] := hl
  refine lv_aload_n hx hb dX5_wouldAdd_0 rfl (lv_at hl 0 rfl) ?_
  refine lv_iload_n hx hb dX5_wouldAdd_1 rfl (lv_at hl 1 rfl) ?_
  refine k_Xv (ci := 5) (q0 := 0) [.int p0] [0, 1] ⟨hx, hb, hml, hown, hts⟩ (fun sz => c_X5_checkJob l hlT dC dI cI cV cJ cL P F G T za fa ia bg ck p0 sz) q_ml_X5_120 q_im_X5_checkJob q_se_X5_checkJob q_ini_X5 q_co_X5_checkJob (n := 1) (by decide +kernel) rfl ⟨rfl, rfl⟩ ⟨Nat.le_of_ble_eq_true rfl, Nat.le_of_ble_eq_true rfl⟩ hP hS hA hK hN hXs hZs rfl rfl rfl rfl hl.1 rfl (Nat.le_of_ble_eq_true rfl) dX5_wouldAdd_2 ⟨Nat.le_of_ble_eq_true rfl, Nat.le_of_ble_eq_true rfl⟩ (fun E ce q9 H locs hpx hP hS hc1 hc2 hc3 => ?_) (fun H locs hpo hP hS => ?_)
  · exact vx_out (fun x h => (htb x h).elim) hlocks hc1 hc2 hc3 (fun t8 ht9 hW9 => ⟨(E, ()), hpx, ⟨rfl, by rw [ht9]; exact hP, va_K.moved hW9 hK, hD⟩, hS.F ht9⟩) hS.2.2 (Nat.le_of_ble_eq_true rfl) (Nat.le_of_ble_eq_true rfl)
  have ho_1 := hpo
  have hP : va_P (dC, dI) cls [(P, .inr (5, [.ref F, .ref G, .ref T, .ref za, .ref (ia 0), .ref (ia 1), .ref (ia 2), .int 0, .int bg])), (F, .inr (0, [.ref (fa 0), .ref (fa 1), .ref (fa 2), .ref (fa 3), .ref (fa 4), .ref (fa 5), .ref (fa 6), .ref (fa 7), .ref (fa 8), .int 0, .int 0, .int ck]))] H := hP
  have hD : va_D A [(P, .inr (5, [.ref F, .ref G, .ref T, .ref za, .ref (ia 0), .ref (ia 1), .ref (ia 2), .int 0, .int bg])), (F, .inr (0, [.ref (fa 0), .ref (fa 1), .ref (fa 2), .ref (fa 3), .ref (fa 4), .ref (fa 5), .ref (fa 6), .ref (fa 7), .ref (fa 8), .int 0, .int 0, .int ck]))] := hD
  exact ho_1.elim
set_option maxHeartbeats 4000000 in
set_option maxRecDepth 100000 in
theorem c_X5_costWithout (l : Launch) (hlT : l.stackTraces = false) (dC : Nat → ClassId) (dI : Nat → Nat → Nat) (cI cV cJ cL : ClassId) (P F G T za : Nat) (fa ia : Nat → Nat) (bg ck : Int32) (p0 : Int32) (sz : Nat) : vx_Met l yX5_costWithout (Cond.code yX5_costWithout cX5_costWithout 3 (some .int) :: TB) ({ frames := 12, cells := 1, slots := 6, locals := 500 } : Room) (PXw [.ref P, .int p0] (dC, dI) [(P, .inr (5, [.ref F, .ref G, .ref T, .ref za, .ref (ia 0), .ref (ia 1), .ref (ia 2), .int 0, .int bg])), (F, .inr (0, [.ref (fa 0), .ref (fa 1), .ref (fa 2), .ref (fa 3), .ref (fa 4), .ref (fa 5), .ref (fa 6), .ref (fa 7), .ref (fa 8), .int 0, .int 0, .int ck]))] (TYP cI cV cJ cL) sz) (va_Qi (fun (_ : Int32) (_ : Unit) => False) (QB (dC, dI) (fun (_ : Unit) => []) (TYP cI cV cJ cL) (va_A [(P, .inr (5, [.ref F, .ref G, .ref T, .ref za, .ref (ia 0), .ref (ia 1), .ref (ia 2), .int 0, .int bg])), (F, .inr (0, [.ref (fa 0), .ref (fa 1), .ref (fa 2), .ref (fa 3), .ref (fa 4), .ref (fa 5), .ref (fa 6), .ref (fa 7), .ref (fa 8), .int 0, .int 0, .int ck]))] sz)) (va_A [(P, .inr (5, [.ref F, .ref G, .ref T, .ref za, .ref (ia 0), .ref (ia 1), .ref (ia 2), .int 0, .int bg])), (F, .inr (0, [.ref (fa 0), .ref (fa 1), .ref (fa 2), .ref (fa 3), .ref (fa 4), .ref (fa 5), .ref (fa 6), .ref (fa 7), .ref (fa 8), .int 0, .int 0, .int ck]))] sz)) (vx_X (fun (q : String × Unit) => q.1 = "java/lang/IndexOutOfBoundsException") (fun E (u : String × Unit) t8 => E = u.1 ∧ QB (dC, dI) (fun (_ : Unit) => [(P, .inr (5, [.ref F, .ref G, .ref T, .ref za, .ref (ia 0), .ref (ia 1), .ref (ia 2), .int 0, .int bg])), (F, .inr (0, [.ref (fa 0), .ref (fa 1), .ref (fa 2), .ref (fa 3), .ref (fa 4), .ref (fa 5), .ref (fa 6), .ref (fa 7), .ref (fa 8), .int 0, .int 0, .int ck]))]) (TYP cI cV cJ cL) (va_A [(P, .inr (5, [.ref F, .ref G, .ref T, .ref za, .ref (ia 0), .ref (ia 1), .ref (ia 2), .int 0, .int bg])), (F, .inr (0, [.ref (fa 0), .ref (fa 1), .ref (fa 2), .ref (fa 3), .ref (fa 4), .ref (fa 5), .ref (fa 6), .ref (fa 7), .ref (fa 8), .int 0, .int 0, .int ck]))] sz) u.2 t8) (va_A [(P, .inr (5, [.ref F, .ref G, .ref T, .ref za, .ref (ia 0), .ref (ia 1), .ref (ia 2), .int 0, .int bg])), (F, .inr (0, [.ref (fa 0), .ref (fa 1), .ref (fa 2), .ref (fa 3), .ref (fa 4), .ref (fa 5), .ref (fa 6), .ref (fa 7), .ref (fa 8), .int 0, .int 0, .int ck]))] sz)) 1 6 (va_A [(P, .inr (5, [.ref F, .ref G, .ref T, .ref za, .ref (ia 0), .ref (ia 1), .ref (ia 2), .int 0, .int bg])), (F, .inr (0, [.ref (fa 0), .ref (fa 1), .ref (fa 2), .ref (fa 3), .ref (fa 4), .ref (fa 5), .ref (fa 6), .ref (fa 7), .ref (fa 8), .int 0, .int 0, .int ck]))] sz) := by
  refine vx_ofW (cc := cX5_costWithout) (maxL := 3) (ret := (some .int)) (by decide) rfl ?_
  intro p e s m args below meth c s₁ B hml htb hv
  obtain ⟨rfl, hsz, hP, hK, hD0, hN, hXs, hZs⟩ := hv
  have hx := B.exec
  have hb := B.bytes
  have hr := B.returns
  have hts := atoms_spec (ws := (Cond.code yX5_costWithout cX5_costWithout 3 (some .int) :: TB)) B.pre
  have hown : s.vm.findClass RX5 = some m.cls := findClass_of_methodNamed B.named
  have hlocks := B.notSynchronized
  subst hsz
  have hD := hD0.self (sz := s.heap.size)
  generalize hAe : va_A [(P, .inr (5, [.ref F, .ref G, .ref T, .ref za, .ref (ia 0), .ref (ia 1), .ref (ia 2), .int 0, .int bg])), (F, .inr (0, [.ref (fa 0), .ref (fa 1), .ref (fa 2), .ref (fa 3), .ref (fa 4), .ref (fa 5), .ref (fa 6), .ref (fa 7), .ref (fa 8), .int 0, .int 0, .int ck]))] s.heap.size = A at hD hZs ⊢
  have hA : ∀ q : Nat, s.heap.size ≤ q → A q := fun q h => by rw [← hAe]; exact Or.inr h
  have hS : va_S A s.heap s.heap [] := va_S.rf
  have hl := lv_entry ([.ref P, .int p0]) (n := 3) (Nat.le_of_ble_eq_true rfl)
  rw [lg_entry_eq]
  generalize (lg_sl ([.ref P, .int p0]) ++ List.replicate (3 - (lg_sl ([.ref P, .int p0])).length) Slot.unset).toArray = ls at hl ⊢
  have hl : lv_has ls 3 [(0, .ref P), (1, .int p0)] := hl
  refine lv_aload_n hx hb dX5_costWithout_0 rfl (lv_at hl 0 rfl) ?_
  refine lv_iload_n hx hb dX5_costWithout_1 rfl (lv_at hl 1 rfl) ?_
  refine k_Xv (ci := 5) (q0 := 0) [.int p0] [0, 1] ⟨hx, hb, hml, hown, hts⟩ (fun sz => c_X5_checkJob l hlT dC dI cI cV cJ cL P F G T za fa ia bg ck p0 sz) q_ml_X5_120 q_im_X5_checkJob q_se_X5_checkJob q_ini_X5 q_co_X5_checkJob (n := 1) (by decide +kernel) rfl ⟨rfl, rfl⟩ ⟨Nat.le_of_ble_eq_true rfl, Nat.le_of_ble_eq_true rfl⟩ hP hS hA hK hN hXs hZs rfl rfl rfl rfl hl.1 rfl (Nat.le_of_ble_eq_true rfl) dX5_costWithout_2 ⟨Nat.le_of_ble_eq_true rfl, Nat.le_of_ble_eq_true rfl⟩ (fun E ce q9 H locs hpx hP hS hc1 hc2 hc3 => ?_) (fun H locs hpo hP hS => ?_)
  · exact vx_out (fun x h => (htb x h).elim) hlocks hc1 hc2 hc3 (fun t8 ht9 hW9 => ⟨(E, ()), hpx, ⟨rfl, by rw [ht9]; exact hP, va_K.moved hW9 hK, hD⟩, hS.F ht9⟩) hS.2.2 (Nat.le_of_ble_eq_true rfl) (Nat.le_of_ble_eq_true rfl)
  have ho_1 := hpo
  have hP : va_P (dC, dI) cls [(P, .inr (5, [.ref F, .ref G, .ref T, .ref za, .ref (ia 0), .ref (ia 1), .ref (ia 2), .int 0, .int bg])), (F, .inr (0, [.ref (fa 0), .ref (fa 1), .ref (fa 2), .ref (fa 3), .ref (fa 4), .ref (fa 5), .ref (fa 6), .ref (fa 7), .ref (fa 8), .int 0, .int 0, .int ck]))] H := hP
  have hD : va_D A [(P, .inr (5, [.ref F, .ref G, .ref T, .ref za, .ref (ia 0), .ref (ia 1), .ref (ia 2), .int 0, .int bg])), (F, .inr (0, [.ref (fa 0), .ref (fa 1), .ref (fa 2), .ref (fa 3), .ref (fa 4), .ref (fa 5), .ref (fa 6), .ref (fa 7), .ref (fa 8), .int 0, .int 0, .int ck]))] := hD
  exact ho_1.elim
set_option maxHeartbeats 4000000 in
set_option maxRecDepth 100000 in
theorem c_X5_repair (l : Launch) (hlT : l.stackTraces = false) (dC : Nat → ClassId) (dI : Nat → Nat → Nat) (cI cV cJ cL : ClassId) (P F G T za : Nat) (fa ia : Nat → Nat) (bg ck : Int32) (p0 : Int32) (sz : Nat) : vx_Met l yX5_repair (Cond.code yX5_repair cX5_repair 5 (some .int) :: TB) ({ frames := 12, cells := 1, slots := 6, locals := 500 } : Room) (PXw [.ref P, .int p0] (dC, dI) [(P, .inr (5, [.ref F, .ref G, .ref T, .ref za, .ref (ia 0), .ref (ia 1), .ref (ia 2), .int 0, .int bg])), (F, .inr (0, [.ref (fa 0), .ref (fa 1), .ref (fa 2), .ref (fa 3), .ref (fa 4), .ref (fa 5), .ref (fa 6), .ref (fa 7), .ref (fa 8), .int 0, .int 0, .int ck]))] (TYP cI cV cJ cL) sz) (va_Qi (fun (_ : Int32) (_ : Unit) => False) (QB (dC, dI) (fun (_ : Unit) => []) (TYP cI cV cJ cL) (va_A [(P, .inr (5, [.ref F, .ref G, .ref T, .ref za, .ref (ia 0), .ref (ia 1), .ref (ia 2), .int 0, .int bg])), (F, .inr (0, [.ref (fa 0), .ref (fa 1), .ref (fa 2), .ref (fa 3), .ref (fa 4), .ref (fa 5), .ref (fa 6), .ref (fa 7), .ref (fa 8), .int 0, .int 0, .int ck]))] sz)) (va_A [(P, .inr (5, [.ref F, .ref G, .ref T, .ref za, .ref (ia 0), .ref (ia 1), .ref (ia 2), .int 0, .int bg])), (F, .inr (0, [.ref (fa 0), .ref (fa 1), .ref (fa 2), .ref (fa 3), .ref (fa 4), .ref (fa 5), .ref (fa 6), .ref (fa 7), .ref (fa 8), .int 0, .int 0, .int ck]))] sz)) (vx_X (fun (q : String × Unit) => q.1 = "java/lang/IndexOutOfBoundsException") (fun E (u : String × Unit) t8 => E = u.1 ∧ QB (dC, dI) (fun (_ : Unit) => [(P, .inr (5, [.ref F, .ref G, .ref T, .ref za, .ref (ia 0), .ref (ia 1), .ref (ia 2), .int 0, .int bg])), (F, .inr (0, [.ref (fa 0), .ref (fa 1), .ref (fa 2), .ref (fa 3), .ref (fa 4), .ref (fa 5), .ref (fa 6), .ref (fa 7), .ref (fa 8), .int 0, .int 0, .int ck]))]) (TYP cI cV cJ cL) (va_A [(P, .inr (5, [.ref F, .ref G, .ref T, .ref za, .ref (ia 0), .ref (ia 1), .ref (ia 2), .int 0, .int bg])), (F, .inr (0, [.ref (fa 0), .ref (fa 1), .ref (fa 2), .ref (fa 3), .ref (fa 4), .ref (fa 5), .ref (fa 6), .ref (fa 7), .ref (fa 8), .int 0, .int 0, .int ck]))] sz) u.2 t8) (va_A [(P, .inr (5, [.ref F, .ref G, .ref T, .ref za, .ref (ia 0), .ref (ia 1), .ref (ia 2), .int 0, .int bg])), (F, .inr (0, [.ref (fa 0), .ref (fa 1), .ref (fa 2), .ref (fa 3), .ref (fa 4), .ref (fa 5), .ref (fa 6), .ref (fa 7), .ref (fa 8), .int 0, .int 0, .int ck]))] sz)) 1 6 (va_A [(P, .inr (5, [.ref F, .ref G, .ref T, .ref za, .ref (ia 0), .ref (ia 1), .ref (ia 2), .int 0, .int bg])), (F, .inr (0, [.ref (fa 0), .ref (fa 1), .ref (fa 2), .ref (fa 3), .ref (fa 4), .ref (fa 5), .ref (fa 6), .ref (fa 7), .ref (fa 8), .int 0, .int 0, .int ck]))] sz) := by
  refine vx_ofW (cc := cX5_repair) (maxL := 5) (ret := (some .int)) (by decide) rfl ?_
  intro p e s m args below meth c s₁ B hml htb hv
  obtain ⟨rfl, hsz, hP, hK, hD0, hN, hXs, hZs⟩ := hv
  have hx := B.exec
  have hb := B.bytes
  have hr := B.returns
  have hts := atoms_spec (ws := (Cond.code yX5_repair cX5_repair 5 (some .int) :: TB)) B.pre
  have hown : s.vm.findClass RX5 = some m.cls := findClass_of_methodNamed B.named
  have hlocks := B.notSynchronized
  subst hsz
  have hD := hD0.self (sz := s.heap.size)
  generalize hAe : va_A [(P, .inr (5, [.ref F, .ref G, .ref T, .ref za, .ref (ia 0), .ref (ia 1), .ref (ia 2), .int 0, .int bg])), (F, .inr (0, [.ref (fa 0), .ref (fa 1), .ref (fa 2), .ref (fa 3), .ref (fa 4), .ref (fa 5), .ref (fa 6), .ref (fa 7), .ref (fa 8), .int 0, .int 0, .int ck]))] s.heap.size = A at hD hZs ⊢
  have hA : ∀ q : Nat, s.heap.size ≤ q → A q := fun q h => by rw [← hAe]; exact Or.inr h
  have hS : va_S A s.heap s.heap [] := va_S.rf
  have hl := lv_entry ([.ref P, .int p0]) (n := 5) (Nat.le_of_ble_eq_true rfl)
  rw [lg_entry_eq]
  generalize (lg_sl ([.ref P, .int p0]) ++ List.replicate (5 - (lg_sl ([.ref P, .int p0])).length) Slot.unset).toArray = ls at hl ⊢
  have hl : lv_has ls 5 [(0, .ref P), (1, .int p0)] := hl
  refine lv_aload_n hx hb dX5_repair_0 rfl (lv_at hl 0 rfl) ?_
  refine lv_iload_n hx hb dX5_repair_1 rfl (lv_at hl 1 rfl) ?_
  refine k_Xv (ci := 5) (q0 := 0) [.int p0] [0] ⟨hx, hb, hml, hown, hts⟩ (fun sz => c_X5_checkVehicle l hlT dC dI cI cV cJ cL P F G T za fa ia bg ck p0 sz) q_ml_X5_157 q_im_X5_checkVehicle q_se_X5_checkVehicle q_ini_X5 q_co_X5_checkVehicle (n := 1) (by decide +kernel) rfl ⟨rfl, rfl⟩ ⟨Nat.le_of_ble_eq_true rfl, Nat.le_of_ble_eq_true rfl⟩ hP hS hA hK hN hXs hZs rfl rfl rfl rfl hl.1 rfl (Nat.le_of_ble_eq_true rfl) dX5_repair_2 ⟨Nat.le_of_ble_eq_true rfl, Nat.le_of_ble_eq_true rfl⟩ (fun E ce q9 H locs hpx hP hS hc1 hc2 hc3 => ?_) (fun H locs hpo hP hS => ?_)
  · exact vx_out (fun x h => (htb x h).elim) hlocks hc1 hc2 hc3 (fun t8 ht9 hW9 => ⟨(E, ()), hpx, ⟨rfl, by rw [ht9]; exact hP, va_K.moved hW9 hK, hD⟩, hS.F ht9⟩) hS.2.2 (Nat.le_of_ble_eq_true rfl) (Nat.le_of_ble_eq_true rfl)
  have ho_1 := hpo
  have hP : va_P (dC, dI) cls [(P, .inr (5, [.ref F, .ref G, .ref T, .ref za, .ref (ia 0), .ref (ia 1), .ref (ia 2), .int 0, .int bg])), (F, .inr (0, [.ref (fa 0), .ref (fa 1), .ref (fa 2), .ref (fa 3), .ref (fa 4), .ref (fa 5), .ref (fa 6), .ref (fa 7), .ref (fa 8), .int 0, .int 0, .int ck]))] H := hP
  have hD : va_D A [(P, .inr (5, [.ref F, .ref G, .ref T, .ref za, .ref (ia 0), .ref (ia 1), .ref (ia 2), .int 0, .int bg])), (F, .inr (0, [.ref (fa 0), .ref (fa 1), .ref (fa 2), .ref (fa 3), .ref (fa 4), .ref (fa 5), .ref (fa 6), .ref (fa 7), .ref (fa 8), .int 0, .int 0, .int ck]))] := hD
  exact ho_1.elim
set_option maxHeartbeats 4000000 in
set_option maxRecDepth 100000 in
theorem c_X5_stops (l : Launch) (hlT : l.stackTraces = false) (dC : Nat → ClassId) (dI : Nat → Nat → Nat) (cI cV cJ cL : ClassId) (P F G T za : Nat) (fa ia : Nat → Nat) (bg ck : Int32) (p0 : Int32) (sz : Nat) : vx_Met l yX5_stops (Cond.code yX5_stops cX5_stops 2 (some .int) :: TB) ({ frames := 12, cells := 1, slots := 6, locals := 500 } : Room) (PXw [.ref P, .int p0] (dC, dI) [(P, .inr (5, [.ref F, .ref G, .ref T, .ref za, .ref (ia 0), .ref (ia 1), .ref (ia 2), .int 0, .int bg])), (F, .inr (0, [.ref (fa 0), .ref (fa 1), .ref (fa 2), .ref (fa 3), .ref (fa 4), .ref (fa 5), .ref (fa 6), .ref (fa 7), .ref (fa 8), .int 0, .int 0, .int ck]))] (TYP cI cV cJ cL) sz) (va_Qi (fun (_ : Int32) (_ : Unit) => False) (QB (dC, dI) (fun (_ : Unit) => []) (TYP cI cV cJ cL) (va_A [(P, .inr (5, [.ref F, .ref G, .ref T, .ref za, .ref (ia 0), .ref (ia 1), .ref (ia 2), .int 0, .int bg])), (F, .inr (0, [.ref (fa 0), .ref (fa 1), .ref (fa 2), .ref (fa 3), .ref (fa 4), .ref (fa 5), .ref (fa 6), .ref (fa 7), .ref (fa 8), .int 0, .int 0, .int ck]))] sz)) (va_A [(P, .inr (5, [.ref F, .ref G, .ref T, .ref za, .ref (ia 0), .ref (ia 1), .ref (ia 2), .int 0, .int bg])), (F, .inr (0, [.ref (fa 0), .ref (fa 1), .ref (fa 2), .ref (fa 3), .ref (fa 4), .ref (fa 5), .ref (fa 6), .ref (fa 7), .ref (fa 8), .int 0, .int 0, .int ck]))] sz)) (vx_X (fun (q : String × Unit) => q.1 = "java/lang/IndexOutOfBoundsException") (fun E (u : String × Unit) t8 => E = u.1 ∧ QB (dC, dI) (fun (_ : Unit) => [(P, .inr (5, [.ref F, .ref G, .ref T, .ref za, .ref (ia 0), .ref (ia 1), .ref (ia 2), .int 0, .int bg])), (F, .inr (0, [.ref (fa 0), .ref (fa 1), .ref (fa 2), .ref (fa 3), .ref (fa 4), .ref (fa 5), .ref (fa 6), .ref (fa 7), .ref (fa 8), .int 0, .int 0, .int ck]))]) (TYP cI cV cJ cL) (va_A [(P, .inr (5, [.ref F, .ref G, .ref T, .ref za, .ref (ia 0), .ref (ia 1), .ref (ia 2), .int 0, .int bg])), (F, .inr (0, [.ref (fa 0), .ref (fa 1), .ref (fa 2), .ref (fa 3), .ref (fa 4), .ref (fa 5), .ref (fa 6), .ref (fa 7), .ref (fa 8), .int 0, .int 0, .int ck]))] sz) u.2 t8) (va_A [(P, .inr (5, [.ref F, .ref G, .ref T, .ref za, .ref (ia 0), .ref (ia 1), .ref (ia 2), .int 0, .int bg])), (F, .inr (0, [.ref (fa 0), .ref (fa 1), .ref (fa 2), .ref (fa 3), .ref (fa 4), .ref (fa 5), .ref (fa 6), .ref (fa 7), .ref (fa 8), .int 0, .int 0, .int ck]))] sz)) 1 6 (va_A [(P, .inr (5, [.ref F, .ref G, .ref T, .ref za, .ref (ia 0), .ref (ia 1), .ref (ia 2), .int 0, .int bg])), (F, .inr (0, [.ref (fa 0), .ref (fa 1), .ref (fa 2), .ref (fa 3), .ref (fa 4), .ref (fa 5), .ref (fa 6), .ref (fa 7), .ref (fa 8), .int 0, .int 0, .int ck]))] sz) := by
  refine vx_ofW (cc := cX5_stops) (maxL := 2) (ret := (some .int)) (by decide) rfl ?_
  intro p e s m args below meth c s₁ B hml htb hv
  obtain ⟨rfl, hsz, hP, hK, hD0, hN, hXs, hZs⟩ := hv
  have hx := B.exec
  have hb := B.bytes
  have hr := B.returns
  have hts := atoms_spec (ws := (Cond.code yX5_stops cX5_stops 2 (some .int) :: TB)) B.pre
  have hown : s.vm.findClass RX5 = some m.cls := findClass_of_methodNamed B.named
  have hlocks := B.notSynchronized
  subst hsz
  have hD := hD0.self (sz := s.heap.size)
  generalize hAe : va_A [(P, .inr (5, [.ref F, .ref G, .ref T, .ref za, .ref (ia 0), .ref (ia 1), .ref (ia 2), .int 0, .int bg])), (F, .inr (0, [.ref (fa 0), .ref (fa 1), .ref (fa 2), .ref (fa 3), .ref (fa 4), .ref (fa 5), .ref (fa 6), .ref (fa 7), .ref (fa 8), .int 0, .int 0, .int ck]))] s.heap.size = A at hD hZs ⊢
  have hA : ∀ q : Nat, s.heap.size ≤ q → A q := fun q h => by rw [← hAe]; exact Or.inr h
  have hS : va_S A s.heap s.heap [] := va_S.rf
  have hl := lv_entry ([.ref P, .int p0]) (n := 2) (Nat.le_of_ble_eq_true rfl)
  rw [lg_entry_eq]
  generalize (lg_sl ([.ref P, .int p0]) ++ List.replicate (2 - (lg_sl ([.ref P, .int p0])).length) Slot.unset).toArray = ls at hl ⊢
  have hl : lv_has ls 2 [(0, .ref P), (1, .int p0)] := hl
  refine lv_aload_n hx hb dX5_stops_0 rfl (lv_at hl 0 rfl) ?_
  refine lv_iload_n hx hb dX5_stops_1 rfl (lv_at hl 1 rfl) ?_
  refine k_Xv (ci := 5) (q0 := 0) [.int p0] [0] ⟨hx, hb, hml, hown, hts⟩ (fun sz => c_X5_checkVehicle l hlT dC dI cI cV cJ cL P F G T za fa ia bg ck p0 sz) q_ml_X5_157 q_im_X5_checkVehicle q_se_X5_checkVehicle q_ini_X5 q_co_X5_checkVehicle (n := 1) (by decide +kernel) rfl ⟨rfl, rfl⟩ ⟨Nat.le_of_ble_eq_true rfl, Nat.le_of_ble_eq_true rfl⟩ hP hS hA hK hN hXs hZs rfl rfl rfl rfl hl.1 rfl (Nat.le_of_ble_eq_true rfl) dX5_stops_2 ⟨Nat.le_of_ble_eq_true rfl, Nat.le_of_ble_eq_true rfl⟩ (fun E ce q9 H locs hpx hP hS hc1 hc2 hc3 => ?_) (fun H locs hpo hP hS => ?_)
  · exact vx_out (fun x h => (htb x h).elim) hlocks hc1 hc2 hc3 (fun t8 ht9 hW9 => ⟨(E, ()), hpx, ⟨rfl, by rw [ht9]; exact hP, va_K.moved hW9 hK, hD⟩, hS.F ht9⟩) hS.2.2 (Nat.le_of_ble_eq_true rfl) (Nat.le_of_ble_eq_true rfl)
  have ho_1 := hpo
  have hP : va_P (dC, dI) cls [(P, .inr (5, [.ref F, .ref G, .ref T, .ref za, .ref (ia 0), .ref (ia 1), .ref (ia 2), .int 0, .int bg])), (F, .inr (0, [.ref (fa 0), .ref (fa 1), .ref (fa 2), .ref (fa 3), .ref (fa 4), .ref (fa 5), .ref (fa 6), .ref (fa 7), .ref (fa 8), .int 0, .int 0, .int ck]))] H := hP
  have hD : va_D A [(P, .inr (5, [.ref F, .ref G, .ref T, .ref za, .ref (ia 0), .ref (ia 1), .ref (ia 2), .int 0, .int bg])), (F, .inr (0, [.ref (fa 0), .ref (fa 1), .ref (fa 2), .ref (fa 3), .ref (fa 4), .ref (fa 5), .ref (fa 6), .ref (fa 7), .ref (fa 8), .int 0, .int 0, .int ck]))] := hD
  exact ho_1.elim
set_option maxHeartbeats 4000000 in
set_option maxRecDepth 100000 in
theorem c_X5_setStops (l : Launch) (hlT : l.stackTraces = false) (dC : Nat → ClassId) (dI : Nat → Nat → Nat) (cI cV cJ cL : ClassId) (P F G T za : Nat) (fa ia : Nat → Nat) (bg ck : Int32) (p0 : Int32) (sz : Nat) : vx_Met l yX5_setStops (Cond.code yX5_setStops cX5_setStops 2 (some .int) :: TB) ({ frames := 12, cells := 1, slots := 6, locals := 500 } : Room) (PXw [.ref P, .int p0] (dC, dI) [(P, .inr (5, [.ref F, .ref G, .ref T, .ref za, .ref (ia 0), .ref (ia 1), .ref (ia 2), .int 0, .int bg])), (F, .inr (0, [.ref (fa 0), .ref (fa 1), .ref (fa 2), .ref (fa 3), .ref (fa 4), .ref (fa 5), .ref (fa 6), .ref (fa 7), .ref (fa 8), .int 0, .int 0, .int ck]))] (TYP cI cV cJ cL) sz) (va_Qi (fun (_ : Int32) (_ : Unit) => False) (QB (dC, dI) (fun (_ : Unit) => []) (TYP cI cV cJ cL) (va_A [(P, .inr (5, [.ref F, .ref G, .ref T, .ref za, .ref (ia 0), .ref (ia 1), .ref (ia 2), .int 0, .int bg])), (F, .inr (0, [.ref (fa 0), .ref (fa 1), .ref (fa 2), .ref (fa 3), .ref (fa 4), .ref (fa 5), .ref (fa 6), .ref (fa 7), .ref (fa 8), .int 0, .int 0, .int ck]))] sz)) (va_A [(P, .inr (5, [.ref F, .ref G, .ref T, .ref za, .ref (ia 0), .ref (ia 1), .ref (ia 2), .int 0, .int bg])), (F, .inr (0, [.ref (fa 0), .ref (fa 1), .ref (fa 2), .ref (fa 3), .ref (fa 4), .ref (fa 5), .ref (fa 6), .ref (fa 7), .ref (fa 8), .int 0, .int 0, .int ck]))] sz)) (vx_X (fun (q : String × Unit) => q.1 = "java/lang/IndexOutOfBoundsException") (fun E (u : String × Unit) t8 => E = u.1 ∧ QB (dC, dI) (fun (_ : Unit) => [(P, .inr (5, [.ref F, .ref G, .ref T, .ref za, .ref (ia 0), .ref (ia 1), .ref (ia 2), .int 0, .int bg])), (F, .inr (0, [.ref (fa 0), .ref (fa 1), .ref (fa 2), .ref (fa 3), .ref (fa 4), .ref (fa 5), .ref (fa 6), .ref (fa 7), .ref (fa 8), .int 0, .int 0, .int ck]))]) (TYP cI cV cJ cL) (va_A [(P, .inr (5, [.ref F, .ref G, .ref T, .ref za, .ref (ia 0), .ref (ia 1), .ref (ia 2), .int 0, .int bg])), (F, .inr (0, [.ref (fa 0), .ref (fa 1), .ref (fa 2), .ref (fa 3), .ref (fa 4), .ref (fa 5), .ref (fa 6), .ref (fa 7), .ref (fa 8), .int 0, .int 0, .int ck]))] sz) u.2 t8) (va_A [(P, .inr (5, [.ref F, .ref G, .ref T, .ref za, .ref (ia 0), .ref (ia 1), .ref (ia 2), .int 0, .int bg])), (F, .inr (0, [.ref (fa 0), .ref (fa 1), .ref (fa 2), .ref (fa 3), .ref (fa 4), .ref (fa 5), .ref (fa 6), .ref (fa 7), .ref (fa 8), .int 0, .int 0, .int ck]))] sz)) 1 6 (va_A [(P, .inr (5, [.ref F, .ref G, .ref T, .ref za, .ref (ia 0), .ref (ia 1), .ref (ia 2), .int 0, .int bg])), (F, .inr (0, [.ref (fa 0), .ref (fa 1), .ref (fa 2), .ref (fa 3), .ref (fa 4), .ref (fa 5), .ref (fa 6), .ref (fa 7), .ref (fa 8), .int 0, .int 0, .int ck]))] sz) := by
  refine vx_ofW (cc := cX5_setStops) (maxL := 2) (ret := (some .int)) (by decide) rfl ?_
  intro p e s m args below meth c s₁ B hml htb hv
  obtain ⟨rfl, hsz, hP, hK, hD0, hN, hXs, hZs⟩ := hv
  have hx := B.exec
  have hb := B.bytes
  have hr := B.returns
  have hts := atoms_spec (ws := (Cond.code yX5_setStops cX5_setStops 2 (some .int) :: TB)) B.pre
  have hown : s.vm.findClass RX5 = some m.cls := findClass_of_methodNamed B.named
  have hlocks := B.notSynchronized
  subst hsz
  have hD := hD0.self (sz := s.heap.size)
  generalize hAe : va_A [(P, .inr (5, [.ref F, .ref G, .ref T, .ref za, .ref (ia 0), .ref (ia 1), .ref (ia 2), .int 0, .int bg])), (F, .inr (0, [.ref (fa 0), .ref (fa 1), .ref (fa 2), .ref (fa 3), .ref (fa 4), .ref (fa 5), .ref (fa 6), .ref (fa 7), .ref (fa 8), .int 0, .int 0, .int ck]))] s.heap.size = A at hD hZs ⊢
  have hA : ∀ q : Nat, s.heap.size ≤ q → A q := fun q h => by rw [← hAe]; exact Or.inr h
  have hS : va_S A s.heap s.heap [] := va_S.rf
  have hl := lv_entry ([.ref P, .int p0]) (n := 2) (Nat.le_of_ble_eq_true rfl)
  rw [lg_entry_eq]
  generalize (lg_sl ([.ref P, .int p0]) ++ List.replicate (2 - (lg_sl ([.ref P, .int p0])).length) Slot.unset).toArray = ls at hl ⊢
  have hl : lv_has ls 2 [(0, .ref P), (1, .int p0)] := hl
  refine lv_aload_n hx hb dX5_setStops_0 rfl (lv_at hl 0 rfl) ?_
  refine lv_iload_n hx hb dX5_setStops_1 rfl (lv_at hl 1 rfl) ?_
  refine k_Xv (ci := 5) (q0 := 0) [.int p0] [0] ⟨hx, hb, hml, hown, hts⟩ (fun sz => c_X5_checkVehicle l hlT dC dI cI cV cJ cL P F G T za fa ia bg ck p0 sz) q_ml_X5_157 q_im_X5_checkVehicle q_se_X5_checkVehicle q_ini_X5 q_co_X5_checkVehicle (n := 1) (by decide +kernel) rfl ⟨rfl, rfl⟩ ⟨Nat.le_of_ble_eq_true rfl, Nat.le_of_ble_eq_true rfl⟩ hP hS hA hK hN hXs hZs rfl rfl rfl rfl hl.1 rfl (Nat.le_of_ble_eq_true rfl) dX5_setStops_2 ⟨Nat.le_of_ble_eq_true rfl, Nat.le_of_ble_eq_true rfl⟩ (fun E ce q9 H locs hpx hP hS hc1 hc2 hc3 => ?_) (fun H locs hpo hP hS => ?_)
  · exact vx_out (fun x h => (htb x h).elim) hlocks hc1 hc2 hc3 (fun t8 ht9 hW9 => ⟨(E, ()), hpx, ⟨rfl, by rw [ht9]; exact hP, va_K.moved hW9 hK, hD⟩, hS.F ht9⟩) hS.2.2 (Nat.le_of_ble_eq_true rfl) (Nat.le_of_ble_eq_true rfl)
  have ho_1 := hpo
  have hP : va_P (dC, dI) cls [(P, .inr (5, [.ref F, .ref G, .ref T, .ref za, .ref (ia 0), .ref (ia 1), .ref (ia 2), .int 0, .int bg])), (F, .inr (0, [.ref (fa 0), .ref (fa 1), .ref (fa 2), .ref (fa 3), .ref (fa 4), .ref (fa 5), .ref (fa 6), .ref (fa 7), .ref (fa 8), .int 0, .int 0, .int ck]))] H := hP
  have hD : va_D A [(P, .inr (5, [.ref F, .ref G, .ref T, .ref za, .ref (ia 0), .ref (ia 1), .ref (ia 2), .int 0, .int bg])), (F, .inr (0, [.ref (fa 0), .ref (fa 1), .ref (fa 2), .ref (fa 3), .ref (fa 4), .ref (fa 5), .ref (fa 6), .ref (fa 7), .ref (fa 8), .int 0, .int 0, .int ck]))] := hD
  exact ho_1.elim
set_option maxHeartbeats 4000000 in
set_option maxRecDepth 100000 in
theorem c_X5_back (l : Launch) (hlT : l.stackTraces = false) (dC : Nat → ClassId) (dI : Nat → Nat → Nat) (cI cV cJ cL : ClassId) (P F G T za : Nat) (fa ia : Nat → Nat) (bg ck : Int32) (p0 : Int32) (sz : Nat) : vx_Met l yX5_back (Cond.code yX5_back cX5_back 2 (some .int) :: TB) ({ frames := 12, cells := 1, slots := 6, locals := 500 } : Room) (PXw [.ref P, .int p0] (dC, dI) [(P, .inr (5, [.ref F, .ref G, .ref T, .ref za, .ref (ia 0), .ref (ia 1), .ref (ia 2), .int 0, .int bg])), (F, .inr (0, [.ref (fa 0), .ref (fa 1), .ref (fa 2), .ref (fa 3), .ref (fa 4), .ref (fa 5), .ref (fa 6), .ref (fa 7), .ref (fa 8), .int 0, .int 0, .int ck]))] (TYP cI cV cJ cL) sz) (va_Qi (fun (_ : Int32) (_ : Unit) => False) (QB (dC, dI) (fun (_ : Unit) => []) (TYP cI cV cJ cL) (va_A [(P, .inr (5, [.ref F, .ref G, .ref T, .ref za, .ref (ia 0), .ref (ia 1), .ref (ia 2), .int 0, .int bg])), (F, .inr (0, [.ref (fa 0), .ref (fa 1), .ref (fa 2), .ref (fa 3), .ref (fa 4), .ref (fa 5), .ref (fa 6), .ref (fa 7), .ref (fa 8), .int 0, .int 0, .int ck]))] sz)) (va_A [(P, .inr (5, [.ref F, .ref G, .ref T, .ref za, .ref (ia 0), .ref (ia 1), .ref (ia 2), .int 0, .int bg])), (F, .inr (0, [.ref (fa 0), .ref (fa 1), .ref (fa 2), .ref (fa 3), .ref (fa 4), .ref (fa 5), .ref (fa 6), .ref (fa 7), .ref (fa 8), .int 0, .int 0, .int ck]))] sz)) (vx_X (fun (q : String × Unit) => q.1 = "java/lang/IndexOutOfBoundsException") (fun E (u : String × Unit) t8 => E = u.1 ∧ QB (dC, dI) (fun (_ : Unit) => [(P, .inr (5, [.ref F, .ref G, .ref T, .ref za, .ref (ia 0), .ref (ia 1), .ref (ia 2), .int 0, .int bg])), (F, .inr (0, [.ref (fa 0), .ref (fa 1), .ref (fa 2), .ref (fa 3), .ref (fa 4), .ref (fa 5), .ref (fa 6), .ref (fa 7), .ref (fa 8), .int 0, .int 0, .int ck]))]) (TYP cI cV cJ cL) (va_A [(P, .inr (5, [.ref F, .ref G, .ref T, .ref za, .ref (ia 0), .ref (ia 1), .ref (ia 2), .int 0, .int bg])), (F, .inr (0, [.ref (fa 0), .ref (fa 1), .ref (fa 2), .ref (fa 3), .ref (fa 4), .ref (fa 5), .ref (fa 6), .ref (fa 7), .ref (fa 8), .int 0, .int 0, .int ck]))] sz) u.2 t8) (va_A [(P, .inr (5, [.ref F, .ref G, .ref T, .ref za, .ref (ia 0), .ref (ia 1), .ref (ia 2), .int 0, .int bg])), (F, .inr (0, [.ref (fa 0), .ref (fa 1), .ref (fa 2), .ref (fa 3), .ref (fa 4), .ref (fa 5), .ref (fa 6), .ref (fa 7), .ref (fa 8), .int 0, .int 0, .int ck]))] sz)) 1 6 (va_A [(P, .inr (5, [.ref F, .ref G, .ref T, .ref za, .ref (ia 0), .ref (ia 1), .ref (ia 2), .int 0, .int bg])), (F, .inr (0, [.ref (fa 0), .ref (fa 1), .ref (fa 2), .ref (fa 3), .ref (fa 4), .ref (fa 5), .ref (fa 6), .ref (fa 7), .ref (fa 8), .int 0, .int 0, .int ck]))] sz) := by
  refine vx_ofW (cc := cX5_back) (maxL := 2) (ret := (some .int)) (by decide) rfl ?_
  intro p e s m args below meth c s₁ B hml htb hv
  obtain ⟨rfl, hsz, hP, hK, hD0, hN, hXs, hZs⟩ := hv
  have hx := B.exec
  have hb := B.bytes
  have hr := B.returns
  have hts := atoms_spec (ws := (Cond.code yX5_back cX5_back 2 (some .int) :: TB)) B.pre
  have hown : s.vm.findClass RX5 = some m.cls := findClass_of_methodNamed B.named
  have hlocks := B.notSynchronized
  subst hsz
  have hD := hD0.self (sz := s.heap.size)
  generalize hAe : va_A [(P, .inr (5, [.ref F, .ref G, .ref T, .ref za, .ref (ia 0), .ref (ia 1), .ref (ia 2), .int 0, .int bg])), (F, .inr (0, [.ref (fa 0), .ref (fa 1), .ref (fa 2), .ref (fa 3), .ref (fa 4), .ref (fa 5), .ref (fa 6), .ref (fa 7), .ref (fa 8), .int 0, .int 0, .int ck]))] s.heap.size = A at hD hZs ⊢
  have hA : ∀ q : Nat, s.heap.size ≤ q → A q := fun q h => by rw [← hAe]; exact Or.inr h
  have hS : va_S A s.heap s.heap [] := va_S.rf
  have hl := lv_entry ([.ref P, .int p0]) (n := 2) (Nat.le_of_ble_eq_true rfl)
  rw [lg_entry_eq]
  generalize (lg_sl ([.ref P, .int p0]) ++ List.replicate (2 - (lg_sl ([.ref P, .int p0])).length) Slot.unset).toArray = ls at hl ⊢
  have hl : lv_has ls 2 [(0, .ref P), (1, .int p0)] := hl
  refine lv_aload_n hx hb dX5_back_0 rfl (lv_at hl 0 rfl) ?_
  refine lv_iload_n hx hb dX5_back_1 rfl (lv_at hl 1 rfl) ?_
  refine k_Xv (ci := 5) (q0 := 0) [.int p0] [0] ⟨hx, hb, hml, hown, hts⟩ (fun sz => c_X5_checkVehicle l hlT dC dI cI cV cJ cL P F G T za fa ia bg ck p0 sz) q_ml_X5_157 q_im_X5_checkVehicle q_se_X5_checkVehicle q_ini_X5 q_co_X5_checkVehicle (n := 1) (by decide +kernel) rfl ⟨rfl, rfl⟩ ⟨Nat.le_of_ble_eq_true rfl, Nat.le_of_ble_eq_true rfl⟩ hP hS hA hK hN hXs hZs rfl rfl rfl rfl hl.1 rfl (Nat.le_of_ble_eq_true rfl) dX5_back_2 ⟨Nat.le_of_ble_eq_true rfl, Nat.le_of_ble_eq_true rfl⟩ (fun E ce q9 H locs hpx hP hS hc1 hc2 hc3 => ?_) (fun H locs hpo hP hS => ?_)
  · exact vx_out (fun x h => (htb x h).elim) hlocks hc1 hc2 hc3 (fun t8 ht9 hW9 => ⟨(E, ()), hpx, ⟨rfl, by rw [ht9]; exact hP, va_K.moved hW9 hK, hD⟩, hS.F ht9⟩) hS.2.2 (Nat.le_of_ble_eq_true rfl) (Nat.le_of_ble_eq_true rfl)
  have ho_1 := hpo
  have hP : va_P (dC, dI) cls [(P, .inr (5, [.ref F, .ref G, .ref T, .ref za, .ref (ia 0), .ref (ia 1), .ref (ia 2), .int 0, .int bg])), (F, .inr (0, [.ref (fa 0), .ref (fa 1), .ref (fa 2), .ref (fa 3), .ref (fa 4), .ref (fa 5), .ref (fa 6), .ref (fa 7), .ref (fa 8), .int 0, .int 0, .int ck]))] H := hP
  have hD : va_D A [(P, .inr (5, [.ref F, .ref G, .ref T, .ref za, .ref (ia 0), .ref (ia 1), .ref (ia 2), .int 0, .int bg])), (F, .inr (0, [.ref (fa 0), .ref (fa 1), .ref (fa 2), .ref (fa 3), .ref (fa 4), .ref (fa 5), .ref (fa 6), .ref (fa 7), .ref (fa 8), .int 0, .int 0, .int ck]))] := hD
  exact ho_1.elim
set_option maxHeartbeats 4000000 in
set_option maxRecDepth 100000 in
theorem c_X5_waits (l : Launch) (hlT : l.stackTraces = false) (dC : Nat → ClassId) (dI : Nat → Nat → Nat) (cI cV cJ cL : ClassId) (P F G T za : Nat) (fa ia : Nat → Nat) (bg ck : Int32) (p0 : Int32) (sz : Nat) : vx_Met l yX5_waits (Cond.code yX5_waits cX5_waits 2 (some .int) :: TB) ({ frames := 12, cells := 1, slots := 6, locals := 500 } : Room) (PXw [.ref P, .int p0] (dC, dI) [(P, .inr (5, [.ref F, .ref G, .ref T, .ref za, .ref (ia 0), .ref (ia 1), .ref (ia 2), .int 0, .int bg])), (F, .inr (0, [.ref (fa 0), .ref (fa 1), .ref (fa 2), .ref (fa 3), .ref (fa 4), .ref (fa 5), .ref (fa 6), .ref (fa 7), .ref (fa 8), .int 0, .int 0, .int ck]))] (TYP cI cV cJ cL) sz) (va_Qi (fun (_ : Int32) (_ : Unit) => False) (QB (dC, dI) (fun (_ : Unit) => []) (TYP cI cV cJ cL) (va_A [(P, .inr (5, [.ref F, .ref G, .ref T, .ref za, .ref (ia 0), .ref (ia 1), .ref (ia 2), .int 0, .int bg])), (F, .inr (0, [.ref (fa 0), .ref (fa 1), .ref (fa 2), .ref (fa 3), .ref (fa 4), .ref (fa 5), .ref (fa 6), .ref (fa 7), .ref (fa 8), .int 0, .int 0, .int ck]))] sz)) (va_A [(P, .inr (5, [.ref F, .ref G, .ref T, .ref za, .ref (ia 0), .ref (ia 1), .ref (ia 2), .int 0, .int bg])), (F, .inr (0, [.ref (fa 0), .ref (fa 1), .ref (fa 2), .ref (fa 3), .ref (fa 4), .ref (fa 5), .ref (fa 6), .ref (fa 7), .ref (fa 8), .int 0, .int 0, .int ck]))] sz)) (vx_X (fun (q : String × Unit) => q.1 = "java/lang/IndexOutOfBoundsException") (fun E (u : String × Unit) t8 => E = u.1 ∧ QB (dC, dI) (fun (_ : Unit) => [(P, .inr (5, [.ref F, .ref G, .ref T, .ref za, .ref (ia 0), .ref (ia 1), .ref (ia 2), .int 0, .int bg])), (F, .inr (0, [.ref (fa 0), .ref (fa 1), .ref (fa 2), .ref (fa 3), .ref (fa 4), .ref (fa 5), .ref (fa 6), .ref (fa 7), .ref (fa 8), .int 0, .int 0, .int ck]))]) (TYP cI cV cJ cL) (va_A [(P, .inr (5, [.ref F, .ref G, .ref T, .ref za, .ref (ia 0), .ref (ia 1), .ref (ia 2), .int 0, .int bg])), (F, .inr (0, [.ref (fa 0), .ref (fa 1), .ref (fa 2), .ref (fa 3), .ref (fa 4), .ref (fa 5), .ref (fa 6), .ref (fa 7), .ref (fa 8), .int 0, .int 0, .int ck]))] sz) u.2 t8) (va_A [(P, .inr (5, [.ref F, .ref G, .ref T, .ref za, .ref (ia 0), .ref (ia 1), .ref (ia 2), .int 0, .int bg])), (F, .inr (0, [.ref (fa 0), .ref (fa 1), .ref (fa 2), .ref (fa 3), .ref (fa 4), .ref (fa 5), .ref (fa 6), .ref (fa 7), .ref (fa 8), .int 0, .int 0, .int ck]))] sz)) 1 6 (va_A [(P, .inr (5, [.ref F, .ref G, .ref T, .ref za, .ref (ia 0), .ref (ia 1), .ref (ia 2), .int 0, .int bg])), (F, .inr (0, [.ref (fa 0), .ref (fa 1), .ref (fa 2), .ref (fa 3), .ref (fa 4), .ref (fa 5), .ref (fa 6), .ref (fa 7), .ref (fa 8), .int 0, .int 0, .int ck]))] sz) := by
  refine vx_ofW (cc := cX5_waits) (maxL := 2) (ret := (some .int)) (by decide) rfl ?_
  intro p e s m args below meth c s₁ B hml htb hv
  obtain ⟨rfl, hsz, hP, hK, hD0, hN, hXs, hZs⟩ := hv
  have hx := B.exec
  have hb := B.bytes
  have hr := B.returns
  have hts := atoms_spec (ws := (Cond.code yX5_waits cX5_waits 2 (some .int) :: TB)) B.pre
  have hown : s.vm.findClass RX5 = some m.cls := findClass_of_methodNamed B.named
  have hlocks := B.notSynchronized
  subst hsz
  have hD := hD0.self (sz := s.heap.size)
  generalize hAe : va_A [(P, .inr (5, [.ref F, .ref G, .ref T, .ref za, .ref (ia 0), .ref (ia 1), .ref (ia 2), .int 0, .int bg])), (F, .inr (0, [.ref (fa 0), .ref (fa 1), .ref (fa 2), .ref (fa 3), .ref (fa 4), .ref (fa 5), .ref (fa 6), .ref (fa 7), .ref (fa 8), .int 0, .int 0, .int ck]))] s.heap.size = A at hD hZs ⊢
  have hA : ∀ q : Nat, s.heap.size ≤ q → A q := fun q h => by rw [← hAe]; exact Or.inr h
  have hS : va_S A s.heap s.heap [] := va_S.rf
  have hl := lv_entry ([.ref P, .int p0]) (n := 2) (Nat.le_of_ble_eq_true rfl)
  rw [lg_entry_eq]
  generalize (lg_sl ([.ref P, .int p0]) ++ List.replicate (2 - (lg_sl ([.ref P, .int p0])).length) Slot.unset).toArray = ls at hl ⊢
  have hl : lv_has ls 2 [(0, .ref P), (1, .int p0)] := hl
  refine lv_aload_n hx hb dX5_waits_0 rfl (lv_at hl 0 rfl) ?_
  refine lv_iload_n hx hb dX5_waits_1 rfl (lv_at hl 1 rfl) ?_
  refine k_Xv (ci := 5) (q0 := 0) [.int p0] [0] ⟨hx, hb, hml, hown, hts⟩ (fun sz => c_X5_checkVehicle l hlT dC dI cI cV cJ cL P F G T za fa ia bg ck p0 sz) q_ml_X5_157 q_im_X5_checkVehicle q_se_X5_checkVehicle q_ini_X5 q_co_X5_checkVehicle (n := 1) (by decide +kernel) rfl ⟨rfl, rfl⟩ ⟨Nat.le_of_ble_eq_true rfl, Nat.le_of_ble_eq_true rfl⟩ hP hS hA hK hN hXs hZs rfl rfl rfl rfl hl.1 rfl (Nat.le_of_ble_eq_true rfl) dX5_waits_2 ⟨Nat.le_of_ble_eq_true rfl, Nat.le_of_ble_eq_true rfl⟩ (fun E ce q9 H locs hpx hP hS hc1 hc2 hc3 => ?_) (fun H locs hpo hP hS => ?_)
  · exact vx_out (fun x h => (htb x h).elim) hlocks hc1 hc2 hc3 (fun t8 ht9 hW9 => ⟨(E, ()), hpx, ⟨rfl, by rw [ht9]; exact hP, va_K.moved hW9 hK, hD⟩, hS.F ht9⟩) hS.2.2 (Nat.le_of_ble_eq_true rfl) (Nat.le_of_ble_eq_true rfl)
  have ho_1 := hpo
  have hP : va_P (dC, dI) cls [(P, .inr (5, [.ref F, .ref G, .ref T, .ref za, .ref (ia 0), .ref (ia 1), .ref (ia 2), .int 0, .int bg])), (F, .inr (0, [.ref (fa 0), .ref (fa 1), .ref (fa 2), .ref (fa 3), .ref (fa 4), .ref (fa 5), .ref (fa 6), .ref (fa 7), .ref (fa 8), .int 0, .int 0, .int ck]))] H := hP
  have hD : va_D A [(P, .inr (5, [.ref F, .ref G, .ref T, .ref za, .ref (ia 0), .ref (ia 1), .ref (ia 2), .int 0, .int bg])), (F, .inr (0, [.ref (fa 0), .ref (fa 1), .ref (fa 2), .ref (fa 3), .ref (fa 4), .ref (fa 5), .ref (fa 6), .ref (fa 7), .ref (fa 8), .int 0, .int 0, .int ck]))] := hD
  exact ho_1.elim
set_option maxHeartbeats 4000000 in
set_option maxRecDepth 100000 in
theorem c_X5_isRight (l : Launch) (hlT : l.stackTraces = false) (dC : Nat → ClassId) (dI : Nat → Nat → Nat) (cI cV cJ cL : ClassId) (P F G T za : Nat) (fa ia : Nat → Nat) (bg ck : Int32) (p0 : Int32) (sz : Nat) : vx_Met l yX5_isRight (Cond.code yX5_isRight cX5_isRight 2 (some .boolean) :: TB) ({ frames := 12, cells := 1, slots := 6, locals := 500 } : Room) (PXw [.ref P, .int p0] (dC, dI) [(P, .inr (5, [.ref F, .ref G, .ref T, .ref za, .ref (ia 0), .ref (ia 1), .ref (ia 2), .int 0, .int bg])), (F, .inr (0, [.ref (fa 0), .ref (fa 1), .ref (fa 2), .ref (fa 3), .ref (fa 4), .ref (fa 5), .ref (fa 6), .ref (fa 7), .ref (fa 8), .int 0, .int 0, .int ck]))] (TYP cI cV cJ cL) sz) (va_Qi (fun (_ : Int32) (_ : Unit) => False) (QB (dC, dI) (fun (_ : Unit) => []) (TYP cI cV cJ cL) (va_A [(P, .inr (5, [.ref F, .ref G, .ref T, .ref za, .ref (ia 0), .ref (ia 1), .ref (ia 2), .int 0, .int bg])), (F, .inr (0, [.ref (fa 0), .ref (fa 1), .ref (fa 2), .ref (fa 3), .ref (fa 4), .ref (fa 5), .ref (fa 6), .ref (fa 7), .ref (fa 8), .int 0, .int 0, .int ck]))] sz)) (va_A [(P, .inr (5, [.ref F, .ref G, .ref T, .ref za, .ref (ia 0), .ref (ia 1), .ref (ia 2), .int 0, .int bg])), (F, .inr (0, [.ref (fa 0), .ref (fa 1), .ref (fa 2), .ref (fa 3), .ref (fa 4), .ref (fa 5), .ref (fa 6), .ref (fa 7), .ref (fa 8), .int 0, .int 0, .int ck]))] sz)) (vx_X (fun (q : String × Unit) => q.1 = "java/lang/IndexOutOfBoundsException") (fun E (u : String × Unit) t8 => E = u.1 ∧ QB (dC, dI) (fun (_ : Unit) => [(P, .inr (5, [.ref F, .ref G, .ref T, .ref za, .ref (ia 0), .ref (ia 1), .ref (ia 2), .int 0, .int bg])), (F, .inr (0, [.ref (fa 0), .ref (fa 1), .ref (fa 2), .ref (fa 3), .ref (fa 4), .ref (fa 5), .ref (fa 6), .ref (fa 7), .ref (fa 8), .int 0, .int 0, .int ck]))]) (TYP cI cV cJ cL) (va_A [(P, .inr (5, [.ref F, .ref G, .ref T, .ref za, .ref (ia 0), .ref (ia 1), .ref (ia 2), .int 0, .int bg])), (F, .inr (0, [.ref (fa 0), .ref (fa 1), .ref (fa 2), .ref (fa 3), .ref (fa 4), .ref (fa 5), .ref (fa 6), .ref (fa 7), .ref (fa 8), .int 0, .int 0, .int ck]))] sz) u.2 t8) (va_A [(P, .inr (5, [.ref F, .ref G, .ref T, .ref za, .ref (ia 0), .ref (ia 1), .ref (ia 2), .int 0, .int bg])), (F, .inr (0, [.ref (fa 0), .ref (fa 1), .ref (fa 2), .ref (fa 3), .ref (fa 4), .ref (fa 5), .ref (fa 6), .ref (fa 7), .ref (fa 8), .int 0, .int 0, .int ck]))] sz)) 1 6 (va_A [(P, .inr (5, [.ref F, .ref G, .ref T, .ref za, .ref (ia 0), .ref (ia 1), .ref (ia 2), .int 0, .int bg])), (F, .inr (0, [.ref (fa 0), .ref (fa 1), .ref (fa 2), .ref (fa 3), .ref (fa 4), .ref (fa 5), .ref (fa 6), .ref (fa 7), .ref (fa 8), .int 0, .int 0, .int ck]))] sz) := by
  refine vx_ofW (cc := cX5_isRight) (maxL := 2) (ret := (some .boolean)) (by decide) rfl ?_
  intro p e s m args below meth c s₁ B hml htb hv
  obtain ⟨rfl, hsz, hP, hK, hD0, hN, hXs, hZs⟩ := hv
  have hx := B.exec
  have hb := B.bytes
  have hr := B.returns
  have hts := atoms_spec (ws := (Cond.code yX5_isRight cX5_isRight 2 (some .boolean) :: TB)) B.pre
  have hown : s.vm.findClass RX5 = some m.cls := findClass_of_methodNamed B.named
  have hlocks := B.notSynchronized
  subst hsz
  have hD := hD0.self (sz := s.heap.size)
  generalize hAe : va_A [(P, .inr (5, [.ref F, .ref G, .ref T, .ref za, .ref (ia 0), .ref (ia 1), .ref (ia 2), .int 0, .int bg])), (F, .inr (0, [.ref (fa 0), .ref (fa 1), .ref (fa 2), .ref (fa 3), .ref (fa 4), .ref (fa 5), .ref (fa 6), .ref (fa 7), .ref (fa 8), .int 0, .int 0, .int ck]))] s.heap.size = A at hD hZs ⊢
  have hA : ∀ q : Nat, s.heap.size ≤ q → A q := fun q h => by rw [← hAe]; exact Or.inr h
  have hS : va_S A s.heap s.heap [] := va_S.rf
  have hl := lv_entry ([.ref P, .int p0]) (n := 2) (Nat.le_of_ble_eq_true rfl)
  rw [lg_entry_eq]
  generalize (lg_sl ([.ref P, .int p0]) ++ List.replicate (2 - (lg_sl ([.ref P, .int p0])).length) Slot.unset).toArray = ls at hl ⊢
  have hl : lv_has ls 2 [(0, .ref P), (1, .int p0)] := hl
  refine lv_aload_n hx hb dX5_isRight_0 rfl (lv_at hl 0 rfl) ?_
  refine lv_iload_n hx hb dX5_isRight_1 rfl (lv_at hl 1 rfl) ?_
  refine k_Xv (ci := 5) (q0 := 0) [.int p0] [0] ⟨hx, hb, hml, hown, hts⟩ (fun sz => c_X5_checkVehicle l hlT dC dI cI cV cJ cL P F G T za fa ia bg ck p0 sz) q_ml_X5_157 q_im_X5_checkVehicle q_se_X5_checkVehicle q_ini_X5 q_co_X5_checkVehicle (n := 1) (by decide +kernel) rfl ⟨rfl, rfl⟩ ⟨Nat.le_of_ble_eq_true rfl, Nat.le_of_ble_eq_true rfl⟩ hP hS hA hK hN hXs hZs rfl rfl rfl rfl hl.1 rfl (Nat.le_of_ble_eq_true rfl) dX5_isRight_2 ⟨Nat.le_of_ble_eq_true rfl, Nat.le_of_ble_eq_true rfl⟩ (fun E ce q9 H locs hpx hP hS hc1 hc2 hc3 => ?_) (fun H locs hpo hP hS => ?_)
  · exact vx_out (fun x h => (htb x h).elim) hlocks hc1 hc2 hc3 (fun t8 ht9 hW9 => ⟨(E, ()), hpx, ⟨rfl, by rw [ht9]; exact hP, va_K.moved hW9 hK, hD⟩, hS.F ht9⟩) hS.2.2 (Nat.le_of_ble_eq_true rfl) (Nat.le_of_ble_eq_true rfl)
  have ho_1 := hpo
  have hP : va_P (dC, dI) cls [(P, .inr (5, [.ref F, .ref G, .ref T, .ref za, .ref (ia 0), .ref (ia 1), .ref (ia 2), .int 0, .int bg])), (F, .inr (0, [.ref (fa 0), .ref (fa 1), .ref (fa 2), .ref (fa 3), .ref (fa 4), .ref (fa 5), .ref (fa 6), .ref (fa 7), .ref (fa 8), .int 0, .int 0, .int ck]))] H := hP
  have hD : va_D A [(P, .inr (5, [.ref F, .ref G, .ref T, .ref za, .ref (ia 0), .ref (ia 1), .ref (ia 2), .int 0, .int bg])), (F, .inr (0, [.ref (fa 0), .ref (fa 1), .ref (fa 2), .ref (fa 3), .ref (fa 4), .ref (fa 5), .ref (fa 6), .ref (fa 7), .ref (fa 8), .int 0, .int 0, .int ck]))] := hD
  exact ho_1.elim
set_option maxHeartbeats 4000000 in
set_option maxRecDepth 100000 in
theorem c_X5_length (l : Launch) (hlT : l.stackTraces = false) (dC : Nat → ClassId) (dI : Nat → Nat → Nat) (cI cV cJ cL : ClassId) (P F G T za : Nat) (fa ia : Nat → Nat) (bg ck : Int32) (p0 : Int32) (sz : Nat) : vx_Met l yX5_length (Cond.code yX5_length cX5_length 2 (some .int) :: TB) ({ frames := 12, cells := 1, slots := 6, locals := 500 } : Room) (PXw [.ref P, .int p0] (dC, dI) [(P, .inr (5, [.ref F, .ref G, .ref T, .ref za, .ref (ia 0), .ref (ia 1), .ref (ia 2), .int 0, .int bg])), (F, .inr (0, [.ref (fa 0), .ref (fa 1), .ref (fa 2), .ref (fa 3), .ref (fa 4), .ref (fa 5), .ref (fa 6), .ref (fa 7), .ref (fa 8), .int 0, .int 0, .int ck]))] (TYP cI cV cJ cL) sz) (va_Qi (fun (_ : Int32) (_ : Unit) => False) (QB (dC, dI) (fun (_ : Unit) => []) (TYP cI cV cJ cL) (va_A [(P, .inr (5, [.ref F, .ref G, .ref T, .ref za, .ref (ia 0), .ref (ia 1), .ref (ia 2), .int 0, .int bg])), (F, .inr (0, [.ref (fa 0), .ref (fa 1), .ref (fa 2), .ref (fa 3), .ref (fa 4), .ref (fa 5), .ref (fa 6), .ref (fa 7), .ref (fa 8), .int 0, .int 0, .int ck]))] sz)) (va_A [(P, .inr (5, [.ref F, .ref G, .ref T, .ref za, .ref (ia 0), .ref (ia 1), .ref (ia 2), .int 0, .int bg])), (F, .inr (0, [.ref (fa 0), .ref (fa 1), .ref (fa 2), .ref (fa 3), .ref (fa 4), .ref (fa 5), .ref (fa 6), .ref (fa 7), .ref (fa 8), .int 0, .int 0, .int ck]))] sz)) (vx_X (fun (q : String × Unit) => q.1 = "java/lang/IndexOutOfBoundsException") (fun E (u : String × Unit) t8 => E = u.1 ∧ QB (dC, dI) (fun (_ : Unit) => [(P, .inr (5, [.ref F, .ref G, .ref T, .ref za, .ref (ia 0), .ref (ia 1), .ref (ia 2), .int 0, .int bg])), (F, .inr (0, [.ref (fa 0), .ref (fa 1), .ref (fa 2), .ref (fa 3), .ref (fa 4), .ref (fa 5), .ref (fa 6), .ref (fa 7), .ref (fa 8), .int 0, .int 0, .int ck]))]) (TYP cI cV cJ cL) (va_A [(P, .inr (5, [.ref F, .ref G, .ref T, .ref za, .ref (ia 0), .ref (ia 1), .ref (ia 2), .int 0, .int bg])), (F, .inr (0, [.ref (fa 0), .ref (fa 1), .ref (fa 2), .ref (fa 3), .ref (fa 4), .ref (fa 5), .ref (fa 6), .ref (fa 7), .ref (fa 8), .int 0, .int 0, .int ck]))] sz) u.2 t8) (va_A [(P, .inr (5, [.ref F, .ref G, .ref T, .ref za, .ref (ia 0), .ref (ia 1), .ref (ia 2), .int 0, .int bg])), (F, .inr (0, [.ref (fa 0), .ref (fa 1), .ref (fa 2), .ref (fa 3), .ref (fa 4), .ref (fa 5), .ref (fa 6), .ref (fa 7), .ref (fa 8), .int 0, .int 0, .int ck]))] sz)) 1 6 (va_A [(P, .inr (5, [.ref F, .ref G, .ref T, .ref za, .ref (ia 0), .ref (ia 1), .ref (ia 2), .int 0, .int bg])), (F, .inr (0, [.ref (fa 0), .ref (fa 1), .ref (fa 2), .ref (fa 3), .ref (fa 4), .ref (fa 5), .ref (fa 6), .ref (fa 7), .ref (fa 8), .int 0, .int 0, .int ck]))] sz) := by
  refine vx_ofW (cc := cX5_length) (maxL := 2) (ret := (some .int)) (by decide) rfl ?_
  intro p e s m args below meth c s₁ B hml htb hv
  obtain ⟨rfl, hsz, hP, hK, hD0, hN, hXs, hZs⟩ := hv
  have hx := B.exec
  have hb := B.bytes
  have hr := B.returns
  have hts := atoms_spec (ws := (Cond.code yX5_length cX5_length 2 (some .int) :: TB)) B.pre
  have hown : s.vm.findClass RX5 = some m.cls := findClass_of_methodNamed B.named
  have hlocks := B.notSynchronized
  subst hsz
  have hD := hD0.self (sz := s.heap.size)
  generalize hAe : va_A [(P, .inr (5, [.ref F, .ref G, .ref T, .ref za, .ref (ia 0), .ref (ia 1), .ref (ia 2), .int 0, .int bg])), (F, .inr (0, [.ref (fa 0), .ref (fa 1), .ref (fa 2), .ref (fa 3), .ref (fa 4), .ref (fa 5), .ref (fa 6), .ref (fa 7), .ref (fa 8), .int 0, .int 0, .int ck]))] s.heap.size = A at hD hZs ⊢
  have hA : ∀ q : Nat, s.heap.size ≤ q → A q := fun q h => by rw [← hAe]; exact Or.inr h
  have hS : va_S A s.heap s.heap [] := va_S.rf
  have hl := lv_entry ([.ref P, .int p0]) (n := 2) (Nat.le_of_ble_eq_true rfl)
  rw [lg_entry_eq]
  generalize (lg_sl ([.ref P, .int p0]) ++ List.replicate (2 - (lg_sl ([.ref P, .int p0])).length) Slot.unset).toArray = ls at hl ⊢
  have hl : lv_has ls 2 [(0, .ref P), (1, .int p0)] := hl
  refine lv_aload_n hx hb dX5_length_0 rfl (lv_at hl 0 rfl) ?_
  refine lv_iload_n hx hb dX5_length_1 rfl (lv_at hl 1 rfl) ?_
  refine k_Xv (ci := 5) (q0 := 0) [.int p0] [0] ⟨hx, hb, hml, hown, hts⟩ (fun sz => c_X5_checkVehicle l hlT dC dI cI cV cJ cL P F G T za fa ia bg ck p0 sz) q_ml_X5_157 q_im_X5_checkVehicle q_se_X5_checkVehicle q_ini_X5 q_co_X5_checkVehicle (n := 1) (by decide +kernel) rfl ⟨rfl, rfl⟩ ⟨Nat.le_of_ble_eq_true rfl, Nat.le_of_ble_eq_true rfl⟩ hP hS hA hK hN hXs hZs rfl rfl rfl rfl hl.1 rfl (Nat.le_of_ble_eq_true rfl) dX5_length_2 ⟨Nat.le_of_ble_eq_true rfl, Nat.le_of_ble_eq_true rfl⟩ (fun E ce q9 H locs hpx hP hS hc1 hc2 hc3 => ?_) (fun H locs hpo hP hS => ?_)
  · exact vx_out (fun x h => (htb x h).elim) hlocks hc1 hc2 hc3 (fun t8 ht9 hW9 => ⟨(E, ()), hpx, ⟨rfl, by rw [ht9]; exact hP, va_K.moved hW9 hK, hD⟩, hS.F ht9⟩) hS.2.2 (Nat.le_of_ble_eq_true rfl) (Nat.le_of_ble_eq_true rfl)
  have ho_1 := hpo
  have hP : va_P (dC, dI) cls [(P, .inr (5, [.ref F, .ref G, .ref T, .ref za, .ref (ia 0), .ref (ia 1), .ref (ia 2), .int 0, .int bg])), (F, .inr (0, [.ref (fa 0), .ref (fa 1), .ref (fa 2), .ref (fa 3), .ref (fa 4), .ref (fa 5), .ref (fa 6), .ref (fa 7), .ref (fa 8), .int 0, .int 0, .int ck]))] H := hP
  have hD : va_D A [(P, .inr (5, [.ref F, .ref G, .ref T, .ref za, .ref (ia 0), .ref (ia 1), .ref (ia 2), .int 0, .int bg])), (F, .inr (0, [.ref (fa 0), .ref (fa 1), .ref (fa 2), .ref (fa 3), .ref (fa 4), .ref (fa 5), .ref (fa 6), .ref (fa 7), .ref (fa 8), .int 0, .int 0, .int ck]))] := hD
  exact ho_1.elim
set_option maxHeartbeats 4000000 in
set_option maxRecDepth 100000 in
theorem c_X5_costOf (l : Launch) (hlT : l.stackTraces = false) (dC : Nat → ClassId) (dI : Nat → Nat → Nat) (cI cV cJ cL : ClassId) (P F G T za : Nat) (fa ia : Nat → Nat) (bg ck : Int32) (p0 : Int32) (sz : Nat) : vx_Met l yX5_costOf (Cond.code yX5_costOf cX5_costOf 2 (some .int) :: TB) ({ frames := 12, cells := 1, slots := 6, locals := 500 } : Room) (PXw [.ref P, .int p0] (dC, dI) [(P, .inr (5, [.ref F, .ref G, .ref T, .ref za, .ref (ia 0), .ref (ia 1), .ref (ia 2), .int 0, .int bg])), (F, .inr (0, [.ref (fa 0), .ref (fa 1), .ref (fa 2), .ref (fa 3), .ref (fa 4), .ref (fa 5), .ref (fa 6), .ref (fa 7), .ref (fa 8), .int 0, .int 0, .int ck]))] (TYP cI cV cJ cL) sz) (va_Qi (fun (_ : Int32) (_ : Unit) => False) (QB (dC, dI) (fun (_ : Unit) => []) (TYP cI cV cJ cL) (va_A [(P, .inr (5, [.ref F, .ref G, .ref T, .ref za, .ref (ia 0), .ref (ia 1), .ref (ia 2), .int 0, .int bg])), (F, .inr (0, [.ref (fa 0), .ref (fa 1), .ref (fa 2), .ref (fa 3), .ref (fa 4), .ref (fa 5), .ref (fa 6), .ref (fa 7), .ref (fa 8), .int 0, .int 0, .int ck]))] sz)) (va_A [(P, .inr (5, [.ref F, .ref G, .ref T, .ref za, .ref (ia 0), .ref (ia 1), .ref (ia 2), .int 0, .int bg])), (F, .inr (0, [.ref (fa 0), .ref (fa 1), .ref (fa 2), .ref (fa 3), .ref (fa 4), .ref (fa 5), .ref (fa 6), .ref (fa 7), .ref (fa 8), .int 0, .int 0, .int ck]))] sz)) (vx_X (fun (q : String × Unit) => q.1 = "java/lang/IndexOutOfBoundsException") (fun E (u : String × Unit) t8 => E = u.1 ∧ QB (dC, dI) (fun (_ : Unit) => [(P, .inr (5, [.ref F, .ref G, .ref T, .ref za, .ref (ia 0), .ref (ia 1), .ref (ia 2), .int 0, .int bg])), (F, .inr (0, [.ref (fa 0), .ref (fa 1), .ref (fa 2), .ref (fa 3), .ref (fa 4), .ref (fa 5), .ref (fa 6), .ref (fa 7), .ref (fa 8), .int 0, .int 0, .int ck]))]) (TYP cI cV cJ cL) (va_A [(P, .inr (5, [.ref F, .ref G, .ref T, .ref za, .ref (ia 0), .ref (ia 1), .ref (ia 2), .int 0, .int bg])), (F, .inr (0, [.ref (fa 0), .ref (fa 1), .ref (fa 2), .ref (fa 3), .ref (fa 4), .ref (fa 5), .ref (fa 6), .ref (fa 7), .ref (fa 8), .int 0, .int 0, .int ck]))] sz) u.2 t8) (va_A [(P, .inr (5, [.ref F, .ref G, .ref T, .ref za, .ref (ia 0), .ref (ia 1), .ref (ia 2), .int 0, .int bg])), (F, .inr (0, [.ref (fa 0), .ref (fa 1), .ref (fa 2), .ref (fa 3), .ref (fa 4), .ref (fa 5), .ref (fa 6), .ref (fa 7), .ref (fa 8), .int 0, .int 0, .int ck]))] sz)) 1 6 (va_A [(P, .inr (5, [.ref F, .ref G, .ref T, .ref za, .ref (ia 0), .ref (ia 1), .ref (ia 2), .int 0, .int bg])), (F, .inr (0, [.ref (fa 0), .ref (fa 1), .ref (fa 2), .ref (fa 3), .ref (fa 4), .ref (fa 5), .ref (fa 6), .ref (fa 7), .ref (fa 8), .int 0, .int 0, .int ck]))] sz) := by
  refine vx_ofW (cc := cX5_costOf) (maxL := 2) (ret := (some .int)) (by decide) rfl ?_
  intro p e s m args below meth c s₁ B hml htb hv
  obtain ⟨rfl, hsz, hP, hK, hD0, hN, hXs, hZs⟩ := hv
  have hx := B.exec
  have hb := B.bytes
  have hr := B.returns
  have hts := atoms_spec (ws := (Cond.code yX5_costOf cX5_costOf 2 (some .int) :: TB)) B.pre
  have hown : s.vm.findClass RX5 = some m.cls := findClass_of_methodNamed B.named
  have hlocks := B.notSynchronized
  subst hsz
  have hD := hD0.self (sz := s.heap.size)
  generalize hAe : va_A [(P, .inr (5, [.ref F, .ref G, .ref T, .ref za, .ref (ia 0), .ref (ia 1), .ref (ia 2), .int 0, .int bg])), (F, .inr (0, [.ref (fa 0), .ref (fa 1), .ref (fa 2), .ref (fa 3), .ref (fa 4), .ref (fa 5), .ref (fa 6), .ref (fa 7), .ref (fa 8), .int 0, .int 0, .int ck]))] s.heap.size = A at hD hZs ⊢
  have hA : ∀ q : Nat, s.heap.size ≤ q → A q := fun q h => by rw [← hAe]; exact Or.inr h
  have hS : va_S A s.heap s.heap [] := va_S.rf
  have hl := lv_entry ([.ref P, .int p0]) (n := 2) (Nat.le_of_ble_eq_true rfl)
  rw [lg_entry_eq]
  generalize (lg_sl ([.ref P, .int p0]) ++ List.replicate (2 - (lg_sl ([.ref P, .int p0])).length) Slot.unset).toArray = ls at hl ⊢
  have hl : lv_has ls 2 [(0, .ref P), (1, .int p0)] := hl
  refine lv_aload_n hx hb dX5_costOf_0 rfl (lv_at hl 0 rfl) ?_
  refine lv_iload_n hx hb dX5_costOf_1 rfl (lv_at hl 1 rfl) ?_
  refine k_Xv (ci := 5) (q0 := 0) [.int p0] [0] ⟨hx, hb, hml, hown, hts⟩ (fun sz => c_X5_checkVehicle l hlT dC dI cI cV cJ cL P F G T za fa ia bg ck p0 sz) q_ml_X5_157 q_im_X5_checkVehicle q_se_X5_checkVehicle q_ini_X5 q_co_X5_checkVehicle (n := 1) (by decide +kernel) rfl ⟨rfl, rfl⟩ ⟨Nat.le_of_ble_eq_true rfl, Nat.le_of_ble_eq_true rfl⟩ hP hS hA hK hN hXs hZs rfl rfl rfl rfl hl.1 rfl (Nat.le_of_ble_eq_true rfl) dX5_costOf_2 ⟨Nat.le_of_ble_eq_true rfl, Nat.le_of_ble_eq_true rfl⟩ (fun E ce q9 H locs hpx hP hS hc1 hc2 hc3 => ?_) (fun H locs hpo hP hS => ?_)
  · exact vx_out (fun x h => (htb x h).elim) hlocks hc1 hc2 hc3 (fun t8 ht9 hW9 => ⟨(E, ()), hpx, ⟨rfl, by rw [ht9]; exact hP, va_K.moved hW9 hK, hD⟩, hS.F ht9⟩) hS.2.2 (Nat.le_of_ble_eq_true rfl) (Nat.le_of_ble_eq_true rfl)
  have ho_1 := hpo
  have hP : va_P (dC, dI) cls [(P, .inr (5, [.ref F, .ref G, .ref T, .ref za, .ref (ia 0), .ref (ia 1), .ref (ia 2), .int 0, .int bg])), (F, .inr (0, [.ref (fa 0), .ref (fa 1), .ref (fa 2), .ref (fa 3), .ref (fa 4), .ref (fa 5), .ref (fa 6), .ref (fa 7), .ref (fa 8), .int 0, .int 0, .int ck]))] H := hP
  have hD : va_D A [(P, .inr (5, [.ref F, .ref G, .ref T, .ref za, .ref (ia 0), .ref (ia 1), .ref (ia 2), .int 0, .int bg])), (F, .inr (0, [.ref (fa 0), .ref (fa 1), .ref (fa 2), .ref (fa 3), .ref (fa 4), .ref (fa 5), .ref (fa 6), .ref (fa 7), .ref (fa 8), .int 0, .int 0, .int ck]))] := hD
  exact ho_1.elim
set_option maxHeartbeats 4000000 in
set_option maxRecDepth 100000 in
theorem c_X5_jobAt (l : Launch) (hlT : l.stackTraces = false) (dC : Nat → ClassId) (dI : Nat → Nat → Nat) (cI cV cJ cL : ClassId) (P F G T za : Nat) (fa ia : Nat → Nat) (bg ck : Int32) (p0 p1 : Int32) (sz : Nat) : vx_Met l yX5_jobAt (Cond.code yX5_jobAt cX5_jobAt 3 (some .int) :: TB) ({ frames := 12, cells := 1, slots := 6, locals := 500 } : Room) (PXw [.ref P, .int p0, .int p1] (dC, dI) [(P, .inr (5, [.ref F, .ref G, .ref T, .ref za, .ref (ia 0), .ref (ia 1), .ref (ia 2), .int 0, .int bg])), (F, .inr (0, [.ref (fa 0), .ref (fa 1), .ref (fa 2), .ref (fa 3), .ref (fa 4), .ref (fa 5), .ref (fa 6), .ref (fa 7), .ref (fa 8), .int 0, .int 0, .int ck]))] (TYP cI cV cJ cL) sz) (va_Qi (fun (_ : Int32) (_ : Unit) => False) (QB (dC, dI) (fun (_ : Unit) => []) (TYP cI cV cJ cL) (va_A [(P, .inr (5, [.ref F, .ref G, .ref T, .ref za, .ref (ia 0), .ref (ia 1), .ref (ia 2), .int 0, .int bg])), (F, .inr (0, [.ref (fa 0), .ref (fa 1), .ref (fa 2), .ref (fa 3), .ref (fa 4), .ref (fa 5), .ref (fa 6), .ref (fa 7), .ref (fa 8), .int 0, .int 0, .int ck]))] sz)) (va_A [(P, .inr (5, [.ref F, .ref G, .ref T, .ref za, .ref (ia 0), .ref (ia 1), .ref (ia 2), .int 0, .int bg])), (F, .inr (0, [.ref (fa 0), .ref (fa 1), .ref (fa 2), .ref (fa 3), .ref (fa 4), .ref (fa 5), .ref (fa 6), .ref (fa 7), .ref (fa 8), .int 0, .int 0, .int ck]))] sz)) (vx_X (fun (q : String × Unit) => q.1 = "java/lang/IndexOutOfBoundsException") (fun E (u : String × Unit) t8 => E = u.1 ∧ QB (dC, dI) (fun (_ : Unit) => [(P, .inr (5, [.ref F, .ref G, .ref T, .ref za, .ref (ia 0), .ref (ia 1), .ref (ia 2), .int 0, .int bg])), (F, .inr (0, [.ref (fa 0), .ref (fa 1), .ref (fa 2), .ref (fa 3), .ref (fa 4), .ref (fa 5), .ref (fa 6), .ref (fa 7), .ref (fa 8), .int 0, .int 0, .int ck]))]) (TYP cI cV cJ cL) (va_A [(P, .inr (5, [.ref F, .ref G, .ref T, .ref za, .ref (ia 0), .ref (ia 1), .ref (ia 2), .int 0, .int bg])), (F, .inr (0, [.ref (fa 0), .ref (fa 1), .ref (fa 2), .ref (fa 3), .ref (fa 4), .ref (fa 5), .ref (fa 6), .ref (fa 7), .ref (fa 8), .int 0, .int 0, .int ck]))] sz) u.2 t8) (va_A [(P, .inr (5, [.ref F, .ref G, .ref T, .ref za, .ref (ia 0), .ref (ia 1), .ref (ia 2), .int 0, .int bg])), (F, .inr (0, [.ref (fa 0), .ref (fa 1), .ref (fa 2), .ref (fa 3), .ref (fa 4), .ref (fa 5), .ref (fa 6), .ref (fa 7), .ref (fa 8), .int 0, .int 0, .int ck]))] sz)) 1 6 (va_A [(P, .inr (5, [.ref F, .ref G, .ref T, .ref za, .ref (ia 0), .ref (ia 1), .ref (ia 2), .int 0, .int bg])), (F, .inr (0, [.ref (fa 0), .ref (fa 1), .ref (fa 2), .ref (fa 3), .ref (fa 4), .ref (fa 5), .ref (fa 6), .ref (fa 7), .ref (fa 8), .int 0, .int 0, .int ck]))] sz) := by
  refine vx_ofW (cc := cX5_jobAt) (maxL := 3) (ret := (some .int)) (by decide) rfl ?_
  intro p e s m args below meth c s₁ B hml htb hv
  obtain ⟨rfl, hsz, hP, hK, hD0, hN, hXs, hZs⟩ := hv
  have hx := B.exec
  have hb := B.bytes
  have hr := B.returns
  have hts := atoms_spec (ws := (Cond.code yX5_jobAt cX5_jobAt 3 (some .int) :: TB)) B.pre
  have hown : s.vm.findClass RX5 = some m.cls := findClass_of_methodNamed B.named
  have hlocks := B.notSynchronized
  subst hsz
  have hD := hD0.self (sz := s.heap.size)
  generalize hAe : va_A [(P, .inr (5, [.ref F, .ref G, .ref T, .ref za, .ref (ia 0), .ref (ia 1), .ref (ia 2), .int 0, .int bg])), (F, .inr (0, [.ref (fa 0), .ref (fa 1), .ref (fa 2), .ref (fa 3), .ref (fa 4), .ref (fa 5), .ref (fa 6), .ref (fa 7), .ref (fa 8), .int 0, .int 0, .int ck]))] s.heap.size = A at hD hZs ⊢
  have hA : ∀ q : Nat, s.heap.size ≤ q → A q := fun q h => by rw [← hAe]; exact Or.inr h
  have hS : va_S A s.heap s.heap [] := va_S.rf
  have hl := lv_entry ([.ref P, .int p0, .int p1]) (n := 3) (Nat.le_of_ble_eq_true rfl)
  rw [lg_entry_eq]
  generalize (lg_sl ([.ref P, .int p0, .int p1]) ++ List.replicate (3 - (lg_sl ([.ref P, .int p0, .int p1])).length) Slot.unset).toArray = ls at hl ⊢
  have hl : lv_has ls 3 [(0, .ref P), (1, .int p0), (2, .int p1)] := hl
  refine lv_aload_n hx hb dX5_jobAt_0 rfl (lv_at hl 0 rfl) ?_
  refine lv_iload_n hx hb dX5_jobAt_1 rfl (lv_at hl 1 rfl) ?_
  refine lv_iload_n hx hb dX5_jobAt_2 rfl (lv_at hl 2 rfl) ?_
  refine k_Xv (ci := 5) (q0 := 0) [.int p0, .int p1] [0] ⟨hx, hb, hml, hown, hts⟩ (fun sz => c_X5_checkStop l hlT dC dI cI cV cJ cL P F G T za fa ia bg ck p0 p1 sz) q_ml_X5_250 q_im_X5_checkStop q_se_X5_checkStop q_ini_X5 q_co_X5_checkStop (n := 2) (by decide +kernel) rfl ⟨rfl, rfl⟩ ⟨Nat.le_of_ble_eq_true rfl, Nat.le_of_ble_eq_true rfl⟩ hP hS hA hK hN hXs hZs rfl rfl rfl rfl hl.1 rfl (Nat.le_of_ble_eq_true rfl) dX5_jobAt_3 ⟨Nat.le_of_ble_eq_true rfl, Nat.le_of_ble_eq_true rfl⟩ (fun E ce q9 H locs hpx hP hS hc1 hc2 hc3 => ?_) (fun H locs hpo hP hS => ?_)
  · exact vx_out (fun x h => (htb x h).elim) hlocks hc1 hc2 hc3 (fun t8 ht9 hW9 => ⟨(E, ()), hpx, ⟨rfl, by rw [ht9]; exact hP, va_K.moved hW9 hK, hD⟩, hS.F ht9⟩) hS.2.2 (Nat.le_of_ble_eq_true rfl) (Nat.le_of_ble_eq_true rfl)
  have ho_1 := hpo
  have hP : va_P (dC, dI) cls [(P, .inr (5, [.ref F, .ref G, .ref T, .ref za, .ref (ia 0), .ref (ia 1), .ref (ia 2), .int 0, .int bg])), (F, .inr (0, [.ref (fa 0), .ref (fa 1), .ref (fa 2), .ref (fa 3), .ref (fa 4), .ref (fa 5), .ref (fa 6), .ref (fa 7), .ref (fa 8), .int 0, .int 0, .int ck]))] H := hP
  have hD : va_D A [(P, .inr (5, [.ref F, .ref G, .ref T, .ref za, .ref (ia 0), .ref (ia 1), .ref (ia 2), .int 0, .int bg])), (F, .inr (0, [.ref (fa 0), .ref (fa 1), .ref (fa 2), .ref (fa 3), .ref (fa 4), .ref (fa 5), .ref (fa 6), .ref (fa 7), .ref (fa 8), .int 0, .int 0, .int ck]))] := hD
  exact ho_1.elim
set_option maxHeartbeats 4000000 in
set_option maxRecDepth 100000 in
theorem c_X5_isFetched (l : Launch) (hlT : l.stackTraces = false) (dC : Nat → ClassId) (dI : Nat → Nat → Nat) (cI cV cJ cL : ClassId) (P F G T za : Nat) (fa ia : Nat → Nat) (bg ck : Int32) (p0 p1 : Int32) (sz : Nat) : vx_Met l yX5_isFetched (Cond.code yX5_isFetched cX5_isFetched 3 (some .boolean) :: TB) ({ frames := 12, cells := 1, slots := 6, locals := 500 } : Room) (PXw [.ref P, .int p0, .int p1] (dC, dI) [(P, .inr (5, [.ref F, .ref G, .ref T, .ref za, .ref (ia 0), .ref (ia 1), .ref (ia 2), .int 0, .int bg])), (F, .inr (0, [.ref (fa 0), .ref (fa 1), .ref (fa 2), .ref (fa 3), .ref (fa 4), .ref (fa 5), .ref (fa 6), .ref (fa 7), .ref (fa 8), .int 0, .int 0, .int ck]))] (TYP cI cV cJ cL) sz) (va_Qi (fun (_ : Int32) (_ : Unit) => False) (QB (dC, dI) (fun (_ : Unit) => []) (TYP cI cV cJ cL) (va_A [(P, .inr (5, [.ref F, .ref G, .ref T, .ref za, .ref (ia 0), .ref (ia 1), .ref (ia 2), .int 0, .int bg])), (F, .inr (0, [.ref (fa 0), .ref (fa 1), .ref (fa 2), .ref (fa 3), .ref (fa 4), .ref (fa 5), .ref (fa 6), .ref (fa 7), .ref (fa 8), .int 0, .int 0, .int ck]))] sz)) (va_A [(P, .inr (5, [.ref F, .ref G, .ref T, .ref za, .ref (ia 0), .ref (ia 1), .ref (ia 2), .int 0, .int bg])), (F, .inr (0, [.ref (fa 0), .ref (fa 1), .ref (fa 2), .ref (fa 3), .ref (fa 4), .ref (fa 5), .ref (fa 6), .ref (fa 7), .ref (fa 8), .int 0, .int 0, .int ck]))] sz)) (vx_X (fun (q : String × Unit) => q.1 = "java/lang/IndexOutOfBoundsException") (fun E (u : String × Unit) t8 => E = u.1 ∧ QB (dC, dI) (fun (_ : Unit) => [(P, .inr (5, [.ref F, .ref G, .ref T, .ref za, .ref (ia 0), .ref (ia 1), .ref (ia 2), .int 0, .int bg])), (F, .inr (0, [.ref (fa 0), .ref (fa 1), .ref (fa 2), .ref (fa 3), .ref (fa 4), .ref (fa 5), .ref (fa 6), .ref (fa 7), .ref (fa 8), .int 0, .int 0, .int ck]))]) (TYP cI cV cJ cL) (va_A [(P, .inr (5, [.ref F, .ref G, .ref T, .ref za, .ref (ia 0), .ref (ia 1), .ref (ia 2), .int 0, .int bg])), (F, .inr (0, [.ref (fa 0), .ref (fa 1), .ref (fa 2), .ref (fa 3), .ref (fa 4), .ref (fa 5), .ref (fa 6), .ref (fa 7), .ref (fa 8), .int 0, .int 0, .int ck]))] sz) u.2 t8) (va_A [(P, .inr (5, [.ref F, .ref G, .ref T, .ref za, .ref (ia 0), .ref (ia 1), .ref (ia 2), .int 0, .int bg])), (F, .inr (0, [.ref (fa 0), .ref (fa 1), .ref (fa 2), .ref (fa 3), .ref (fa 4), .ref (fa 5), .ref (fa 6), .ref (fa 7), .ref (fa 8), .int 0, .int 0, .int ck]))] sz)) 1 6 (va_A [(P, .inr (5, [.ref F, .ref G, .ref T, .ref za, .ref (ia 0), .ref (ia 1), .ref (ia 2), .int 0, .int bg])), (F, .inr (0, [.ref (fa 0), .ref (fa 1), .ref (fa 2), .ref (fa 3), .ref (fa 4), .ref (fa 5), .ref (fa 6), .ref (fa 7), .ref (fa 8), .int 0, .int 0, .int ck]))] sz) := by
  refine vx_ofW (cc := cX5_isFetched) (maxL := 3) (ret := (some .boolean)) (by decide) rfl ?_
  intro p e s m args below meth c s₁ B hml htb hv
  obtain ⟨rfl, hsz, hP, hK, hD0, hN, hXs, hZs⟩ := hv
  have hx := B.exec
  have hb := B.bytes
  have hr := B.returns
  have hts := atoms_spec (ws := (Cond.code yX5_isFetched cX5_isFetched 3 (some .boolean) :: TB)) B.pre
  have hown : s.vm.findClass RX5 = some m.cls := findClass_of_methodNamed B.named
  have hlocks := B.notSynchronized
  subst hsz
  have hD := hD0.self (sz := s.heap.size)
  generalize hAe : va_A [(P, .inr (5, [.ref F, .ref G, .ref T, .ref za, .ref (ia 0), .ref (ia 1), .ref (ia 2), .int 0, .int bg])), (F, .inr (0, [.ref (fa 0), .ref (fa 1), .ref (fa 2), .ref (fa 3), .ref (fa 4), .ref (fa 5), .ref (fa 6), .ref (fa 7), .ref (fa 8), .int 0, .int 0, .int ck]))] s.heap.size = A at hD hZs ⊢
  have hA : ∀ q : Nat, s.heap.size ≤ q → A q := fun q h => by rw [← hAe]; exact Or.inr h
  have hS : va_S A s.heap s.heap [] := va_S.rf
  have hl := lv_entry ([.ref P, .int p0, .int p1]) (n := 3) (Nat.le_of_ble_eq_true rfl)
  rw [lg_entry_eq]
  generalize (lg_sl ([.ref P, .int p0, .int p1]) ++ List.replicate (3 - (lg_sl ([.ref P, .int p0, .int p1])).length) Slot.unset).toArray = ls at hl ⊢
  have hl : lv_has ls 3 [(0, .ref P), (1, .int p0), (2, .int p1)] := hl
  refine lv_aload_n hx hb dX5_isFetched_0 rfl (lv_at hl 0 rfl) ?_
  refine lv_iload_n hx hb dX5_isFetched_1 rfl (lv_at hl 1 rfl) ?_
  refine lv_iload_n hx hb dX5_isFetched_2 rfl (lv_at hl 2 rfl) ?_
  refine k_Xv (ci := 5) (q0 := 0) [.int p0, .int p1] [0] ⟨hx, hb, hml, hown, hts⟩ (fun sz => c_X5_checkStop l hlT dC dI cI cV cJ cL P F G T za fa ia bg ck p0 p1 sz) q_ml_X5_250 q_im_X5_checkStop q_se_X5_checkStop q_ini_X5 q_co_X5_checkStop (n := 2) (by decide +kernel) rfl ⟨rfl, rfl⟩ ⟨Nat.le_of_ble_eq_true rfl, Nat.le_of_ble_eq_true rfl⟩ hP hS hA hK hN hXs hZs rfl rfl rfl rfl hl.1 rfl (Nat.le_of_ble_eq_true rfl) dX5_isFetched_3 ⟨Nat.le_of_ble_eq_true rfl, Nat.le_of_ble_eq_true rfl⟩ (fun E ce q9 H locs hpx hP hS hc1 hc2 hc3 => ?_) (fun H locs hpo hP hS => ?_)
  · exact vx_out (fun x h => (htb x h).elim) hlocks hc1 hc2 hc3 (fun t8 ht9 hW9 => ⟨(E, ()), hpx, ⟨rfl, by rw [ht9]; exact hP, va_K.moved hW9 hK, hD⟩, hS.F ht9⟩) hS.2.2 (Nat.le_of_ble_eq_true rfl) (Nat.le_of_ble_eq_true rfl)
  have ho_1 := hpo
  have hP : va_P (dC, dI) cls [(P, .inr (5, [.ref F, .ref G, .ref T, .ref za, .ref (ia 0), .ref (ia 1), .ref (ia 2), .int 0, .int bg])), (F, .inr (0, [.ref (fa 0), .ref (fa 1), .ref (fa 2), .ref (fa 3), .ref (fa 4), .ref (fa 5), .ref (fa 6), .ref (fa 7), .ref (fa 8), .int 0, .int 0, .int ck]))] H := hP
  have hD : va_D A [(P, .inr (5, [.ref F, .ref G, .ref T, .ref za, .ref (ia 0), .ref (ia 1), .ref (ia 2), .int 0, .int bg])), (F, .inr (0, [.ref (fa 0), .ref (fa 1), .ref (fa 2), .ref (fa 3), .ref (fa 4), .ref (fa 5), .ref (fa 6), .ref (fa 7), .ref (fa 8), .int 0, .int 0, .int ck]))] := hD
  exact ho_1.elim
set_option maxHeartbeats 4000000 in
set_option maxRecDepth 100000 in
theorem c_X5_arrives (l : Launch) (hlT : l.stackTraces = false) (dC : Nat → ClassId) (dI : Nat → Nat → Nat) (cI cV cJ cL : ClassId) (P F G T za : Nat) (fa ia : Nat → Nat) (bg ck : Int32) (p0 p1 : Int32) (sz : Nat) : vx_Met l yX5_arrives (Cond.code yX5_arrives cX5_arrives 3 (some .int) :: TB) ({ frames := 12, cells := 1, slots := 6, locals := 500 } : Room) (PXw [.ref P, .int p0, .int p1] (dC, dI) [(P, .inr (5, [.ref F, .ref G, .ref T, .ref za, .ref (ia 0), .ref (ia 1), .ref (ia 2), .int 0, .int bg])), (F, .inr (0, [.ref (fa 0), .ref (fa 1), .ref (fa 2), .ref (fa 3), .ref (fa 4), .ref (fa 5), .ref (fa 6), .ref (fa 7), .ref (fa 8), .int 0, .int 0, .int ck]))] (TYP cI cV cJ cL) sz) (va_Qi (fun (_ : Int32) (_ : Unit) => False) (QB (dC, dI) (fun (_ : Unit) => []) (TYP cI cV cJ cL) (va_A [(P, .inr (5, [.ref F, .ref G, .ref T, .ref za, .ref (ia 0), .ref (ia 1), .ref (ia 2), .int 0, .int bg])), (F, .inr (0, [.ref (fa 0), .ref (fa 1), .ref (fa 2), .ref (fa 3), .ref (fa 4), .ref (fa 5), .ref (fa 6), .ref (fa 7), .ref (fa 8), .int 0, .int 0, .int ck]))] sz)) (va_A [(P, .inr (5, [.ref F, .ref G, .ref T, .ref za, .ref (ia 0), .ref (ia 1), .ref (ia 2), .int 0, .int bg])), (F, .inr (0, [.ref (fa 0), .ref (fa 1), .ref (fa 2), .ref (fa 3), .ref (fa 4), .ref (fa 5), .ref (fa 6), .ref (fa 7), .ref (fa 8), .int 0, .int 0, .int ck]))] sz)) (vx_X (fun (q : String × Unit) => q.1 = "java/lang/IndexOutOfBoundsException") (fun E (u : String × Unit) t8 => E = u.1 ∧ QB (dC, dI) (fun (_ : Unit) => [(P, .inr (5, [.ref F, .ref G, .ref T, .ref za, .ref (ia 0), .ref (ia 1), .ref (ia 2), .int 0, .int bg])), (F, .inr (0, [.ref (fa 0), .ref (fa 1), .ref (fa 2), .ref (fa 3), .ref (fa 4), .ref (fa 5), .ref (fa 6), .ref (fa 7), .ref (fa 8), .int 0, .int 0, .int ck]))]) (TYP cI cV cJ cL) (va_A [(P, .inr (5, [.ref F, .ref G, .ref T, .ref za, .ref (ia 0), .ref (ia 1), .ref (ia 2), .int 0, .int bg])), (F, .inr (0, [.ref (fa 0), .ref (fa 1), .ref (fa 2), .ref (fa 3), .ref (fa 4), .ref (fa 5), .ref (fa 6), .ref (fa 7), .ref (fa 8), .int 0, .int 0, .int ck]))] sz) u.2 t8) (va_A [(P, .inr (5, [.ref F, .ref G, .ref T, .ref za, .ref (ia 0), .ref (ia 1), .ref (ia 2), .int 0, .int bg])), (F, .inr (0, [.ref (fa 0), .ref (fa 1), .ref (fa 2), .ref (fa 3), .ref (fa 4), .ref (fa 5), .ref (fa 6), .ref (fa 7), .ref (fa 8), .int 0, .int 0, .int ck]))] sz)) 1 6 (va_A [(P, .inr (5, [.ref F, .ref G, .ref T, .ref za, .ref (ia 0), .ref (ia 1), .ref (ia 2), .int 0, .int bg])), (F, .inr (0, [.ref (fa 0), .ref (fa 1), .ref (fa 2), .ref (fa 3), .ref (fa 4), .ref (fa 5), .ref (fa 6), .ref (fa 7), .ref (fa 8), .int 0, .int 0, .int ck]))] sz) := by
  refine vx_ofW (cc := cX5_arrives) (maxL := 3) (ret := (some .int)) (by decide) rfl ?_
  intro p e s m args below meth c s₁ B hml htb hv
  obtain ⟨rfl, hsz, hP, hK, hD0, hN, hXs, hZs⟩ := hv
  have hx := B.exec
  have hb := B.bytes
  have hr := B.returns
  have hts := atoms_spec (ws := (Cond.code yX5_arrives cX5_arrives 3 (some .int) :: TB)) B.pre
  have hown : s.vm.findClass RX5 = some m.cls := findClass_of_methodNamed B.named
  have hlocks := B.notSynchronized
  subst hsz
  have hD := hD0.self (sz := s.heap.size)
  generalize hAe : va_A [(P, .inr (5, [.ref F, .ref G, .ref T, .ref za, .ref (ia 0), .ref (ia 1), .ref (ia 2), .int 0, .int bg])), (F, .inr (0, [.ref (fa 0), .ref (fa 1), .ref (fa 2), .ref (fa 3), .ref (fa 4), .ref (fa 5), .ref (fa 6), .ref (fa 7), .ref (fa 8), .int 0, .int 0, .int ck]))] s.heap.size = A at hD hZs ⊢
  have hA : ∀ q : Nat, s.heap.size ≤ q → A q := fun q h => by rw [← hAe]; exact Or.inr h
  have hS : va_S A s.heap s.heap [] := va_S.rf
  have hl := lv_entry ([.ref P, .int p0, .int p1]) (n := 3) (Nat.le_of_ble_eq_true rfl)
  rw [lg_entry_eq]
  generalize (lg_sl ([.ref P, .int p0, .int p1]) ++ List.replicate (3 - (lg_sl ([.ref P, .int p0, .int p1])).length) Slot.unset).toArray = ls at hl ⊢
  have hl : lv_has ls 3 [(0, .ref P), (1, .int p0), (2, .int p1)] := hl
  refine lv_aload_n hx hb dX5_arrives_0 rfl (lv_at hl 0 rfl) ?_
  refine lv_iload_n hx hb dX5_arrives_1 rfl (lv_at hl 1 rfl) ?_
  refine lv_iload_n hx hb dX5_arrives_2 rfl (lv_at hl 2 rfl) ?_
  refine k_Xv (ci := 5) (q0 := 0) [.int p0, .int p1] [0] ⟨hx, hb, hml, hown, hts⟩ (fun sz => c_X5_checkStop l hlT dC dI cI cV cJ cL P F G T za fa ia bg ck p0 p1 sz) q_ml_X5_250 q_im_X5_checkStop q_se_X5_checkStop q_ini_X5 q_co_X5_checkStop (n := 2) (by decide +kernel) rfl ⟨rfl, rfl⟩ ⟨Nat.le_of_ble_eq_true rfl, Nat.le_of_ble_eq_true rfl⟩ hP hS hA hK hN hXs hZs rfl rfl rfl rfl hl.1 rfl (Nat.le_of_ble_eq_true rfl) dX5_arrives_3 ⟨Nat.le_of_ble_eq_true rfl, Nat.le_of_ble_eq_true rfl⟩ (fun E ce q9 H locs hpx hP hS hc1 hc2 hc3 => ?_) (fun H locs hpo hP hS => ?_)
  · exact vx_out (fun x h => (htb x h).elim) hlocks hc1 hc2 hc3 (fun t8 ht9 hW9 => ⟨(E, ()), hpx, ⟨rfl, by rw [ht9]; exact hP, va_K.moved hW9 hK, hD⟩, hS.F ht9⟩) hS.2.2 (Nat.le_of_ble_eq_true rfl) (Nat.le_of_ble_eq_true rfl)
  have ho_1 := hpo
  have hP : va_P (dC, dI) cls [(P, .inr (5, [.ref F, .ref G, .ref T, .ref za, .ref (ia 0), .ref (ia 1), .ref (ia 2), .int 0, .int bg])), (F, .inr (0, [.ref (fa 0), .ref (fa 1), .ref (fa 2), .ref (fa 3), .ref (fa 4), .ref (fa 5), .ref (fa 6), .ref (fa 7), .ref (fa 8), .int 0, .int 0, .int ck]))] H := hP
  have hD : va_D A [(P, .inr (5, [.ref F, .ref G, .ref T, .ref za, .ref (ia 0), .ref (ia 1), .ref (ia 2), .int 0, .int bg])), (F, .inr (0, [.ref (fa 0), .ref (fa 1), .ref (fa 2), .ref (fa 3), .ref (fa 4), .ref (fa 5), .ref (fa 6), .ref (fa 7), .ref (fa 8), .int 0, .int 0, .int ck]))] := hD
  exact ho_1.elim
set_option maxHeartbeats 4000000 in
set_option maxRecDepth 100000 in
theorem c_X5_begins (l : Launch) (hlT : l.stackTraces = false) (dC : Nat → ClassId) (dI : Nat → Nat → Nat) (cI cV cJ cL : ClassId) (P F G T za : Nat) (fa ia : Nat → Nat) (bg ck : Int32) (p0 p1 : Int32) (sz : Nat) : vx_Met l yX5_begins (Cond.code yX5_begins cX5_begins 3 (some .int) :: TB) ({ frames := 12, cells := 1, slots := 6, locals := 500 } : Room) (PXw [.ref P, .int p0, .int p1] (dC, dI) [(P, .inr (5, [.ref F, .ref G, .ref T, .ref za, .ref (ia 0), .ref (ia 1), .ref (ia 2), .int 0, .int bg])), (F, .inr (0, [.ref (fa 0), .ref (fa 1), .ref (fa 2), .ref (fa 3), .ref (fa 4), .ref (fa 5), .ref (fa 6), .ref (fa 7), .ref (fa 8), .int 0, .int 0, .int ck]))] (TYP cI cV cJ cL) sz) (va_Qi (fun (_ : Int32) (_ : Unit) => False) (QB (dC, dI) (fun (_ : Unit) => []) (TYP cI cV cJ cL) (va_A [(P, .inr (5, [.ref F, .ref G, .ref T, .ref za, .ref (ia 0), .ref (ia 1), .ref (ia 2), .int 0, .int bg])), (F, .inr (0, [.ref (fa 0), .ref (fa 1), .ref (fa 2), .ref (fa 3), .ref (fa 4), .ref (fa 5), .ref (fa 6), .ref (fa 7), .ref (fa 8), .int 0, .int 0, .int ck]))] sz)) (va_A [(P, .inr (5, [.ref F, .ref G, .ref T, .ref za, .ref (ia 0), .ref (ia 1), .ref (ia 2), .int 0, .int bg])), (F, .inr (0, [.ref (fa 0), .ref (fa 1), .ref (fa 2), .ref (fa 3), .ref (fa 4), .ref (fa 5), .ref (fa 6), .ref (fa 7), .ref (fa 8), .int 0, .int 0, .int ck]))] sz)) (vx_X (fun (q : String × Unit) => q.1 = "java/lang/IndexOutOfBoundsException") (fun E (u : String × Unit) t8 => E = u.1 ∧ QB (dC, dI) (fun (_ : Unit) => [(P, .inr (5, [.ref F, .ref G, .ref T, .ref za, .ref (ia 0), .ref (ia 1), .ref (ia 2), .int 0, .int bg])), (F, .inr (0, [.ref (fa 0), .ref (fa 1), .ref (fa 2), .ref (fa 3), .ref (fa 4), .ref (fa 5), .ref (fa 6), .ref (fa 7), .ref (fa 8), .int 0, .int 0, .int ck]))]) (TYP cI cV cJ cL) (va_A [(P, .inr (5, [.ref F, .ref G, .ref T, .ref za, .ref (ia 0), .ref (ia 1), .ref (ia 2), .int 0, .int bg])), (F, .inr (0, [.ref (fa 0), .ref (fa 1), .ref (fa 2), .ref (fa 3), .ref (fa 4), .ref (fa 5), .ref (fa 6), .ref (fa 7), .ref (fa 8), .int 0, .int 0, .int ck]))] sz) u.2 t8) (va_A [(P, .inr (5, [.ref F, .ref G, .ref T, .ref za, .ref (ia 0), .ref (ia 1), .ref (ia 2), .int 0, .int bg])), (F, .inr (0, [.ref (fa 0), .ref (fa 1), .ref (fa 2), .ref (fa 3), .ref (fa 4), .ref (fa 5), .ref (fa 6), .ref (fa 7), .ref (fa 8), .int 0, .int 0, .int ck]))] sz)) 1 6 (va_A [(P, .inr (5, [.ref F, .ref G, .ref T, .ref za, .ref (ia 0), .ref (ia 1), .ref (ia 2), .int 0, .int bg])), (F, .inr (0, [.ref (fa 0), .ref (fa 1), .ref (fa 2), .ref (fa 3), .ref (fa 4), .ref (fa 5), .ref (fa 6), .ref (fa 7), .ref (fa 8), .int 0, .int 0, .int ck]))] sz) := by
  refine vx_ofW (cc := cX5_begins) (maxL := 3) (ret := (some .int)) (by decide) rfl ?_
  intro p e s m args below meth c s₁ B hml htb hv
  obtain ⟨rfl, hsz, hP, hK, hD0, hN, hXs, hZs⟩ := hv
  have hx := B.exec
  have hb := B.bytes
  have hr := B.returns
  have hts := atoms_spec (ws := (Cond.code yX5_begins cX5_begins 3 (some .int) :: TB)) B.pre
  have hown : s.vm.findClass RX5 = some m.cls := findClass_of_methodNamed B.named
  have hlocks := B.notSynchronized
  subst hsz
  have hD := hD0.self (sz := s.heap.size)
  generalize hAe : va_A [(P, .inr (5, [.ref F, .ref G, .ref T, .ref za, .ref (ia 0), .ref (ia 1), .ref (ia 2), .int 0, .int bg])), (F, .inr (0, [.ref (fa 0), .ref (fa 1), .ref (fa 2), .ref (fa 3), .ref (fa 4), .ref (fa 5), .ref (fa 6), .ref (fa 7), .ref (fa 8), .int 0, .int 0, .int ck]))] s.heap.size = A at hD hZs ⊢
  have hA : ∀ q : Nat, s.heap.size ≤ q → A q := fun q h => by rw [← hAe]; exact Or.inr h
  have hS : va_S A s.heap s.heap [] := va_S.rf
  have hl := lv_entry ([.ref P, .int p0, .int p1]) (n := 3) (Nat.le_of_ble_eq_true rfl)
  rw [lg_entry_eq]
  generalize (lg_sl ([.ref P, .int p0, .int p1]) ++ List.replicate (3 - (lg_sl ([.ref P, .int p0, .int p1])).length) Slot.unset).toArray = ls at hl ⊢
  have hl : lv_has ls 3 [(0, .ref P), (1, .int p0), (2, .int p1)] := hl
  refine lv_aload_n hx hb dX5_begins_0 rfl (lv_at hl 0 rfl) ?_
  refine lv_iload_n hx hb dX5_begins_1 rfl (lv_at hl 1 rfl) ?_
  refine lv_iload_n hx hb dX5_begins_2 rfl (lv_at hl 2 rfl) ?_
  refine k_Xv (ci := 5) (q0 := 0) [.int p0, .int p1] [0] ⟨hx, hb, hml, hown, hts⟩ (fun sz => c_X5_checkStop l hlT dC dI cI cV cJ cL P F G T za fa ia bg ck p0 p1 sz) q_ml_X5_250 q_im_X5_checkStop q_se_X5_checkStop q_ini_X5 q_co_X5_checkStop (n := 2) (by decide +kernel) rfl ⟨rfl, rfl⟩ ⟨Nat.le_of_ble_eq_true rfl, Nat.le_of_ble_eq_true rfl⟩ hP hS hA hK hN hXs hZs rfl rfl rfl rfl hl.1 rfl (Nat.le_of_ble_eq_true rfl) dX5_begins_3 ⟨Nat.le_of_ble_eq_true rfl, Nat.le_of_ble_eq_true rfl⟩ (fun E ce q9 H locs hpx hP hS hc1 hc2 hc3 => ?_) (fun H locs hpo hP hS => ?_)
  · exact vx_out (fun x h => (htb x h).elim) hlocks hc1 hc2 hc3 (fun t8 ht9 hW9 => ⟨(E, ()), hpx, ⟨rfl, by rw [ht9]; exact hP, va_K.moved hW9 hK, hD⟩, hS.F ht9⟩) hS.2.2 (Nat.le_of_ble_eq_true rfl) (Nat.le_of_ble_eq_true rfl)
  have ho_1 := hpo
  have hP : va_P (dC, dI) cls [(P, .inr (5, [.ref F, .ref G, .ref T, .ref za, .ref (ia 0), .ref (ia 1), .ref (ia 2), .int 0, .int bg])), (F, .inr (0, [.ref (fa 0), .ref (fa 1), .ref (fa 2), .ref (fa 3), .ref (fa 4), .ref (fa 5), .ref (fa 6), .ref (fa 7), .ref (fa 8), .int 0, .int 0, .int ck]))] H := hP
  have hD : va_D A [(P, .inr (5, [.ref F, .ref G, .ref T, .ref za, .ref (ia 0), .ref (ia 1), .ref (ia 2), .int 0, .int bg])), (F, .inr (0, [.ref (fa 0), .ref (fa 1), .ref (fa 2), .ref (fa 3), .ref (fa 4), .ref (fa 5), .ref (fa 6), .ref (fa 7), .ref (fa 8), .int 0, .int 0, .int ck]))] := hD
  exact ho_1.elim
set_option maxHeartbeats 4000000 in
set_option maxRecDepth 100000 in
theorem c_X5_loadBehind (l : Launch) (hlT : l.stackTraces = false) (dC : Nat → ClassId) (dI : Nat → Nat → Nat) (cI cV cJ cL : ClassId) (P F G T za : Nat) (fa ia : Nat → Nat) (bg ck : Int32) (p0 p1 : Int32) (sz : Nat) : vx_Met l yX5_loadBehind (Cond.code yX5_loadBehind cX5_loadBehind 3 (some .int) :: TB) ({ frames := 12, cells := 1, slots := 6, locals := 500 } : Room) (PXw [.ref P, .int p0, .int p1] (dC, dI) [(P, .inr (5, [.ref F, .ref G, .ref T, .ref za, .ref (ia 0), .ref (ia 1), .ref (ia 2), .int 0, .int bg])), (F, .inr (0, [.ref (fa 0), .ref (fa 1), .ref (fa 2), .ref (fa 3), .ref (fa 4), .ref (fa 5), .ref (fa 6), .ref (fa 7), .ref (fa 8), .int 0, .int 0, .int ck]))] (TYP cI cV cJ cL) sz) (va_Qi (fun (_ : Int32) (_ : Unit) => False) (QB (dC, dI) (fun (_ : Unit) => []) (TYP cI cV cJ cL) (va_A [(P, .inr (5, [.ref F, .ref G, .ref T, .ref za, .ref (ia 0), .ref (ia 1), .ref (ia 2), .int 0, .int bg])), (F, .inr (0, [.ref (fa 0), .ref (fa 1), .ref (fa 2), .ref (fa 3), .ref (fa 4), .ref (fa 5), .ref (fa 6), .ref (fa 7), .ref (fa 8), .int 0, .int 0, .int ck]))] sz)) (va_A [(P, .inr (5, [.ref F, .ref G, .ref T, .ref za, .ref (ia 0), .ref (ia 1), .ref (ia 2), .int 0, .int bg])), (F, .inr (0, [.ref (fa 0), .ref (fa 1), .ref (fa 2), .ref (fa 3), .ref (fa 4), .ref (fa 5), .ref (fa 6), .ref (fa 7), .ref (fa 8), .int 0, .int 0, .int ck]))] sz)) (vx_X (fun (q : String × Unit) => q.1 = "java/lang/IndexOutOfBoundsException") (fun E (u : String × Unit) t8 => E = u.1 ∧ QB (dC, dI) (fun (_ : Unit) => [(P, .inr (5, [.ref F, .ref G, .ref T, .ref za, .ref (ia 0), .ref (ia 1), .ref (ia 2), .int 0, .int bg])), (F, .inr (0, [.ref (fa 0), .ref (fa 1), .ref (fa 2), .ref (fa 3), .ref (fa 4), .ref (fa 5), .ref (fa 6), .ref (fa 7), .ref (fa 8), .int 0, .int 0, .int ck]))]) (TYP cI cV cJ cL) (va_A [(P, .inr (5, [.ref F, .ref G, .ref T, .ref za, .ref (ia 0), .ref (ia 1), .ref (ia 2), .int 0, .int bg])), (F, .inr (0, [.ref (fa 0), .ref (fa 1), .ref (fa 2), .ref (fa 3), .ref (fa 4), .ref (fa 5), .ref (fa 6), .ref (fa 7), .ref (fa 8), .int 0, .int 0, .int ck]))] sz) u.2 t8) (va_A [(P, .inr (5, [.ref F, .ref G, .ref T, .ref za, .ref (ia 0), .ref (ia 1), .ref (ia 2), .int 0, .int bg])), (F, .inr (0, [.ref (fa 0), .ref (fa 1), .ref (fa 2), .ref (fa 3), .ref (fa 4), .ref (fa 5), .ref (fa 6), .ref (fa 7), .ref (fa 8), .int 0, .int 0, .int ck]))] sz)) 1 6 (va_A [(P, .inr (5, [.ref F, .ref G, .ref T, .ref za, .ref (ia 0), .ref (ia 1), .ref (ia 2), .int 0, .int bg])), (F, .inr (0, [.ref (fa 0), .ref (fa 1), .ref (fa 2), .ref (fa 3), .ref (fa 4), .ref (fa 5), .ref (fa 6), .ref (fa 7), .ref (fa 8), .int 0, .int 0, .int ck]))] sz) := by
  refine vx_ofW (cc := cX5_loadBehind) (maxL := 3) (ret := (some .int)) (by decide) rfl ?_
  intro p e s m args below meth c s₁ B hml htb hv
  obtain ⟨rfl, hsz, hP, hK, hD0, hN, hXs, hZs⟩ := hv
  have hx := B.exec
  have hb := B.bytes
  have hr := B.returns
  have hts := atoms_spec (ws := (Cond.code yX5_loadBehind cX5_loadBehind 3 (some .int) :: TB)) B.pre
  have hown : s.vm.findClass RX5 = some m.cls := findClass_of_methodNamed B.named
  have hlocks := B.notSynchronized
  subst hsz
  have hD := hD0.self (sz := s.heap.size)
  generalize hAe : va_A [(P, .inr (5, [.ref F, .ref G, .ref T, .ref za, .ref (ia 0), .ref (ia 1), .ref (ia 2), .int 0, .int bg])), (F, .inr (0, [.ref (fa 0), .ref (fa 1), .ref (fa 2), .ref (fa 3), .ref (fa 4), .ref (fa 5), .ref (fa 6), .ref (fa 7), .ref (fa 8), .int 0, .int 0, .int ck]))] s.heap.size = A at hD hZs ⊢
  have hA : ∀ q : Nat, s.heap.size ≤ q → A q := fun q h => by rw [← hAe]; exact Or.inr h
  have hS : va_S A s.heap s.heap [] := va_S.rf
  have hl := lv_entry ([.ref P, .int p0, .int p1]) (n := 3) (Nat.le_of_ble_eq_true rfl)
  rw [lg_entry_eq]
  generalize (lg_sl ([.ref P, .int p0, .int p1]) ++ List.replicate (3 - (lg_sl ([.ref P, .int p0, .int p1])).length) Slot.unset).toArray = ls at hl ⊢
  have hl : lv_has ls 3 [(0, .ref P), (1, .int p0), (2, .int p1)] := hl
  refine lv_aload_n hx hb dX5_loadBehind_0 rfl (lv_at hl 0 rfl) ?_
  refine lv_iload_n hx hb dX5_loadBehind_1 rfl (lv_at hl 1 rfl) ?_
  refine lv_iload_n hx hb dX5_loadBehind_2 rfl (lv_at hl 2 rfl) ?_
  refine k_Xv (ci := 5) (q0 := 0) [.int p0, .int p1] [0] ⟨hx, hb, hml, hown, hts⟩ (fun sz => c_X5_checkStop l hlT dC dI cI cV cJ cL P F G T za fa ia bg ck p0 p1 sz) q_ml_X5_250 q_im_X5_checkStop q_se_X5_checkStop q_ini_X5 q_co_X5_checkStop (n := 2) (by decide +kernel) rfl ⟨rfl, rfl⟩ ⟨Nat.le_of_ble_eq_true rfl, Nat.le_of_ble_eq_true rfl⟩ hP hS hA hK hN hXs hZs rfl rfl rfl rfl hl.1 rfl (Nat.le_of_ble_eq_true rfl) dX5_loadBehind_3 ⟨Nat.le_of_ble_eq_true rfl, Nat.le_of_ble_eq_true rfl⟩ (fun E ce q9 H locs hpx hP hS hc1 hc2 hc3 => ?_) (fun H locs hpo hP hS => ?_)
  · exact vx_out (fun x h => (htb x h).elim) hlocks hc1 hc2 hc3 (fun t8 ht9 hW9 => ⟨(E, ()), hpx, ⟨rfl, by rw [ht9]; exact hP, va_K.moved hW9 hK, hD⟩, hS.F ht9⟩) hS.2.2 (Nat.le_of_ble_eq_true rfl) (Nat.le_of_ble_eq_true rfl)
  have ho_1 := hpo
  have hP : va_P (dC, dI) cls [(P, .inr (5, [.ref F, .ref G, .ref T, .ref za, .ref (ia 0), .ref (ia 1), .ref (ia 2), .int 0, .int bg])), (F, .inr (0, [.ref (fa 0), .ref (fa 1), .ref (fa 2), .ref (fa 3), .ref (fa 4), .ref (fa 5), .ref (fa 6), .ref (fa 7), .ref (fa 8), .int 0, .int 0, .int ck]))] H := hP
  have hD : va_D A [(P, .inr (5, [.ref F, .ref G, .ref T, .ref za, .ref (ia 0), .ref (ia 1), .ref (ia 2), .int 0, .int bg])), (F, .inr (0, [.ref (fa 0), .ref (fa 1), .ref (fa 2), .ref (fa 3), .ref (fa 4), .ref (fa 5), .ref (fa 6), .ref (fa 7), .ref (fa 8), .int 0, .int 0, .int ck]))] := hD
  exact ho_1.elim
set_option maxHeartbeats 4000000 in
set_option maxRecDepth 100000 in
theorem c_X5_slack (l : Launch) (hlT : l.stackTraces = false) (dC : Nat → ClassId) (dI : Nat → Nat → Nat) (cI cV cJ cL : ClassId) (P F G T za : Nat) (fa ia : Nat → Nat) (bg ck : Int32) (p0 p1 : Int32) (sz : Nat) : vx_Met l yX5_slack (Cond.code yX5_slack cX5_slack 3 (some .int) :: TB) ({ frames := 12, cells := 1, slots := 6, locals := 500 } : Room) (PXw [.ref P, .int p0, .int p1] (dC, dI) [(P, .inr (5, [.ref F, .ref G, .ref T, .ref za, .ref (ia 0), .ref (ia 1), .ref (ia 2), .int 0, .int bg])), (F, .inr (0, [.ref (fa 0), .ref (fa 1), .ref (fa 2), .ref (fa 3), .ref (fa 4), .ref (fa 5), .ref (fa 6), .ref (fa 7), .ref (fa 8), .int 0, .int 0, .int ck]))] (TYP cI cV cJ cL) sz) (va_Qi (fun (_ : Int32) (_ : Unit) => False) (QB (dC, dI) (fun (_ : Unit) => []) (TYP cI cV cJ cL) (va_A [(P, .inr (5, [.ref F, .ref G, .ref T, .ref za, .ref (ia 0), .ref (ia 1), .ref (ia 2), .int 0, .int bg])), (F, .inr (0, [.ref (fa 0), .ref (fa 1), .ref (fa 2), .ref (fa 3), .ref (fa 4), .ref (fa 5), .ref (fa 6), .ref (fa 7), .ref (fa 8), .int 0, .int 0, .int ck]))] sz)) (va_A [(P, .inr (5, [.ref F, .ref G, .ref T, .ref za, .ref (ia 0), .ref (ia 1), .ref (ia 2), .int 0, .int bg])), (F, .inr (0, [.ref (fa 0), .ref (fa 1), .ref (fa 2), .ref (fa 3), .ref (fa 4), .ref (fa 5), .ref (fa 6), .ref (fa 7), .ref (fa 8), .int 0, .int 0, .int ck]))] sz)) (vx_X (fun (q : String × Unit) => q.1 = "java/lang/IndexOutOfBoundsException") (fun E (u : String × Unit) t8 => E = u.1 ∧ QB (dC, dI) (fun (_ : Unit) => [(P, .inr (5, [.ref F, .ref G, .ref T, .ref za, .ref (ia 0), .ref (ia 1), .ref (ia 2), .int 0, .int bg])), (F, .inr (0, [.ref (fa 0), .ref (fa 1), .ref (fa 2), .ref (fa 3), .ref (fa 4), .ref (fa 5), .ref (fa 6), .ref (fa 7), .ref (fa 8), .int 0, .int 0, .int ck]))]) (TYP cI cV cJ cL) (va_A [(P, .inr (5, [.ref F, .ref G, .ref T, .ref za, .ref (ia 0), .ref (ia 1), .ref (ia 2), .int 0, .int bg])), (F, .inr (0, [.ref (fa 0), .ref (fa 1), .ref (fa 2), .ref (fa 3), .ref (fa 4), .ref (fa 5), .ref (fa 6), .ref (fa 7), .ref (fa 8), .int 0, .int 0, .int ck]))] sz) u.2 t8) (va_A [(P, .inr (5, [.ref F, .ref G, .ref T, .ref za, .ref (ia 0), .ref (ia 1), .ref (ia 2), .int 0, .int bg])), (F, .inr (0, [.ref (fa 0), .ref (fa 1), .ref (fa 2), .ref (fa 3), .ref (fa 4), .ref (fa 5), .ref (fa 6), .ref (fa 7), .ref (fa 8), .int 0, .int 0, .int ck]))] sz)) 1 6 (va_A [(P, .inr (5, [.ref F, .ref G, .ref T, .ref za, .ref (ia 0), .ref (ia 1), .ref (ia 2), .int 0, .int bg])), (F, .inr (0, [.ref (fa 0), .ref (fa 1), .ref (fa 2), .ref (fa 3), .ref (fa 4), .ref (fa 5), .ref (fa 6), .ref (fa 7), .ref (fa 8), .int 0, .int 0, .int ck]))] sz) := by
  refine vx_ofW (cc := cX5_slack) (maxL := 3) (ret := (some .int)) (by decide) rfl ?_
  intro p e s m args below meth c s₁ B hml htb hv
  obtain ⟨rfl, hsz, hP, hK, hD0, hN, hXs, hZs⟩ := hv
  have hx := B.exec
  have hb := B.bytes
  have hr := B.returns
  have hts := atoms_spec (ws := (Cond.code yX5_slack cX5_slack 3 (some .int) :: TB)) B.pre
  have hown : s.vm.findClass RX5 = some m.cls := findClass_of_methodNamed B.named
  have hlocks := B.notSynchronized
  subst hsz
  have hD := hD0.self (sz := s.heap.size)
  generalize hAe : va_A [(P, .inr (5, [.ref F, .ref G, .ref T, .ref za, .ref (ia 0), .ref (ia 1), .ref (ia 2), .int 0, .int bg])), (F, .inr (0, [.ref (fa 0), .ref (fa 1), .ref (fa 2), .ref (fa 3), .ref (fa 4), .ref (fa 5), .ref (fa 6), .ref (fa 7), .ref (fa 8), .int 0, .int 0, .int ck]))] s.heap.size = A at hD hZs ⊢
  have hA : ∀ q : Nat, s.heap.size ≤ q → A q := fun q h => by rw [← hAe]; exact Or.inr h
  have hS : va_S A s.heap s.heap [] := va_S.rf
  have hl := lv_entry ([.ref P, .int p0, .int p1]) (n := 3) (Nat.le_of_ble_eq_true rfl)
  rw [lg_entry_eq]
  generalize (lg_sl ([.ref P, .int p0, .int p1]) ++ List.replicate (3 - (lg_sl ([.ref P, .int p0, .int p1])).length) Slot.unset).toArray = ls at hl ⊢
  have hl : lv_has ls 3 [(0, .ref P), (1, .int p0), (2, .int p1)] := hl
  refine lv_aload_n hx hb dX5_slack_0 rfl (lv_at hl 0 rfl) ?_
  refine lv_iload_n hx hb dX5_slack_1 rfl (lv_at hl 1 rfl) ?_
  refine lv_iload_n hx hb dX5_slack_2 rfl (lv_at hl 2 rfl) ?_
  refine k_Xv (ci := 5) (q0 := 0) [.int p0, .int p1] [0] ⟨hx, hb, hml, hown, hts⟩ (fun sz => c_X5_checkStop l hlT dC dI cI cV cJ cL P F G T za fa ia bg ck p0 p1 sz) q_ml_X5_250 q_im_X5_checkStop q_se_X5_checkStop q_ini_X5 q_co_X5_checkStop (n := 2) (by decide +kernel) rfl ⟨rfl, rfl⟩ ⟨Nat.le_of_ble_eq_true rfl, Nat.le_of_ble_eq_true rfl⟩ hP hS hA hK hN hXs hZs rfl rfl rfl rfl hl.1 rfl (Nat.le_of_ble_eq_true rfl) dX5_slack_3 ⟨Nat.le_of_ble_eq_true rfl, Nat.le_of_ble_eq_true rfl⟩ (fun E ce q9 H locs hpx hP hS hc1 hc2 hc3 => ?_) (fun H locs hpo hP hS => ?_)
  · exact vx_out (fun x h => (htb x h).elim) hlocks hc1 hc2 hc3 (fun t8 ht9 hW9 => ⟨(E, ()), hpx, ⟨rfl, by rw [ht9]; exact hP, va_K.moved hW9 hK, hD⟩, hS.F ht9⟩) hS.2.2 (Nat.le_of_ble_eq_true rfl) (Nat.le_of_ble_eq_true rfl)
  have ho_1 := hpo
  have hP : va_P (dC, dI) cls [(P, .inr (5, [.ref F, .ref G, .ref T, .ref za, .ref (ia 0), .ref (ia 1), .ref (ia 2), .int 0, .int bg])), (F, .inr (0, [.ref (fa 0), .ref (fa 1), .ref (fa 2), .ref (fa 3), .ref (fa 4), .ref (fa 5), .ref (fa 6), .ref (fa 7), .ref (fa 8), .int 0, .int 0, .int ck]))] H := hP
  have hD : va_D A [(P, .inr (5, [.ref F, .ref G, .ref T, .ref za, .ref (ia 0), .ref (ia 1), .ref (ia 2), .int 0, .int bg])), (F, .inr (0, [.ref (fa 0), .ref (fa 1), .ref (fa 2), .ref (fa 3), .ref (fa 4), .ref (fa 5), .ref (fa 6), .ref (fa 7), .ref (fa 8), .int 0, .int 0, .int ck]))] := hD
  exact ho_1.elim
set_option maxHeartbeats 4000000 in
set_option maxRecDepth 100000 in
theorem c_X5_laterBack (l : Launch) (hlT : l.stackTraces = false) (dC : Nat → ClassId) (dI : Nat → Nat → Nat) (cI cV cJ cL : ClassId) (P F G T za : Nat) (fa ia : Nat → Nat) (bg ck : Int32) (p0 p1 p2 : Int32) (sz : Nat) : vx_Met l yX5_laterBack (Cond.code yX5_laterBack cX5_laterBack 6 (some .int) :: TB) ({ frames := 12, cells := 1, slots := 6, locals := 500 } : Room) (PXw [.ref P, .int p0, .int p1, .int p2] (dC, dI) [(P, .inr (5, [.ref F, .ref G, .ref T, .ref za, .ref (ia 0), .ref (ia 1), .ref (ia 2), .int 0, .int bg])), (F, .inr (0, [.ref (fa 0), .ref (fa 1), .ref (fa 2), .ref (fa 3), .ref (fa 4), .ref (fa 5), .ref (fa 6), .ref (fa 7), .ref (fa 8), .int 0, .int 0, .int ck]))] (TYP cI cV cJ cL) sz) (va_Qi (fun (_ : Int32) (_ : Unit) => False) (QB (dC, dI) (fun (_ : Unit) => []) (TYP cI cV cJ cL) (va_A [(P, .inr (5, [.ref F, .ref G, .ref T, .ref za, .ref (ia 0), .ref (ia 1), .ref (ia 2), .int 0, .int bg])), (F, .inr (0, [.ref (fa 0), .ref (fa 1), .ref (fa 2), .ref (fa 3), .ref (fa 4), .ref (fa 5), .ref (fa 6), .ref (fa 7), .ref (fa 8), .int 0, .int 0, .int ck]))] sz)) (va_A [(P, .inr (5, [.ref F, .ref G, .ref T, .ref za, .ref (ia 0), .ref (ia 1), .ref (ia 2), .int 0, .int bg])), (F, .inr (0, [.ref (fa 0), .ref (fa 1), .ref (fa 2), .ref (fa 3), .ref (fa 4), .ref (fa 5), .ref (fa 6), .ref (fa 7), .ref (fa 8), .int 0, .int 0, .int ck]))] sz)) (vx_X (fun (q : String × Unit) => q.1 = "java/lang/IndexOutOfBoundsException") (fun E (u : String × Unit) t8 => E = u.1 ∧ QB (dC, dI) (fun (_ : Unit) => [(P, .inr (5, [.ref F, .ref G, .ref T, .ref za, .ref (ia 0), .ref (ia 1), .ref (ia 2), .int 0, .int bg])), (F, .inr (0, [.ref (fa 0), .ref (fa 1), .ref (fa 2), .ref (fa 3), .ref (fa 4), .ref (fa 5), .ref (fa 6), .ref (fa 7), .ref (fa 8), .int 0, .int 0, .int ck]))]) (TYP cI cV cJ cL) (va_A [(P, .inr (5, [.ref F, .ref G, .ref T, .ref za, .ref (ia 0), .ref (ia 1), .ref (ia 2), .int 0, .int bg])), (F, .inr (0, [.ref (fa 0), .ref (fa 1), .ref (fa 2), .ref (fa 3), .ref (fa 4), .ref (fa 5), .ref (fa 6), .ref (fa 7), .ref (fa 8), .int 0, .int 0, .int ck]))] sz) u.2 t8) (va_A [(P, .inr (5, [.ref F, .ref G, .ref T, .ref za, .ref (ia 0), .ref (ia 1), .ref (ia 2), .int 0, .int bg])), (F, .inr (0, [.ref (fa 0), .ref (fa 1), .ref (fa 2), .ref (fa 3), .ref (fa 4), .ref (fa 5), .ref (fa 6), .ref (fa 7), .ref (fa 8), .int 0, .int 0, .int ck]))] sz)) 1 6 (va_A [(P, .inr (5, [.ref F, .ref G, .ref T, .ref za, .ref (ia 0), .ref (ia 1), .ref (ia 2), .int 0, .int bg])), (F, .inr (0, [.ref (fa 0), .ref (fa 1), .ref (fa 2), .ref (fa 3), .ref (fa 4), .ref (fa 5), .ref (fa 6), .ref (fa 7), .ref (fa 8), .int 0, .int 0, .int ck]))] sz) := by
  refine vx_ofW (cc := cX5_laterBack) (maxL := 6) (ret := (some .int)) (by decide) rfl ?_
  intro p e s m args below meth c s₁ B hml htb hv
  obtain ⟨rfl, hsz, hP, hK, hD0, hN, hXs, hZs⟩ := hv
  have hx := B.exec
  have hb := B.bytes
  have hr := B.returns
  have hts := atoms_spec (ws := (Cond.code yX5_laterBack cX5_laterBack 6 (some .int) :: TB)) B.pre
  have hown : s.vm.findClass RX5 = some m.cls := findClass_of_methodNamed B.named
  have hlocks := B.notSynchronized
  subst hsz
  have hD := hD0.self (sz := s.heap.size)
  generalize hAe : va_A [(P, .inr (5, [.ref F, .ref G, .ref T, .ref za, .ref (ia 0), .ref (ia 1), .ref (ia 2), .int 0, .int bg])), (F, .inr (0, [.ref (fa 0), .ref (fa 1), .ref (fa 2), .ref (fa 3), .ref (fa 4), .ref (fa 5), .ref (fa 6), .ref (fa 7), .ref (fa 8), .int 0, .int 0, .int ck]))] s.heap.size = A at hD hZs ⊢
  have hA : ∀ q : Nat, s.heap.size ≤ q → A q := fun q h => by rw [← hAe]; exact Or.inr h
  have hS : va_S A s.heap s.heap [] := va_S.rf
  have hl := lv_entry ([.ref P, .int p0, .int p1, .int p2]) (n := 6) (Nat.le_of_ble_eq_true rfl)
  rw [lg_entry_eq]
  generalize (lg_sl ([.ref P, .int p0, .int p1, .int p2]) ++ List.replicate (6 - (lg_sl ([.ref P, .int p0, .int p1, .int p2])).length) Slot.unset).toArray = ls at hl ⊢
  have hl : lv_has ls 6 [(0, .ref P), (1, .int p0), (2, .int p1), (3, .int p2)] := hl
  refine lv_aload_n hx hb dX5_laterBack_0 rfl (lv_at hl 0 rfl) ?_
  refine lv_iload_n hx hb dX5_laterBack_1 rfl (lv_at hl 1 rfl) ?_
  refine lv_iload_n hx hb dX5_laterBack_2 rfl (lv_at hl 2 rfl) ?_
  refine k_Xv (ci := 5) (q0 := 0) [.int p0, .int p1] [0] ⟨hx, hb, hml, hown, hts⟩ (fun sz => c_X5_checkStop l hlT dC dI cI cV cJ cL P F G T za fa ia bg ck p0 p1 sz) q_ml_X5_250 q_im_X5_checkStop q_se_X5_checkStop q_ini_X5 q_co_X5_checkStop (n := 2) (by decide +kernel) rfl ⟨rfl, rfl⟩ ⟨Nat.le_of_ble_eq_true rfl, Nat.le_of_ble_eq_true rfl⟩ hP hS hA hK hN hXs hZs rfl rfl rfl rfl hl.1 rfl (Nat.le_of_ble_eq_true rfl) dX5_laterBack_3 ⟨Nat.le_of_ble_eq_true rfl, Nat.le_of_ble_eq_true rfl⟩ (fun E ce q9 H locs hpx hP hS hc1 hc2 hc3 => ?_) (fun H locs hpo hP hS => ?_)
  · exact vx_out (fun x h => (htb x h).elim) hlocks hc1 hc2 hc3 (fun t8 ht9 hW9 => ⟨(E, ()), hpx, ⟨rfl, by rw [ht9]; exact hP, va_K.moved hW9 hK, hD⟩, hS.F ht9⟩) hS.2.2 (Nat.le_of_ble_eq_true rfl) (Nat.le_of_ble_eq_true rfl)
  have ho_1 := hpo
  have hP : va_P (dC, dI) cls [(P, .inr (5, [.ref F, .ref G, .ref T, .ref za, .ref (ia 0), .ref (ia 1), .ref (ia 2), .int 0, .int bg])), (F, .inr (0, [.ref (fa 0), .ref (fa 1), .ref (fa 2), .ref (fa 3), .ref (fa 4), .ref (fa 5), .ref (fa 6), .ref (fa 7), .ref (fa 8), .int 0, .int 0, .int ck]))] H := hP
  have hD : va_D A [(P, .inr (5, [.ref F, .ref G, .ref T, .ref za, .ref (ia 0), .ref (ia 1), .ref (ia 2), .int 0, .int bg])), (F, .inr (0, [.ref (fa 0), .ref (fa 1), .ref (fa 2), .ref (fa 3), .ref (fa 4), .ref (fa 5), .ref (fa 6), .ref (fa 7), .ref (fa 8), .int 0, .int 0, .int ck]))] := hD
  exact ho_1.elim
set_option maxHeartbeats 4000000 in
set_option maxRecDepth 100000 in
theorem c_X5_searchMoves (l : Launch) (dC : Nat → ClassId) (dI : Nat → Nat → Nat) (cI cV cJ cL : ClassId) (P F G T za : Nat) (fa ia : Nat → Nat) (bg ck : Int32)  (sz : Nat) : Met l yX5_searchMoves (Cond.code yX5_searchMoves cX5_searchMoves 9 none :: TB) ({ frames := 1, cells := 0, slots := 0, locals := 24 } : Room) (PW [.ref P] (dC, dI) [(P, .inr (5, [.ref F, .ref G, .ref T, .ref za, .ref (ia 0), .ref (ia 1), .ref (ia 2), .int 0, .int bg])), (F, .inr (0, [.ref (fa 0), .ref (fa 1), .ref (fa 2), .ref (fa 3), .ref (fa 4), .ref (fa 5), .ref (fa 6), .ref (fa 7), .ref (fa 8), .int 0, .int 0, .int ck]))] (TYP cI cV cJ cL) sz) (va_Qv (fun (_ : Unit) => True) (QB (dC, dI) (fun (_ : Unit) => [(P, .inr (5, [.ref F, .ref G, .ref T, .ref za, .ref (ia 0), .ref (ia 1), .ref (ia 2), .int 0, .int bg])), (F, .inr (0, [.ref (fa 0), .ref (fa 1), .ref (fa 2), .ref (fa 3), .ref (fa 4), .ref (fa 5), .ref (fa 6), .ref (fa 7), .ref (fa 8), .int 0, .int 0, .int ck]))]) (TYP cI cV cJ cL) (va_A [(P, .inr (5, [.ref F, .ref G, .ref T, .ref za, .ref (ia 0), .ref (ia 1), .ref (ia 2), .int 0, .int bg])), (F, .inr (0, [.ref (fa 0), .ref (fa 1), .ref (fa 2), .ref (fa 3), .ref (fa 4), .ref (fa 5), .ref (fa 6), .ref (fa 7), .ref (fa 8), .int 0, .int 0, .int ck]))] sz)) (va_A [(P, .inr (5, [.ref F, .ref G, .ref T, .ref za, .ref (ia 0), .ref (ia 1), .ref (ia 2), .int 0, .int bg])), (F, .inr (0, [.ref (fa 0), .ref (fa 1), .ref (fa 2), .ref (fa 3), .ref (fa 4), .ref (fa 5), .ref (fa 6), .ref (fa 7), .ref (fa 8), .int 0, .int 0, .int ck]))] sz)) 0 0 (va_A [(P, .inr (5, [.ref F, .ref G, .ref T, .ref za, .ref (ia 0), .ref (ia 1), .ref (ia 2), .int 0, .int bg])), (F, .inr (0, [.ref (fa 0), .ref (fa 1), .ref (fa 2), .ref (fa 3), .ref (fa 4), .ref (fa 5), .ref (fa 6), .ref (fa 7), .ref (fa 8), .int 0, .int 0, .int ck]))] sz) := by
  refine Met.ofW (cc := cX5_searchMoves) (maxL := 9) (ret := none) (by decide) rfl ?_
  intro p e s m args below meth c s₁ B hml hv
  obtain ⟨rfl, hsz, hP, hK, hD0, hN⟩ := hv
  have hx := B.exec
  have hb := B.bytes
  have hr := B.returns
  have hts := atoms_spec (ws := (Cond.code yX5_searchMoves cX5_searchMoves 9 none :: TB)) B.pre
  have hown : s.vm.findClass RX5 = some m.cls := findClass_of_methodNamed B.named
  have hlocks := B.notSynchronized
  subst hsz
  have hD := hD0.self (sz := s.heap.size)
  generalize hAe : va_A [(P, .inr (5, [.ref F, .ref G, .ref T, .ref za, .ref (ia 0), .ref (ia 1), .ref (ia 2), .int 0, .int bg])), (F, .inr (0, [.ref (fa 0), .ref (fa 1), .ref (fa 2), .ref (fa 3), .ref (fa 4), .ref (fa 5), .ref (fa 6), .ref (fa 7), .ref (fa 8), .int 0, .int 0, .int ck]))] s.heap.size = A at hD ⊢
  have hA : ∀ q : Nat, s.heap.size ≤ q → A q := fun q h => by rw [← hAe]; exact Or.inr h
  have hS : va_S A s.heap s.heap [] := va_S.rf
  have hl := lv_entry ([.ref P]) (n := 9) (Nat.le_of_ble_eq_true rfl)
  rw [lg_entry_eq]
  generalize (lg_sl ([.ref P]) ++ List.replicate (9 - (lg_sl ([.ref P])).length) Slot.unset).toArray = ls at hl ⊢
  have hl : lv_has ls 9 [(0, .ref P)] := hl
  refine lv_iconst (v := 0) hx hb dX5_searchMoves_0 (by decide) ?_
  refine lv_istore_n (lv' := [(1, .int 0), (0, .ref P)]) hx hb dX5_searchMoves_1 rfl hl (by decide) rfl (fun ls hl => ?_)
  refine lv_iload_n hx hb dX5_searchMoves_2 rfl (lv_at hl 0 rfl) ?_
  refine lv_aload_n hx hb dX5_searchMoves_3 rfl (lv_at hl 1 rfl) ?_
  refine va_get (D := (dC, dI)) (ci := 5) (v := .ref F) (C := RX5) (T := TX5) (N := 9) hx hb hts (fun w h => tb_in (inX5 w h)) hown hK hP 0 rfl rfl 0 (by decide) (hts _ (tb_in q_fl_X5_12)) (fun _ h9 => h9) rfl dX5_searchMoves_4 ?_
  refine va_get (D := (dC, dI)) (ci := 0) (v := .int 0) (C := RX0) (T := TX0) (N := 12) hx hb hts (fun w h => tb_in (inX0 w h)) hown hK hP 1 rfl rfl 10 (by decide) (hts _ (tb_in q_fl_X5_111)) (fun _ h9 => h9) rfl dX5_searchMoves_7 ?_
  refine lv_icmp_ge (tgt := 241) hx hb dX5_searchMoves_10 (by decide) (fun c_1 => ?_) (fun c_1 => ?_)
  rotate_left
  · first | exact absurd c_1 (by decide) | exact absurd (by decide) c_1
  refine W.widen (k := 0) (n := 0) (Nat.le_of_ble_eq_true rfl) (Nat.le_of_ble_eq_true rfl) ?_
  have hP9 := hP
  have hD9 := hD
  exact W.vret hx hb hr (fun t9 ht9 hW9 => ⟨⟨(), rfl, trivial, by rw [ht9]; exact hP9, va_K.moved hW9.alike hK, hD9⟩, hS.F ht9⟩) hS.2.2 dX5_searchMoves_241
set_option maxHeartbeats 4000000 in
set_option maxRecDepth 100000 in
theorem c_X5_searchSwaps (l : Launch) (dC : Nat → ClassId) (dI : Nat → Nat → Nat) (cI cV cJ cL : ClassId) (P F G T za : Nat) (fa ia : Nat → Nat) (bg ck : Int32)  (sz : Nat) : Met l yX5_searchSwaps (Cond.code yX5_searchSwaps cX5_searchSwaps 5 none :: TB) ({ frames := 1, cells := 0, slots := 0, locals := 24 } : Room) (PW [.ref P] (dC, dI) [(P, .inr (5, [.ref F, .ref G, .ref T, .ref za, .ref (ia 0), .ref (ia 1), .ref (ia 2), .int 0, .int bg])), (F, .inr (0, [.ref (fa 0), .ref (fa 1), .ref (fa 2), .ref (fa 3), .ref (fa 4), .ref (fa 5), .ref (fa 6), .ref (fa 7), .ref (fa 8), .int 0, .int 0, .int ck]))] (TYP cI cV cJ cL) sz) (va_Qv (fun (_ : Unit) => True) (QB (dC, dI) (fun (_ : Unit) => [(P, .inr (5, [.ref F, .ref G, .ref T, .ref za, .ref (ia 0), .ref (ia 1), .ref (ia 2), .int 0, .int bg])), (F, .inr (0, [.ref (fa 0), .ref (fa 1), .ref (fa 2), .ref (fa 3), .ref (fa 4), .ref (fa 5), .ref (fa 6), .ref (fa 7), .ref (fa 8), .int 0, .int 0, .int ck]))]) (TYP cI cV cJ cL) (va_A [(P, .inr (5, [.ref F, .ref G, .ref T, .ref za, .ref (ia 0), .ref (ia 1), .ref (ia 2), .int 0, .int bg])), (F, .inr (0, [.ref (fa 0), .ref (fa 1), .ref (fa 2), .ref (fa 3), .ref (fa 4), .ref (fa 5), .ref (fa 6), .ref (fa 7), .ref (fa 8), .int 0, .int 0, .int ck]))] sz)) (va_A [(P, .inr (5, [.ref F, .ref G, .ref T, .ref za, .ref (ia 0), .ref (ia 1), .ref (ia 2), .int 0, .int bg])), (F, .inr (0, [.ref (fa 0), .ref (fa 1), .ref (fa 2), .ref (fa 3), .ref (fa 4), .ref (fa 5), .ref (fa 6), .ref (fa 7), .ref (fa 8), .int 0, .int 0, .int ck]))] sz)) 0 0 (va_A [(P, .inr (5, [.ref F, .ref G, .ref T, .ref za, .ref (ia 0), .ref (ia 1), .ref (ia 2), .int 0, .int bg])), (F, .inr (0, [.ref (fa 0), .ref (fa 1), .ref (fa 2), .ref (fa 3), .ref (fa 4), .ref (fa 5), .ref (fa 6), .ref (fa 7), .ref (fa 8), .int 0, .int 0, .int ck]))] sz) := by
  refine Met.ofW (cc := cX5_searchSwaps) (maxL := 5) (ret := none) (by decide) rfl ?_
  intro p e s m args below meth c s₁ B hml hv
  obtain ⟨rfl, hsz, hP, hK, hD0, hN⟩ := hv
  have hx := B.exec
  have hb := B.bytes
  have hr := B.returns
  have hts := atoms_spec (ws := (Cond.code yX5_searchSwaps cX5_searchSwaps 5 none :: TB)) B.pre
  have hown : s.vm.findClass RX5 = some m.cls := findClass_of_methodNamed B.named
  have hlocks := B.notSynchronized
  subst hsz
  have hD := hD0.self (sz := s.heap.size)
  generalize hAe : va_A [(P, .inr (5, [.ref F, .ref G, .ref T, .ref za, .ref (ia 0), .ref (ia 1), .ref (ia 2), .int 0, .int bg])), (F, .inr (0, [.ref (fa 0), .ref (fa 1), .ref (fa 2), .ref (fa 3), .ref (fa 4), .ref (fa 5), .ref (fa 6), .ref (fa 7), .ref (fa 8), .int 0, .int 0, .int ck]))] s.heap.size = A at hD ⊢
  have hA : ∀ q : Nat, s.heap.size ≤ q → A q := fun q h => by rw [← hAe]; exact Or.inr h
  have hS : va_S A s.heap s.heap [] := va_S.rf
  have hl := lv_entry ([.ref P]) (n := 5) (Nat.le_of_ble_eq_true rfl)
  rw [lg_entry_eq]
  generalize (lg_sl ([.ref P]) ++ List.replicate (5 - (lg_sl ([.ref P])).length) Slot.unset).toArray = ls at hl ⊢
  have hl : lv_has ls 5 [(0, .ref P)] := hl
  refine lv_iconst (v := 0) hx hb dX5_searchSwaps_0 (by decide) ?_
  refine lv_istore_n (lv' := [(1, .int 0), (0, .ref P)]) hx hb dX5_searchSwaps_1 rfl hl (by decide) rfl (fun ls hl => ?_)
  refine lv_iload_n hx hb dX5_searchSwaps_2 rfl (lv_at hl 0 rfl) ?_
  refine lv_aload_n hx hb dX5_searchSwaps_3 rfl (lv_at hl 1 rfl) ?_
  refine va_get (D := (dC, dI)) (ci := 5) (v := .ref F) (C := RX5) (T := TX5) (N := 9) hx hb hts (fun w h => tb_in (inX5 w h)) hown hK hP 0 rfl rfl 0 (by decide) (hts _ (tb_in q_fl_X5_12)) (fun _ h9 => h9) rfl dX5_searchSwaps_4 ?_
  refine va_get (D := (dC, dI)) (ci := 0) (v := .int 0) (C := RX0) (T := TX0) (N := 12) hx hb hts (fun w h => tb_in (inX0 w h)) hown hK hP 1 rfl rfl 10 (by decide) (hts _ (tb_in q_fl_X5_111)) (fun _ h9 => h9) rfl dX5_searchSwaps_7 ?_
  refine lv_icmp_ge (tgt := 166) hx hb dX5_searchSwaps_10 (by decide) (fun c_1 => ?_) (fun c_1 => ?_)
  rotate_left
  · first | exact absurd c_1 (by decide) | exact absurd (by decide) c_1
  refine W.widen (k := 0) (n := 0) (Nat.le_of_ble_eq_true rfl) (Nat.le_of_ble_eq_true rfl) ?_
  have hP9 := hP
  have hD9 := hD
  exact W.vret hx hb hr (fun t9 ht9 hW9 => ⟨⟨(), rfl, trivial, by rw [ht9]; exact hP9, va_K.moved hW9.alike hK, hD9⟩, hS.F ht9⟩) hS.2.2 dX5_searchSwaps_166
set_option maxHeartbeats 4000000 in
set_option maxRecDepth 100000 in
theorem c_X5_searchTurns (l : Launch) (dC : Nat → ClassId) (dI : Nat → Nat → Nat) (cI cV cJ cL : ClassId) (P F G T za : Nat) (fa ia : Nat → Nat) (bg ck : Int32)  (sz : Nat) : Met l yX5_searchTurns (Cond.code yX5_searchTurns cX5_searchTurns 5 none :: TB) ({ frames := 1, cells := 0, slots := 0, locals := 24 } : Room) (PW [.ref P] (dC, dI) [(P, .inr (5, [.ref F, .ref G, .ref T, .ref za, .ref (ia 0), .ref (ia 1), .ref (ia 2), .int 0, .int bg])), (F, .inr (0, [.ref (fa 0), .ref (fa 1), .ref (fa 2), .ref (fa 3), .ref (fa 4), .ref (fa 5), .ref (fa 6), .ref (fa 7), .ref (fa 8), .int 0, .int 0, .int ck]))] (TYP cI cV cJ cL) sz) (va_Qv (fun (_ : Unit) => True) (QB (dC, dI) (fun (_ : Unit) => [(P, .inr (5, [.ref F, .ref G, .ref T, .ref za, .ref (ia 0), .ref (ia 1), .ref (ia 2), .int 0, .int bg])), (F, .inr (0, [.ref (fa 0), .ref (fa 1), .ref (fa 2), .ref (fa 3), .ref (fa 4), .ref (fa 5), .ref (fa 6), .ref (fa 7), .ref (fa 8), .int 0, .int 0, .int ck]))]) (TYP cI cV cJ cL) (va_A [(P, .inr (5, [.ref F, .ref G, .ref T, .ref za, .ref (ia 0), .ref (ia 1), .ref (ia 2), .int 0, .int bg])), (F, .inr (0, [.ref (fa 0), .ref (fa 1), .ref (fa 2), .ref (fa 3), .ref (fa 4), .ref (fa 5), .ref (fa 6), .ref (fa 7), .ref (fa 8), .int 0, .int 0, .int ck]))] sz)) (va_A [(P, .inr (5, [.ref F, .ref G, .ref T, .ref za, .ref (ia 0), .ref (ia 1), .ref (ia 2), .int 0, .int bg])), (F, .inr (0, [.ref (fa 0), .ref (fa 1), .ref (fa 2), .ref (fa 3), .ref (fa 4), .ref (fa 5), .ref (fa 6), .ref (fa 7), .ref (fa 8), .int 0, .int 0, .int ck]))] sz)) 0 0 (va_A [(P, .inr (5, [.ref F, .ref G, .ref T, .ref za, .ref (ia 0), .ref (ia 1), .ref (ia 2), .int 0, .int bg])), (F, .inr (0, [.ref (fa 0), .ref (fa 1), .ref (fa 2), .ref (fa 3), .ref (fa 4), .ref (fa 5), .ref (fa 6), .ref (fa 7), .ref (fa 8), .int 0, .int 0, .int ck]))] sz) := by
  refine Met.ofW (cc := cX5_searchTurns) (maxL := 5) (ret := none) (by decide) rfl ?_
  intro p e s m args below meth c s₁ B hml hv
  obtain ⟨rfl, hsz, hP, hK, hD0, hN⟩ := hv
  have hx := B.exec
  have hb := B.bytes
  have hr := B.returns
  have hts := atoms_spec (ws := (Cond.code yX5_searchTurns cX5_searchTurns 5 none :: TB)) B.pre
  have hown : s.vm.findClass RX5 = some m.cls := findClass_of_methodNamed B.named
  have hlocks := B.notSynchronized
  subst hsz
  have hD := hD0.self (sz := s.heap.size)
  generalize hAe : va_A [(P, .inr (5, [.ref F, .ref G, .ref T, .ref za, .ref (ia 0), .ref (ia 1), .ref (ia 2), .int 0, .int bg])), (F, .inr (0, [.ref (fa 0), .ref (fa 1), .ref (fa 2), .ref (fa 3), .ref (fa 4), .ref (fa 5), .ref (fa 6), .ref (fa 7), .ref (fa 8), .int 0, .int 0, .int ck]))] s.heap.size = A at hD ⊢
  have hA : ∀ q : Nat, s.heap.size ≤ q → A q := fun q h => by rw [← hAe]; exact Or.inr h
  have hS : va_S A s.heap s.heap [] := va_S.rf
  have hl := lv_entry ([.ref P]) (n := 5) (Nat.le_of_ble_eq_true rfl)
  rw [lg_entry_eq]
  generalize (lg_sl ([.ref P]) ++ List.replicate (5 - (lg_sl ([.ref P])).length) Slot.unset).toArray = ls at hl ⊢
  have hl : lv_has ls 5 [(0, .ref P)] := hl
  refine lv_iconst (v := 0) hx hb dX5_searchTurns_0 (by decide) ?_
  refine lv_istore_n (lv' := [(1, .int 0), (0, .ref P)]) hx hb dX5_searchTurns_1 rfl hl (by decide) rfl (fun ls hl => ?_)
  refine lv_iload_n hx hb dX5_searchTurns_2 rfl (lv_at hl 0 rfl) ?_
  refine lv_aload_n hx hb dX5_searchTurns_3 rfl (lv_at hl 1 rfl) ?_
  refine va_get (D := (dC, dI)) (ci := 5) (v := .int 0) (C := RX5) (T := TX5) (N := 9) hx hb hts (fun w h => tb_in (inX5 w h)) hown hK hP 0 rfl rfl 7 (by decide) (hts _ (tb_in q_fl_X5_86)) (fun _ h9 => h9) rfl dX5_searchTurns_4 ?_
  refine lv_icmp_ge (tgt := 101) hx hb dX5_searchTurns_7 (by decide) (fun c_1 => ?_) (fun c_1 => ?_)
  rotate_left
  · first | exact absurd c_1 (by decide) | exact absurd (by decide) c_1
  refine W.widen (k := 0) (n := 0) (Nat.le_of_ble_eq_true rfl) (Nat.le_of_ble_eq_true rfl) ?_
  have hP9 := hP
  have hD9 := hD
  exact W.vret hx hb hr (fun t9 ht9 hW9 => ⟨⟨(), rfl, trivial, by rw [ht9]; exact hP9, va_K.moved hW9.alike hK, hD9⟩, hS.F ht9⟩) hS.2.2 dX5_searchTurns_101
set_option maxHeartbeats 4000000 in
set_option maxRecDepth 100000 in
theorem c_X5_searchEnds (l : Launch) (dC : Nat → ClassId) (dI : Nat → Nat → Nat) (cI cV cJ cL : ClassId) (P F G T za : Nat) (fa ia : Nat → Nat) (bg ck : Int32)  (sz : Nat) : Met l yX5_searchEnds (Cond.code yX5_searchEnds cX5_searchEnds 7 none :: TB) ({ frames := 1, cells := 0, slots := 0, locals := 24 } : Room) (PW [.ref P] (dC, dI) [(P, .inr (5, [.ref F, .ref G, .ref T, .ref za, .ref (ia 0), .ref (ia 1), .ref (ia 2), .int 0, .int bg])), (F, .inr (0, [.ref (fa 0), .ref (fa 1), .ref (fa 2), .ref (fa 3), .ref (fa 4), .ref (fa 5), .ref (fa 6), .ref (fa 7), .ref (fa 8), .int 0, .int 0, .int ck]))] (TYP cI cV cJ cL) sz) (va_Qv (fun (_ : Unit) => True) (QB (dC, dI) (fun (_ : Unit) => [(P, .inr (5, [.ref F, .ref G, .ref T, .ref za, .ref (ia 0), .ref (ia 1), .ref (ia 2), .int 0, .int bg])), (F, .inr (0, [.ref (fa 0), .ref (fa 1), .ref (fa 2), .ref (fa 3), .ref (fa 4), .ref (fa 5), .ref (fa 6), .ref (fa 7), .ref (fa 8), .int 0, .int 0, .int ck]))]) (TYP cI cV cJ cL) (va_A [(P, .inr (5, [.ref F, .ref G, .ref T, .ref za, .ref (ia 0), .ref (ia 1), .ref (ia 2), .int 0, .int bg])), (F, .inr (0, [.ref (fa 0), .ref (fa 1), .ref (fa 2), .ref (fa 3), .ref (fa 4), .ref (fa 5), .ref (fa 6), .ref (fa 7), .ref (fa 8), .int 0, .int 0, .int ck]))] sz)) (va_A [(P, .inr (5, [.ref F, .ref G, .ref T, .ref za, .ref (ia 0), .ref (ia 1), .ref (ia 2), .int 0, .int bg])), (F, .inr (0, [.ref (fa 0), .ref (fa 1), .ref (fa 2), .ref (fa 3), .ref (fa 4), .ref (fa 5), .ref (fa 6), .ref (fa 7), .ref (fa 8), .int 0, .int 0, .int ck]))] sz)) 0 0 (va_A [(P, .inr (5, [.ref F, .ref G, .ref T, .ref za, .ref (ia 0), .ref (ia 1), .ref (ia 2), .int 0, .int bg])), (F, .inr (0, [.ref (fa 0), .ref (fa 1), .ref (fa 2), .ref (fa 3), .ref (fa 4), .ref (fa 5), .ref (fa 6), .ref (fa 7), .ref (fa 8), .int 0, .int 0, .int ck]))] sz) := by
  refine Met.ofW (cc := cX5_searchEnds) (maxL := 7) (ret := none) (by decide) rfl ?_
  intro p e s m args below meth c s₁ B hml hv
  obtain ⟨rfl, hsz, hP, hK, hD0, hN⟩ := hv
  have hx := B.exec
  have hb := B.bytes
  have hr := B.returns
  have hts := atoms_spec (ws := (Cond.code yX5_searchEnds cX5_searchEnds 7 none :: TB)) B.pre
  have hown : s.vm.findClass RX5 = some m.cls := findClass_of_methodNamed B.named
  have hlocks := B.notSynchronized
  subst hsz
  have hD := hD0.self (sz := s.heap.size)
  generalize hAe : va_A [(P, .inr (5, [.ref F, .ref G, .ref T, .ref za, .ref (ia 0), .ref (ia 1), .ref (ia 2), .int 0, .int bg])), (F, .inr (0, [.ref (fa 0), .ref (fa 1), .ref (fa 2), .ref (fa 3), .ref (fa 4), .ref (fa 5), .ref (fa 6), .ref (fa 7), .ref (fa 8), .int 0, .int 0, .int ck]))] s.heap.size = A at hD ⊢
  have hA : ∀ q : Nat, s.heap.size ≤ q → A q := fun q h => by rw [← hAe]; exact Or.inr h
  have hS : va_S A s.heap s.heap [] := va_S.rf
  have hl := lv_entry ([.ref P]) (n := 7) (Nat.le_of_ble_eq_true rfl)
  rw [lg_entry_eq]
  generalize (lg_sl ([.ref P]) ++ List.replicate (7 - (lg_sl ([.ref P])).length) Slot.unset).toArray = ls at hl ⊢
  have hl : lv_has ls 7 [(0, .ref P)] := hl
  refine lv_iconst (v := 0) hx hb dX5_searchEnds_0 (by decide) ?_
  refine lv_istore_n (lv' := [(1, .int 0), (0, .ref P)]) hx hb dX5_searchEnds_1 rfl hl (by decide) rfl (fun ls hl => ?_)
  refine lv_iload_n hx hb dX5_searchEnds_2 rfl (lv_at hl 0 rfl) ?_
  refine lv_aload_n hx hb dX5_searchEnds_3 rfl (lv_at hl 1 rfl) ?_
  refine va_get (D := (dC, dI)) (ci := 5) (v := .int 0) (C := RX5) (T := TX5) (N := 9) hx hb hts (fun w h => tb_in (inX5 w h)) hown hK hP 0 rfl rfl 7 (by decide) (hts _ (tb_in q_fl_X5_86)) (fun _ h9 => h9) rfl dX5_searchEnds_4 ?_
  refine lv_icmp_ge (tgt := 172) hx hb dX5_searchEnds_7 (by decide) (fun c_1 => ?_) (fun c_1 => ?_)
  rotate_left
  · first | exact absurd c_1 (by decide) | exact absurd (by decide) c_1
  refine W.widen (k := 0) (n := 0) (Nat.le_of_ble_eq_true rfl) (Nat.le_of_ble_eq_true rfl) ?_
  have hP9 := hP
  have hD9 := hD
  exact W.vret hx hb hr (fun t9 ht9 hW9 => ⟨⟨(), rfl, trivial, by rw [ht9]; exact hP9, va_K.moved hW9.alike hK, hD9⟩, hS.F ht9⟩) hS.2.2 dX5_searchEnds_172
set_option maxHeartbeats 4000000 in
set_option maxRecDepth 100000 in
theorem c_X5_makeBestChange (l : Launch) (dC : Nat → ClassId) (dI : Nat → Nat → Nat) (cI cV cJ cL : ClassId) (P F G T za : Nat) (fa ia : Nat → Nat) (bg ck : Int32)  (sz : Nat) : Met l yX5_makeBestChange (Cond.code yX5_makeBestChange cX5_makeBestChange 2 none :: TB) ({ frames := 1, cells := 0, slots := 0, locals := 24 } : Room) (PW [.ref P] (dC, dI) [(P, .inr (5, [.ref F, .ref G, .ref T, .ref za, .ref (ia 0), .ref (ia 1), .ref (ia 2), .int 0, .int bg])), (F, .inr (0, [.ref (fa 0), .ref (fa 1), .ref (fa 2), .ref (fa 3), .ref (fa 4), .ref (fa 5), .ref (fa 6), .ref (fa 7), .ref (fa 8), .int 0, .int 0, .int ck]))] (TYP cI cV cJ cL) sz) (va_Qv (fun (_ : Unit) => True) (QB (dC, dI) (fun (_ : Unit) => [(P, .inr (5, [.ref F, .ref G, .ref T, .ref za, .ref (ia 0), .ref (ia 1), .ref (ia 2), .int 0, .int bg])), (F, .inr (0, [.ref (fa 0), .ref (fa 1), .ref (fa 2), .ref (fa 3), .ref (fa 4), .ref (fa 5), .ref (fa 6), .ref (fa 7), .ref (fa 8), .int 0, .int 0, .int ck]))]) (TYP cI cV cJ cL) (va_A [(P, .inr (5, [.ref F, .ref G, .ref T, .ref za, .ref (ia 0), .ref (ia 1), .ref (ia 2), .int 0, .int bg])), (F, .inr (0, [.ref (fa 0), .ref (fa 1), .ref (fa 2), .ref (fa 3), .ref (fa 4), .ref (fa 5), .ref (fa 6), .ref (fa 7), .ref (fa 8), .int 0, .int 0, .int ck]))] sz)) (va_A [(P, .inr (5, [.ref F, .ref G, .ref T, .ref za, .ref (ia 0), .ref (ia 1), .ref (ia 2), .int 0, .int bg])), (F, .inr (0, [.ref (fa 0), .ref (fa 1), .ref (fa 2), .ref (fa 3), .ref (fa 4), .ref (fa 5), .ref (fa 6), .ref (fa 7), .ref (fa 8), .int 0, .int 0, .int ck]))] sz)) 0 0 (va_A [(P, .inr (5, [.ref F, .ref G, .ref T, .ref za, .ref (ia 0), .ref (ia 1), .ref (ia 2), .int 0, .int bg])), (F, .inr (0, [.ref (fa 0), .ref (fa 1), .ref (fa 2), .ref (fa 3), .ref (fa 4), .ref (fa 5), .ref (fa 6), .ref (fa 7), .ref (fa 8), .int 0, .int 0, .int ck]))] sz) := by
  refine Met.ofW (cc := cX5_makeBestChange) (maxL := 2) (ret := none) (by decide) rfl ?_
  intro p e s m args below meth c s₁ B hml hv
  obtain ⟨rfl, hsz, hP, hK, hD0, hN⟩ := hv
  have hx := B.exec
  have hb := B.bytes
  have hr := B.returns
  have hts := atoms_spec (ws := (Cond.code yX5_makeBestChange cX5_makeBestChange 2 none :: TB)) B.pre
  have hown : s.vm.findClass RX5 = some m.cls := findClass_of_methodNamed B.named
  have hlocks := B.notSynchronized
  subst hsz
  have hD := hD0.self (sz := s.heap.size)
  generalize hAe : va_A [(P, .inr (5, [.ref F, .ref G, .ref T, .ref za, .ref (ia 0), .ref (ia 1), .ref (ia 2), .int 0, .int bg])), (F, .inr (0, [.ref (fa 0), .ref (fa 1), .ref (fa 2), .ref (fa 3), .ref (fa 4), .ref (fa 5), .ref (fa 6), .ref (fa 7), .ref (fa 8), .int 0, .int 0, .int ck]))] s.heap.size = A at hD ⊢
  have hA : ∀ q : Nat, s.heap.size ≤ q → A q := fun q h => by rw [← hAe]; exact Or.inr h
  have hS : va_S A s.heap s.heap [] := va_S.rf
  have hl := lv_entry ([.ref P]) (n := 2) (Nat.le_of_ble_eq_true rfl)
  rw [lg_entry_eq]
  generalize (lg_sl ([.ref P]) ++ List.replicate (2 - (lg_sl ([.ref P])).length) Slot.unset).toArray = ls at hl ⊢
  have hl : lv_has ls 2 [(0, .ref P)] := hl
  refine lv_iconst (v := 0) hx hb dX5_makeBestChange_0 (by decide) ?_
  refine lv_istore_n (lv' := [(1, .int 0), (0, .ref P)]) hx hb dX5_makeBestChange_1 rfl hl (by decide) rfl (fun ls hl => ?_)
  refine lv_iload_n hx hb dX5_makeBestChange_2 rfl (lv_at hl 0 rfl) ?_
  refine lv_aload_n hx hb dX5_makeBestChange_3 rfl (lv_at hl 1 rfl) ?_
  refine va_get (D := (dC, dI)) (ci := 5) (v := .int 0) (C := RX5) (T := TX5) (N := 9) hx hb hts (fun w h => tb_in (inX5 w h)) hown hK hP 0 rfl rfl 7 (by decide) (hts _ (tb_in q_fl_X5_86)) (fun _ h9 => h9) rfl dX5_makeBestChange_4 ?_
  refine lv_icmp_ge (tgt := 37) hx hb dX5_makeBestChange_7 (by decide) (fun c_1 => ?_) (fun c_1 => ?_)
  rotate_left
  · first | exact absurd c_1 (by decide) | exact absurd (by decide) c_1
  refine W.widen (k := 0) (n := 0) (Nat.le_of_ble_eq_true rfl) (Nat.le_of_ble_eq_true rfl) ?_
  have hP9 := hP
  have hD9 := hD
  exact W.vret hx hb hr (fun t9 ht9 hW9 => ⟨⟨(), rfl, trivial, by rw [ht9]; exact hP9, va_K.moved hW9.alike hK, hD9⟩, hS.F ht9⟩) hS.2.2 dX5_makeBestChange_37
set_option maxHeartbeats 4000000 in
set_option maxRecDepth 100000 in
theorem c_X5_startSearch (l : Launch) (dC : Nat → ClassId) (dI : Nat → Nat → Nat) (cI cV cJ cL : ClassId) (P F G T za : Nat) (fa ia : Nat → Nat) (bg ck : Int32)  (sz : Nat) : Met l yX5_startSearch (Cond.code yX5_startSearch cX5_startSearch 3 none :: TB) ({ frames := 1, cells := 0, slots := 0, locals := 24 } : Room) (PW [.ref P] (dC, dI) [(P, .inr (5, [.ref F, .ref G, .ref T, .ref za, .ref (ia 0), .ref (ia 1), .ref (ia 2), .int 0, .int bg])), (F, .inr (0, [.ref (fa 0), .ref (fa 1), .ref (fa 2), .ref (fa 3), .ref (fa 4), .ref (fa 5), .ref (fa 6), .ref (fa 7), .ref (fa 8), .int 0, .int 0, .int ck]))] (TYP cI cV cJ cL) sz) (va_Qv (fun (_ : Unit) => True) (QB (dC, dI) (fun (_ : Unit) => [(P, .inr (5, [.ref F, .ref G, .ref T, .ref za, .ref (ia 0), .ref (ia 1), .ref (ia 2), .int 0, .int 0])), (F, .inr (0, [.ref (fa 0), .ref (fa 1), .ref (fa 2), .ref (fa 3), .ref (fa 4), .ref (fa 5), .ref (fa 6), .ref (fa 7), .ref (fa 8), .int 0, .int 0, .int ck]))]) (TYP cI cV cJ cL) (va_A [(P, .inr (5, [.ref F, .ref G, .ref T, .ref za, .ref (ia 0), .ref (ia 1), .ref (ia 2), .int 0, .int bg])), (F, .inr (0, [.ref (fa 0), .ref (fa 1), .ref (fa 2), .ref (fa 3), .ref (fa 4), .ref (fa 5), .ref (fa 6), .ref (fa 7), .ref (fa 8), .int 0, .int 0, .int ck]))] sz)) (va_A [(P, .inr (5, [.ref F, .ref G, .ref T, .ref za, .ref (ia 0), .ref (ia 1), .ref (ia 2), .int 0, .int bg])), (F, .inr (0, [.ref (fa 0), .ref (fa 1), .ref (fa 2), .ref (fa 3), .ref (fa 4), .ref (fa 5), .ref (fa 6), .ref (fa 7), .ref (fa 8), .int 0, .int 0, .int ck]))] sz)) 0 0 (va_A [(P, .inr (5, [.ref F, .ref G, .ref T, .ref za, .ref (ia 0), .ref (ia 1), .ref (ia 2), .int 0, .int bg])), (F, .inr (0, [.ref (fa 0), .ref (fa 1), .ref (fa 2), .ref (fa 3), .ref (fa 4), .ref (fa 5), .ref (fa 6), .ref (fa 7), .ref (fa 8), .int 0, .int 0, .int ck]))] sz) := by
  refine Met.ofW (cc := cX5_startSearch) (maxL := 3) (ret := none) (by decide) rfl ?_
  intro p e s m args below meth c s₁ B hml hv
  obtain ⟨rfl, hsz, hP, hK, hD0, hN⟩ := hv
  have hx := B.exec
  have hb := B.bytes
  have hr := B.returns
  have hts := atoms_spec (ws := (Cond.code yX5_startSearch cX5_startSearch 3 none :: TB)) B.pre
  have hown : s.vm.findClass RX5 = some m.cls := findClass_of_methodNamed B.named
  have hlocks := B.notSynchronized
  subst hsz
  have hD := hD0.self (sz := s.heap.size)
  generalize hAe : va_A [(P, .inr (5, [.ref F, .ref G, .ref T, .ref za, .ref (ia 0), .ref (ia 1), .ref (ia 2), .int 0, .int bg])), (F, .inr (0, [.ref (fa 0), .ref (fa 1), .ref (fa 2), .ref (fa 3), .ref (fa 4), .ref (fa 5), .ref (fa 6), .ref (fa 7), .ref (fa 8), .int 0, .int 0, .int ck]))] s.heap.size = A at hD ⊢
  have hA : ∀ q : Nat, s.heap.size ≤ q → A q := fun q h => by rw [← hAe]; exact Or.inr h
  have hS : va_S A s.heap s.heap [] := va_S.rf
  have hl := lv_entry ([.ref P]) (n := 3) (Nat.le_of_ble_eq_true rfl)
  rw [lg_entry_eq]
  generalize (lg_sl ([.ref P]) ++ List.replicate (3 - (lg_sl ([.ref P])).length) Slot.unset).toArray = ls at hl ⊢
  have hl : lv_has ls 3 [(0, .ref P)] := hl
  refine lv_aload_n hx hb dX5_startSearch_0 rfl (lv_at hl 0 rfl) ?_
  refine lv_iconst (v := 0) hx hb dX5_startSearch_1 (by decide) ?_
  refine va_put (D := (dC, dI)) (ci := 5) (v := .int 0) (ty := .int) (C := RX5) (T := TX5) (N := 9) hx hb hts (fun w h => tb_in (inX5 w h)) tyX5 tyX5_ok nmX5 hown hK hP hD hS 0 rfl rfl 8 (by decide) (hts _ (tb_in q_fl_X5_226)) (fun _ h9 => h9) rfl (by decide +kernel) rfl rfl (Nat.le_of_ble_eq_true rfl) dX5_startSearch_2 (fun H locs hP hD hS => ?_)
  have hP : va_P (dC, dI) cls [(P, .inr (5, [.ref F, .ref G, .ref T, .ref za, .ref (ia 0), .ref (ia 1), .ref (ia 2), .int 0, .int 0])), (F, .inr (0, [.ref (fa 0), .ref (fa 1), .ref (fa 2), .ref (fa 3), .ref (fa 4), .ref (fa 5), .ref (fa 6), .ref (fa 7), .ref (fa 8), .int 0, .int 0, .int ck]))] H := hP
  have hD : va_D A [(P, .inr (5, [.ref F, .ref G, .ref T, .ref za, .ref (ia 0), .ref (ia 1), .ref (ia 2), .int 0, .int 0])), (F, .inr (0, [.ref (fa 0), .ref (fa 1), .ref (fa 2), .ref (fa 3), .ref (fa 4), .ref (fa 5), .ref (fa 6), .ref (fa 7), .ref (fa 8), .int 0, .int 0, .int ck]))] := hD
  refine lv_iconst (v := 0) hx hb dX5_startSearch_5 (by decide) ?_
  refine lv_istore_n (lv' := [(1, .int 0), (0, .ref P)]) hx hb dX5_startSearch_6 rfl hl (by decide) rfl (fun ls hl => ?_)
  refine lv_iload_n hx hb dX5_startSearch_7 rfl (lv_at hl 0 rfl) ?_
  refine lv_aload_n hx hb dX5_startSearch_8 rfl (lv_at hl 1 rfl) ?_
  refine va_get (D := (dC, dI)) (ci := 5) (v := .int 0) (C := RX5) (T := TX5) (N := 9) hx hb hts (fun w h => tb_in (inX5 w h)) hown hK hP 0 rfl rfl 7 (by decide) (hts _ (tb_in q_fl_X5_86)) (fun _ h9 => h9) rfl dX5_startSearch_9 ?_
  refine lv_icmp_ge (tgt := 59) hx hb dX5_startSearch_12 (by decide) (fun c_1 => ?_) (fun c_1 => ?_)
  rotate_left
  · first | exact absurd c_1 (by decide) | exact absurd (by decide) c_1
  refine W.widen (k := 0) (n := 0) (Nat.le_of_ble_eq_true rfl) (Nat.le_of_ble_eq_true rfl) ?_
  have hP9 := hP
  have hD9 := hD
  exact W.vret hx hb hr (fun t9 ht9 hW9 => ⟨⟨(), rfl, trivial, by rw [ht9]; exact hP9, va_K.moved hW9.alike hK, hD9⟩, hS.F ht9⟩) hS.2.2 dX5_startSearch_59
set_option maxHeartbeats 4000000 in
set_option maxRecDepth 100000 in
theorem c_X5_searchKind (l : Launch) (dC : Nat → ClassId) (dI : Nat → Nat → Nat) (cI cV cJ cL : ClassId) (P F G T za : Nat) (fa ia : Nat → Nat) (bg ck : Int32) (x : Int32)  (sz : Nat) : Met l yX5_searchKind (Cond.code yX5_searchKind cX5_searchKind 2 none :: TB) ({ frames := 2, cells := 0, slots := 0, locals := 52 } : Room) (PW [.ref P, .int x] (dC, dI) [(P, .inr (5, [.ref F, .ref G, .ref T, .ref za, .ref (ia 0), .ref (ia 1), .ref (ia 2), .int 0, .int bg])), (F, .inr (0, [.ref (fa 0), .ref (fa 1), .ref (fa 2), .ref (fa 3), .ref (fa 4), .ref (fa 5), .ref (fa 6), .ref (fa 7), .ref (fa 8), .int 0, .int 0, .int ck]))] (TYP cI cV cJ cL) sz) (va_Qv (fun (_ : Unit) => True) (QB (dC, dI) (fun (_ : Unit) => [(P, .inr (5, [.ref F, .ref G, .ref T, .ref za, .ref (ia 0), .ref (ia 1), .ref (ia 2), .int 0, .int bg])), (F, .inr (0, [.ref (fa 0), .ref (fa 1), .ref (fa 2), .ref (fa 3), .ref (fa 4), .ref (fa 5), .ref (fa 6), .ref (fa 7), .ref (fa 8), .int 0, .int 0, .int ck]))]) (TYP cI cV cJ cL) (va_A [(P, .inr (5, [.ref F, .ref G, .ref T, .ref za, .ref (ia 0), .ref (ia 1), .ref (ia 2), .int 0, .int bg])), (F, .inr (0, [.ref (fa 0), .ref (fa 1), .ref (fa 2), .ref (fa 3), .ref (fa 4), .ref (fa 5), .ref (fa 6), .ref (fa 7), .ref (fa 8), .int 0, .int 0, .int ck]))] sz)) (va_A [(P, .inr (5, [.ref F, .ref G, .ref T, .ref za, .ref (ia 0), .ref (ia 1), .ref (ia 2), .int 0, .int bg])), (F, .inr (0, [.ref (fa 0), .ref (fa 1), .ref (fa 2), .ref (fa 3), .ref (fa 4), .ref (fa 5), .ref (fa 6), .ref (fa 7), .ref (fa 8), .int 0, .int 0, .int ck]))] sz)) 0 0 (va_A [(P, .inr (5, [.ref F, .ref G, .ref T, .ref za, .ref (ia 0), .ref (ia 1), .ref (ia 2), .int 0, .int bg])), (F, .inr (0, [.ref (fa 0), .ref (fa 1), .ref (fa 2), .ref (fa 3), .ref (fa 4), .ref (fa 5), .ref (fa 6), .ref (fa 7), .ref (fa 8), .int 0, .int 0, .int ck]))] sz) := by
  refine Met.ofW (cc := cX5_searchKind) (maxL := 2) (ret := none) (by decide) rfl ?_
  intro p e s m args below meth c s₁ B hml hv
  obtain ⟨rfl, hsz, hP, hK, hD0, hN⟩ := hv
  have hx := B.exec
  have hb := B.bytes
  have hr := B.returns
  have hts := atoms_spec (ws := (Cond.code yX5_searchKind cX5_searchKind 2 none :: TB)) B.pre
  have hown : s.vm.findClass RX5 = some m.cls := findClass_of_methodNamed B.named
  have hlocks := B.notSynchronized
  subst hsz
  have hD := hD0.self (sz := s.heap.size)
  generalize hAe : va_A [(P, .inr (5, [.ref F, .ref G, .ref T, .ref za, .ref (ia 0), .ref (ia 1), .ref (ia 2), .int 0, .int bg])), (F, .inr (0, [.ref (fa 0), .ref (fa 1), .ref (fa 2), .ref (fa 3), .ref (fa 4), .ref (fa 5), .ref (fa 6), .ref (fa 7), .ref (fa 8), .int 0, .int 0, .int ck]))] s.heap.size = A at hD ⊢
  have hA : ∀ q : Nat, s.heap.size ≤ q → A q := fun q h => by rw [← hAe]; exact Or.inr h
  have hS : va_S A s.heap s.heap [] := va_S.rf
  have hl := lv_entry ([.ref P, .int x]) (n := 2) (Nat.le_of_ble_eq_true rfl)
  rw [lg_entry_eq]
  generalize (lg_sl ([.ref P, .int x]) ++ List.replicate (2 - (lg_sl ([.ref P, .int x])).length) Slot.unset).toArray = ls at hl ⊢
  have hl : lv_has ls 2 [(0, .ref P), (1, .int x)] := hl
  refine lv_iload_n hx hb dX5_searchKind_0 rfl (lv_at hl 1 rfl) ?_
  by_cases h0 : x.toInt < 0 ∨ 2 < x.toInt
  · refine lv_tableOut (tgt := 49) hx hb dX5_searchKind_1 h0 (by decide) ?_
    refine lv_aload_n hx hb dX5_searchKind_49 rfl (lv_at hl 0 rfl) ?_
    refine n_Vv (ci := 5) (q0 := 0) (wc := [(P, .inr (5, [.ref F, .ref G, .ref T, .ref za, .ref (ia 0), .ref (ia 1), .ref (ia 2), .int 0, .int bg])), (F, .inr (0, [.ref (fa 0), .ref (fa 1), .ref (fa 2), .ref (fa 3), .ref (fa 4), .ref (fa 5), .ref (fa 6), .ref (fa 7), .ref (fa 8), .int 0, .int 0, .int ck]))]) (wr := []) [] [0, 1] [] ⟨hx, hb, hml, hown, hts⟩ (fun sz => c_X5_searchEnds l dC dI cI cV cJ cL P F G T za fa ia bg ck  sz) q_ml_X5_423 q_im_X5_searchEnds q_se_X5_searchEnds q_ini_X5 q_co_X5_searchEnds (n := 0) (by decide +kernel) rfl ⟨rfl, rfl⟩ ⟨Nat.le_of_ble_eq_true rfl, Nat.le_of_ble_eq_true rfl⟩ hP hD hS hA hK hN rfl rfl (by decide) (by decide) (by decide) rfl rfl rfl hl.1 rfl (Nat.le_of_ble_eq_true rfl) dX5_searchKind_50 ⟨Nat.le_of_ble_eq_true rfl, Nat.le_of_ble_eq_true rfl⟩ (fun u_1 H locs hu_1 hP hD hS => ?_)
    have hP : va_P (dC, dI) cls [(P, .inr (5, [.ref F, .ref G, .ref T, .ref za, .ref (ia 0), .ref (ia 1), .ref (ia 2), .int 0, .int bg])), (F, .inr (0, [.ref (fa 0), .ref (fa 1), .ref (fa 2), .ref (fa 3), .ref (fa 4), .ref (fa 5), .ref (fa 6), .ref (fa 7), .ref (fa 8), .int 0, .int 0, .int ck]))] H := hP
    have hD : va_D A [(P, .inr (5, [.ref F, .ref G, .ref T, .ref za, .ref (ia 0), .ref (ia 1), .ref (ia 2), .int 0, .int bg])), (F, .inr (0, [.ref (fa 0), .ref (fa 1), .ref (fa 2), .ref (fa 3), .ref (fa 4), .ref (fa 5), .ref (fa 6), .ref (fa 7), .ref (fa 8), .int 0, .int 0, .int ck]))] := hD
    refine W.widen (k := 0) (n := 0) (Nat.le_of_ble_eq_true rfl) (Nat.le_of_ble_eq_true rfl) ?_
    have hP9 := hP
    have hD9 := hD
    exact W.vret hx hb hr (fun t9 ht9 hW9 => ⟨⟨(), rfl, trivial, by rw [ht9]; exact hP9, va_K.moved hW9.alike hK, hD9⟩, hS.F ht9⟩) hS.2.2 dX5_searchKind_53
  rcases (by omega : x.toInt = 0 ∨ x.toInt = 1 ∨ x.toInt = 2) with h1 | h1 | h1
  · refine lv_tableIn (off := 27) (tgt := 28) hx hb dX5_searchKind_1 (by omega) (by omega) (by rw [h1]; decide) (by decide) ?_
    refine lv_aload_n hx hb dX5_searchKind_28 rfl (lv_at hl 0 rfl) ?_
    refine n_Vv (ci := 5) (q0 := 0) (wc := [(P, .inr (5, [.ref F, .ref G, .ref T, .ref za, .ref (ia 0), .ref (ia 1), .ref (ia 2), .int 0, .int bg])), (F, .inr (0, [.ref (fa 0), .ref (fa 1), .ref (fa 2), .ref (fa 3), .ref (fa 4), .ref (fa 5), .ref (fa 6), .ref (fa 7), .ref (fa 8), .int 0, .int 0, .int ck]))]) (wr := []) [] [0, 1] [] ⟨hx, hb, hml, hown, hts⟩ (fun sz => c_X5_searchMoves l dC dI cI cV cJ cL P F G T za fa ia bg ck  sz) q_ml_X5_414 q_im_X5_searchMoves q_se_X5_searchMoves q_ini_X5 q_co_X5_searchMoves (n := 0) (by decide +kernel) rfl ⟨rfl, rfl⟩ ⟨Nat.le_of_ble_eq_true rfl, Nat.le_of_ble_eq_true rfl⟩ hP hD hS hA hK hN rfl rfl (by decide) (by decide) (by decide) rfl rfl rfl hl.1 rfl (Nat.le_of_ble_eq_true rfl) dX5_searchKind_29 ⟨Nat.le_of_ble_eq_true rfl, Nat.le_of_ble_eq_true rfl⟩ (fun u_2 H locs hu_2 hP hD hS => ?_)
    have hP : va_P (dC, dI) cls [(P, .inr (5, [.ref F, .ref G, .ref T, .ref za, .ref (ia 0), .ref (ia 1), .ref (ia 2), .int 0, .int bg])), (F, .inr (0, [.ref (fa 0), .ref (fa 1), .ref (fa 2), .ref (fa 3), .ref (fa 4), .ref (fa 5), .ref (fa 6), .ref (fa 7), .ref (fa 8), .int 0, .int 0, .int ck]))] H := hP
    have hD : va_D A [(P, .inr (5, [.ref F, .ref G, .ref T, .ref za, .ref (ia 0), .ref (ia 1), .ref (ia 2), .int 0, .int bg])), (F, .inr (0, [.ref (fa 0), .ref (fa 1), .ref (fa 2), .ref (fa 3), .ref (fa 4), .ref (fa 5), .ref (fa 6), .ref (fa 7), .ref (fa 8), .int 0, .int 0, .int ck]))] := hD
    refine lv_goto (tgt := 53) hx hb dX5_searchKind_32 (by decide) ?_
    refine W.widen (k := 0) (n := 0) (Nat.le_of_ble_eq_true rfl) (Nat.le_of_ble_eq_true rfl) ?_
    have hP9 := hP
    have hD9 := hD
    exact W.vret hx hb hr (fun t9 ht9 hW9 => ⟨⟨(), rfl, trivial, by rw [ht9]; exact hP9, va_K.moved hW9.alike hK, hD9⟩, hS.F ht9⟩) hS.2.2 dX5_searchKind_53
  · refine lv_tableIn (off := 34) (tgt := 35) hx hb dX5_searchKind_1 (by omega) (by omega) (by rw [h1]; decide) (by decide) ?_
    refine lv_aload_n hx hb dX5_searchKind_35 rfl (lv_at hl 0 rfl) ?_
    refine n_Vv (ci := 5) (q0 := 0) (wc := [(P, .inr (5, [.ref F, .ref G, .ref T, .ref za, .ref (ia 0), .ref (ia 1), .ref (ia 2), .int 0, .int bg])), (F, .inr (0, [.ref (fa 0), .ref (fa 1), .ref (fa 2), .ref (fa 3), .ref (fa 4), .ref (fa 5), .ref (fa 6), .ref (fa 7), .ref (fa 8), .int 0, .int 0, .int ck]))]) (wr := []) [] [0, 1] [] ⟨hx, hb, hml, hown, hts⟩ (fun sz => c_X5_searchSwaps l dC dI cI cV cJ cL P F G T za fa ia bg ck  sz) q_ml_X5_417 q_im_X5_searchSwaps q_se_X5_searchSwaps q_ini_X5 q_co_X5_searchSwaps (n := 0) (by decide +kernel) rfl ⟨rfl, rfl⟩ ⟨Nat.le_of_ble_eq_true rfl, Nat.le_of_ble_eq_true rfl⟩ hP hD hS hA hK hN rfl rfl (by decide) (by decide) (by decide) rfl rfl rfl hl.1 rfl (Nat.le_of_ble_eq_true rfl) dX5_searchKind_36 ⟨Nat.le_of_ble_eq_true rfl, Nat.le_of_ble_eq_true rfl⟩ (fun u_3 H locs hu_3 hP hD hS => ?_)
    have hP : va_P (dC, dI) cls [(P, .inr (5, [.ref F, .ref G, .ref T, .ref za, .ref (ia 0), .ref (ia 1), .ref (ia 2), .int 0, .int bg])), (F, .inr (0, [.ref (fa 0), .ref (fa 1), .ref (fa 2), .ref (fa 3), .ref (fa 4), .ref (fa 5), .ref (fa 6), .ref (fa 7), .ref (fa 8), .int 0, .int 0, .int ck]))] H := hP
    have hD : va_D A [(P, .inr (5, [.ref F, .ref G, .ref T, .ref za, .ref (ia 0), .ref (ia 1), .ref (ia 2), .int 0, .int bg])), (F, .inr (0, [.ref (fa 0), .ref (fa 1), .ref (fa 2), .ref (fa 3), .ref (fa 4), .ref (fa 5), .ref (fa 6), .ref (fa 7), .ref (fa 8), .int 0, .int 0, .int ck]))] := hD
    refine lv_goto (tgt := 53) hx hb dX5_searchKind_39 (by decide) ?_
    refine W.widen (k := 0) (n := 0) (Nat.le_of_ble_eq_true rfl) (Nat.le_of_ble_eq_true rfl) ?_
    have hP9 := hP
    have hD9 := hD
    exact W.vret hx hb hr (fun t9 ht9 hW9 => ⟨⟨(), rfl, trivial, by rw [ht9]; exact hP9, va_K.moved hW9.alike hK, hD9⟩, hS.F ht9⟩) hS.2.2 dX5_searchKind_53
  · refine lv_tableIn (off := 41) (tgt := 42) hx hb dX5_searchKind_1 (by omega) (by omega) (by rw [h1]; decide) (by decide) ?_
    refine lv_aload_n hx hb dX5_searchKind_42 rfl (lv_at hl 0 rfl) ?_
    refine n_Vv (ci := 5) (q0 := 0) (wc := [(P, .inr (5, [.ref F, .ref G, .ref T, .ref za, .ref (ia 0), .ref (ia 1), .ref (ia 2), .int 0, .int bg])), (F, .inr (0, [.ref (fa 0), .ref (fa 1), .ref (fa 2), .ref (fa 3), .ref (fa 4), .ref (fa 5), .ref (fa 6), .ref (fa 7), .ref (fa 8), .int 0, .int 0, .int ck]))]) (wr := []) [] [0, 1] [] ⟨hx, hb, hml, hown, hts⟩ (fun sz => c_X5_searchTurns l dC dI cI cV cJ cL P F G T za fa ia bg ck  sz) q_ml_X5_420 q_im_X5_searchTurns q_se_X5_searchTurns q_ini_X5 q_co_X5_searchTurns (n := 0) (by decide +kernel) rfl ⟨rfl, rfl⟩ ⟨Nat.le_of_ble_eq_true rfl, Nat.le_of_ble_eq_true rfl⟩ hP hD hS hA hK hN rfl rfl (by decide) (by decide) (by decide) rfl rfl rfl hl.1 rfl (Nat.le_of_ble_eq_true rfl) dX5_searchKind_43 ⟨Nat.le_of_ble_eq_true rfl, Nat.le_of_ble_eq_true rfl⟩ (fun u_4 H locs hu_4 hP hD hS => ?_)
    have hP : va_P (dC, dI) cls [(P, .inr (5, [.ref F, .ref G, .ref T, .ref za, .ref (ia 0), .ref (ia 1), .ref (ia 2), .int 0, .int bg])), (F, .inr (0, [.ref (fa 0), .ref (fa 1), .ref (fa 2), .ref (fa 3), .ref (fa 4), .ref (fa 5), .ref (fa 6), .ref (fa 7), .ref (fa 8), .int 0, .int 0, .int ck]))] H := hP
    have hD : va_D A [(P, .inr (5, [.ref F, .ref G, .ref T, .ref za, .ref (ia 0), .ref (ia 1), .ref (ia 2), .int 0, .int bg])), (F, .inr (0, [.ref (fa 0), .ref (fa 1), .ref (fa 2), .ref (fa 3), .ref (fa 4), .ref (fa 5), .ref (fa 6), .ref (fa 7), .ref (fa 8), .int 0, .int 0, .int ck]))] := hD
    refine lv_goto (tgt := 53) hx hb dX5_searchKind_46 (by decide) ?_
    refine W.widen (k := 0) (n := 0) (Nat.le_of_ble_eq_true rfl) (Nat.le_of_ble_eq_true rfl) ?_
    have hP9 := hP
    have hD9 := hD
    exact W.vret hx hb hr (fun t9 ht9 hW9 => ⟨⟨(), rfl, trivial, by rw [ht9]; exact hP9, va_K.moved hW9.alike hK, hD9⟩, hS.F ht9⟩) hS.2.2 dX5_searchKind_53
set_option maxHeartbeats 4000000 in
set_option maxRecDepth 100000 in
theorem c_X5_dearestJob (l : Launch) (dC : Nat → ClassId) (dI : Nat → Nat → Nat) (cI cV cJ cL : ClassId) (P F G T za : Nat) (fa ia : Nat → Nat) (bg ck : Int32)  (sz : Nat) : Met l yX5_dearestJob (Cond.code yX5_dearestJob cX5_dearestJob 5 (some .int) :: TB) ({ frames := 1, cells := 0, slots := 0, locals := 24 } : Room) (PW [.ref P] (dC, dI) [(P, .inr (5, [.ref F, .ref G, .ref T, .ref za, .ref (ia 0), .ref (ia 1), .ref (ia 2), .int 0, .int bg])), (F, .inr (0, [.ref (fa 0), .ref (fa 1), .ref (fa 2), .ref (fa 3), .ref (fa 4), .ref (fa 5), .ref (fa 6), .ref (fa 7), .ref (fa 8), .int 0, .int 0, .int ck]))] (TYP cI cV cJ cL) sz) (va_Qi (fun (r : Int32) (_ : Unit) => r = (-1)) (QB (dC, dI) (fun (_ : Unit) => [(P, .inr (5, [.ref F, .ref G, .ref T, .ref za, .ref (ia 0), .ref (ia 1), .ref (ia 2), .int 0, .int bg])), (F, .inr (0, [.ref (fa 0), .ref (fa 1), .ref (fa 2), .ref (fa 3), .ref (fa 4), .ref (fa 5), .ref (fa 6), .ref (fa 7), .ref (fa 8), .int 0, .int 0, .int ck]))]) (TYP cI cV cJ cL) (va_A [(P, .inr (5, [.ref F, .ref G, .ref T, .ref za, .ref (ia 0), .ref (ia 1), .ref (ia 2), .int 0, .int bg])), (F, .inr (0, [.ref (fa 0), .ref (fa 1), .ref (fa 2), .ref (fa 3), .ref (fa 4), .ref (fa 5), .ref (fa 6), .ref (fa 7), .ref (fa 8), .int 0, .int 0, .int ck]))] sz)) (va_A [(P, .inr (5, [.ref F, .ref G, .ref T, .ref za, .ref (ia 0), .ref (ia 1), .ref (ia 2), .int 0, .int bg])), (F, .inr (0, [.ref (fa 0), .ref (fa 1), .ref (fa 2), .ref (fa 3), .ref (fa 4), .ref (fa 5), .ref (fa 6), .ref (fa 7), .ref (fa 8), .int 0, .int 0, .int ck]))] sz)) 0 0 (va_A [(P, .inr (5, [.ref F, .ref G, .ref T, .ref za, .ref (ia 0), .ref (ia 1), .ref (ia 2), .int 0, .int bg])), (F, .inr (0, [.ref (fa 0), .ref (fa 1), .ref (fa 2), .ref (fa 3), .ref (fa 4), .ref (fa 5), .ref (fa 6), .ref (fa 7), .ref (fa 8), .int 0, .int 0, .int ck]))] sz) := by
  refine Met.ofW (cc := cX5_dearestJob) (maxL := 5) (ret := (some .int)) (by decide) rfl ?_
  intro p e s m args below meth c s₁ B hml hv
  obtain ⟨rfl, hsz, hP, hK, hD0, hN⟩ := hv
  have hx := B.exec
  have hb := B.bytes
  have hr := B.returns
  have hts := atoms_spec (ws := (Cond.code yX5_dearestJob cX5_dearestJob 5 (some .int) :: TB)) B.pre
  have hown : s.vm.findClass RX5 = some m.cls := findClass_of_methodNamed B.named
  have hlocks := B.notSynchronized
  subst hsz
  have hD := hD0.self (sz := s.heap.size)
  generalize hAe : va_A [(P, .inr (5, [.ref F, .ref G, .ref T, .ref za, .ref (ia 0), .ref (ia 1), .ref (ia 2), .int 0, .int bg])), (F, .inr (0, [.ref (fa 0), .ref (fa 1), .ref (fa 2), .ref (fa 3), .ref (fa 4), .ref (fa 5), .ref (fa 6), .ref (fa 7), .ref (fa 8), .int 0, .int 0, .int ck]))] s.heap.size = A at hD ⊢
  have hA : ∀ q : Nat, s.heap.size ≤ q → A q := fun q h => by rw [← hAe]; exact Or.inr h
  have hS : va_S A s.heap s.heap [] := va_S.rf
  have hl := lv_entry ([.ref P]) (n := 5) (Nat.le_of_ble_eq_true rfl)
  rw [lg_entry_eq]
  generalize (lg_sl ([.ref P]) ++ List.replicate (5 - (lg_sl ([.ref P])).length) Slot.unset).toArray = ls at hl ⊢
  have hl : lv_has ls 5 [(0, .ref P)] := hl
  refine lv_iconst (v := (-1)) hx hb dX5_dearestJob_0 (by decide) ?_
  refine lv_istore_n (lv' := [(1, .int ((-1))), (0, .ref P)]) hx hb dX5_dearestJob_1 rfl hl (by decide) rfl (fun ls hl => ?_)
  refine lv_iconst (v := 0) hx hb dX5_dearestJob_2 (by decide) ?_
  refine lv_istore_n (lv' := [(2, .int 0), (1, .int ((-1))), (0, .ref P)]) hx hb dX5_dearestJob_3 rfl hl (by decide) rfl (fun ls hl => ?_)
  refine lv_iconst (v := 0) hx hb dX5_dearestJob_4 (by decide) ?_
  refine lv_istore_n (lv' := [(3, .int 0), (2, .int 0), (1, .int ((-1))), (0, .ref P)]) hx hb dX5_dearestJob_5 rfl hl (by decide) rfl (fun ls hl => ?_)
  refine lv_iload_n hx hb dX5_dearestJob_6 rfl (lv_at hl 0 rfl) ?_
  refine lv_aload_n hx hb dX5_dearestJob_7 rfl (lv_at hl 3 rfl) ?_
  refine va_get (D := (dC, dI)) (ci := 5) (v := .ref F) (C := RX5) (T := TX5) (N := 9) hx hb hts (fun w h => tb_in (inX5 w h)) hown hK hP 0 rfl rfl 0 (by decide) (hts _ (tb_in q_fl_X5_12)) (fun _ h9 => h9) rfl dX5_dearestJob_8 ?_
  refine va_get (D := (dC, dI)) (ci := 0) (v := .int 0) (C := RX0) (T := TX0) (N := 12) hx hb hts (fun w h => tb_in (inX0 w h)) hown hK hP 1 rfl rfl 10 (by decide) (hts _ (tb_in q_fl_X5_111)) (fun _ h9 => h9) rfl dX5_dearestJob_11 ?_
  refine lv_icmp_ge (tgt := 57) hx hb dX5_dearestJob_14 (by decide) (fun c_1 => ?_) (fun c_1 => ?_)
  rotate_left
  · first | exact absurd c_1 (by decide) | exact absurd (by decide) c_1
  refine lv_iload_n hx hb dX5_dearestJob_57 rfl (lv_at hl 2 rfl) ?_
  refine W.widen (k := 0) (n := 0) (Nat.le_of_ble_eq_true rfl) (Nat.le_of_ble_eq_true rfl) ?_
  have hP9 := hP
  have hD9 := hD
  exact W.iret (v := (-1)) hx hb hr (fun t9 ht9 hW9 => ⟨⟨_, (), rfl, rfl, by rw [ht9]; exact hP9, va_K.moved hW9.alike hK, hD9⟩, hS.F ht9⟩) hS.2.2 dX5_dearestJob_58
set_option maxHeartbeats 4000000 in
set_option maxRecDepth 100000 in
theorem c_X5_areAllRight (l : Launch) (dC : Nat → ClassId) (dI : Nat → Nat → Nat) (cI cV cJ cL : ClassId) (P F G T za : Nat) (fa ia : Nat → Nat) (bg ck : Int32)  (sz : Nat) : Met l yX5_areAllRight (Cond.code yX5_areAllRight cX5_areAllRight 2 (some .boolean) :: TB) ({ frames := 1, cells := 0, slots := 0, locals := 24 } : Room) (PW [.ref P] (dC, dI) [(P, .inr (5, [.ref F, .ref G, .ref T, .ref za, .ref (ia 0), .ref (ia 1), .ref (ia 2), .int 0, .int bg])), (F, .inr (0, [.ref (fa 0), .ref (fa 1), .ref (fa 2), .ref (fa 3), .ref (fa 4), .ref (fa 5), .ref (fa 6), .ref (fa 7), .ref (fa 8), .int 0, .int 0, .int ck]))] (TYP cI cV cJ cL) sz) (va_Qi (fun (r : Int32) (_ : Unit) => r = 1) (QB (dC, dI) (fun (_ : Unit) => [(P, .inr (5, [.ref F, .ref G, .ref T, .ref za, .ref (ia 0), .ref (ia 1), .ref (ia 2), .int 0, .int bg])), (F, .inr (0, [.ref (fa 0), .ref (fa 1), .ref (fa 2), .ref (fa 3), .ref (fa 4), .ref (fa 5), .ref (fa 6), .ref (fa 7), .ref (fa 8), .int 0, .int 0, .int ck]))]) (TYP cI cV cJ cL) (va_A [(P, .inr (5, [.ref F, .ref G, .ref T, .ref za, .ref (ia 0), .ref (ia 1), .ref (ia 2), .int 0, .int bg])), (F, .inr (0, [.ref (fa 0), .ref (fa 1), .ref (fa 2), .ref (fa 3), .ref (fa 4), .ref (fa 5), .ref (fa 6), .ref (fa 7), .ref (fa 8), .int 0, .int 0, .int ck]))] sz)) (va_A [(P, .inr (5, [.ref F, .ref G, .ref T, .ref za, .ref (ia 0), .ref (ia 1), .ref (ia 2), .int 0, .int bg])), (F, .inr (0, [.ref (fa 0), .ref (fa 1), .ref (fa 2), .ref (fa 3), .ref (fa 4), .ref (fa 5), .ref (fa 6), .ref (fa 7), .ref (fa 8), .int 0, .int 0, .int ck]))] sz)) 0 0 (va_A [(P, .inr (5, [.ref F, .ref G, .ref T, .ref za, .ref (ia 0), .ref (ia 1), .ref (ia 2), .int 0, .int bg])), (F, .inr (0, [.ref (fa 0), .ref (fa 1), .ref (fa 2), .ref (fa 3), .ref (fa 4), .ref (fa 5), .ref (fa 6), .ref (fa 7), .ref (fa 8), .int 0, .int 0, .int ck]))] sz) := by
  refine Met.ofW (cc := cX5_areAllRight) (maxL := 2) (ret := (some .boolean)) (by decide) rfl ?_
  intro p e s m args below meth c s₁ B hml hv
  obtain ⟨rfl, hsz, hP, hK, hD0, hN⟩ := hv
  have hx := B.exec
  have hb := B.bytes
  have hr := B.returns
  have hts := atoms_spec (ws := (Cond.code yX5_areAllRight cX5_areAllRight 2 (some .boolean) :: TB)) B.pre
  have hown : s.vm.findClass RX5 = some m.cls := findClass_of_methodNamed B.named
  have hlocks := B.notSynchronized
  subst hsz
  have hD := hD0.self (sz := s.heap.size)
  generalize hAe : va_A [(P, .inr (5, [.ref F, .ref G, .ref T, .ref za, .ref (ia 0), .ref (ia 1), .ref (ia 2), .int 0, .int bg])), (F, .inr (0, [.ref (fa 0), .ref (fa 1), .ref (fa 2), .ref (fa 3), .ref (fa 4), .ref (fa 5), .ref (fa 6), .ref (fa 7), .ref (fa 8), .int 0, .int 0, .int ck]))] s.heap.size = A at hD ⊢
  have hA : ∀ q : Nat, s.heap.size ≤ q → A q := fun q h => by rw [← hAe]; exact Or.inr h
  have hS : va_S A s.heap s.heap [] := va_S.rf
  have hl := lv_entry ([.ref P]) (n := 2) (Nat.le_of_ble_eq_true rfl)
  rw [lg_entry_eq]
  generalize (lg_sl ([.ref P]) ++ List.replicate (2 - (lg_sl ([.ref P])).length) Slot.unset).toArray = ls at hl ⊢
  have hl : lv_has ls 2 [(0, .ref P)] := hl
  refine lv_iconst (v := 0) hx hb dX5_areAllRight_0 (by decide) ?_
  refine lv_istore_n (lv' := [(1, .int 0), (0, .ref P)]) hx hb dX5_areAllRight_1 rfl hl (by decide) rfl (fun ls hl => ?_)
  refine lv_iload_n hx hb dX5_areAllRight_2 rfl (lv_at hl 0 rfl) ?_
  refine lv_aload_n hx hb dX5_areAllRight_3 rfl (lv_at hl 1 rfl) ?_
  refine va_get (D := (dC, dI)) (ci := 5) (v := .int 0) (C := RX5) (T := TX5) (N := 9) hx hb hts (fun w h => tb_in (inX5 w h)) hown hK hP 0 rfl rfl 7 (by decide) (hts _ (tb_in q_fl_X5_86)) (fun _ h9 => h9) rfl dX5_areAllRight_4 ?_
  refine lv_icmp_ge (tgt := 47) hx hb dX5_areAllRight_7 (by decide) (fun c_1 => ?_) (fun c_1 => ?_)
  rotate_left
  · first | exact absurd c_1 (by decide) | exact absurd (by decide) c_1
  refine lv_iconst (v := 1) hx hb dX5_areAllRight_47 (by decide) ?_
  refine W.widen (k := 0) (n := 0) (Nat.le_of_ble_eq_true rfl) (Nat.le_of_ble_eq_true rfl) ?_
  have hP9 := hP
  have hD9 := hD
  exact W.zret (v := 1) hx hb hr rfl (fun t9 ht9 hW9 => ⟨⟨_, (), rfl, rfl, by rw [ht9]; exact hP9, va_K.moved hW9.alike hK, hD9⟩, hS.F ht9⟩) hS.2.2 dX5_areAllRight_48
set_option maxHeartbeats 4000000 in
set_option maxRecDepth 100000 in
theorem c_X5_chooseByRegret (l : Launch) (dC : Nat → ClassId) (dI : Nat → Nat → Nat) (cI cV cJ cL : ClassId) (P F G T za : Nat) (fa ia : Nat → Nat) (bg ck : Int32)  (sz : Nat) : Met l yX5_chooseByRegret (Cond.code yX5_chooseByRegret cX5_chooseByRegret 4 (some .boolean) :: TB) ({ frames := 1, cells := 0, slots := 0, locals := 24 } : Room) (PW [.ref P] (dC, dI) [(P, .inr (5, [.ref F, .ref G, .ref T, .ref za, .ref (ia 0), .ref (ia 1), .ref (ia 2), .int 0, .int bg])), (F, .inr (0, [.ref (fa 0), .ref (fa 1), .ref (fa 2), .ref (fa 3), .ref (fa 4), .ref (fa 5), .ref (fa 6), .ref (fa 7), .ref (fa 8), .int 0, .int 0, .int ck]))] (TYP cI cV cJ cL) sz) (va_Qi (fun (r : Int32) (_ : Unit) => r = 0) (QB (dC, dI) (fun (_ : Unit) => [(P, .inr (5, [.ref F, .ref G, .ref T, .ref za, .ref (ia 0), .ref (ia 1), .ref (ia 2), .int 0, .int bg])), (F, .inr (0, [.ref (fa 0), .ref (fa 1), .ref (fa 2), .ref (fa 3), .ref (fa 4), .ref (fa 5), .ref (fa 6), .ref (fa 7), .ref (fa 8), .int 0, .int 0, .int ck]))]) (TYP cI cV cJ cL) (va_A [(P, .inr (5, [.ref F, .ref G, .ref T, .ref za, .ref (ia 0), .ref (ia 1), .ref (ia 2), .int 0, .int bg])), (F, .inr (0, [.ref (fa 0), .ref (fa 1), .ref (fa 2), .ref (fa 3), .ref (fa 4), .ref (fa 5), .ref (fa 6), .ref (fa 7), .ref (fa 8), .int 0, .int 0, .int ck]))] sz)) (va_A [(P, .inr (5, [.ref F, .ref G, .ref T, .ref za, .ref (ia 0), .ref (ia 1), .ref (ia 2), .int 0, .int bg])), (F, .inr (0, [.ref (fa 0), .ref (fa 1), .ref (fa 2), .ref (fa 3), .ref (fa 4), .ref (fa 5), .ref (fa 6), .ref (fa 7), .ref (fa 8), .int 0, .int 0, .int ck]))] sz)) 0 0 (va_A [(P, .inr (5, [.ref F, .ref G, .ref T, .ref za, .ref (ia 0), .ref (ia 1), .ref (ia 2), .int 0, .int bg])), (F, .inr (0, [.ref (fa 0), .ref (fa 1), .ref (fa 2), .ref (fa 3), .ref (fa 4), .ref (fa 5), .ref (fa 6), .ref (fa 7), .ref (fa 8), .int 0, .int 0, .int ck]))] sz) := by
  refine Met.ofW (cc := cX5_chooseByRegret) (maxL := 4) (ret := (some .boolean)) (by decide) rfl ?_
  intro p e s m args below meth c s₁ B hml hv
  obtain ⟨rfl, hsz, hP, hK, hD0, hN⟩ := hv
  have hx := B.exec
  have hb := B.bytes
  have hr := B.returns
  have hts := atoms_spec (ws := (Cond.code yX5_chooseByRegret cX5_chooseByRegret 4 (some .boolean) :: TB)) B.pre
  have hown : s.vm.findClass RX5 = some m.cls := findClass_of_methodNamed B.named
  have hlocks := B.notSynchronized
  subst hsz
  have hD := hD0.self (sz := s.heap.size)
  generalize hAe : va_A [(P, .inr (5, [.ref F, .ref G, .ref T, .ref za, .ref (ia 0), .ref (ia 1), .ref (ia 2), .int 0, .int bg])), (F, .inr (0, [.ref (fa 0), .ref (fa 1), .ref (fa 2), .ref (fa 3), .ref (fa 4), .ref (fa 5), .ref (fa 6), .ref (fa 7), .ref (fa 8), .int 0, .int 0, .int ck]))] s.heap.size = A at hD ⊢
  have hA : ∀ q : Nat, s.heap.size ≤ q → A q := fun q h => by rw [← hAe]; exact Or.inr h
  have hS : va_S A s.heap s.heap [] := va_S.rf
  have hl := lv_entry ([.ref P]) (n := 4) (Nat.le_of_ble_eq_true rfl)
  rw [lg_entry_eq]
  generalize (lg_sl ([.ref P]) ++ List.replicate (4 - (lg_sl ([.ref P])).length) Slot.unset).toArray = ls at hl ⊢
  have hl : lv_has ls 4 [(0, .ref P)] := hl
  refine lv_iconst (v := 0) hx hb dX5_chooseByRegret_0 (by decide) ?_
  refine lv_istore_n (lv' := [(1, .int 0), (0, .ref P)]) hx hb dX5_chooseByRegret_1 rfl hl (by decide) rfl (fun ls hl => ?_)
  refine lv_iconst (v := 0) hx hb dX5_chooseByRegret_2 (by decide) ?_
  refine lv_istore_n (lv' := [(2, .int 0), (1, .int 0), (0, .ref P)]) hx hb dX5_chooseByRegret_3 rfl hl (by decide) rfl (fun ls hl => ?_)
  refine lv_iload_n hx hb dX5_chooseByRegret_4 rfl (lv_at hl 0 rfl) ?_
  refine lv_aload_n hx hb dX5_chooseByRegret_5 rfl (lv_at hl 2 rfl) ?_
  refine va_get (D := (dC, dI)) (ci := 5) (v := .ref F) (C := RX5) (T := TX5) (N := 9) hx hb hts (fun w h => tb_in (inX5 w h)) hown hK hP 0 rfl rfl 0 (by decide) (hts _ (tb_in q_fl_X5_12)) (fun _ h9 => h9) rfl dX5_chooseByRegret_6 ?_
  refine va_get (D := (dC, dI)) (ci := 0) (v := .int 0) (C := RX0) (T := TX0) (N := 12) hx hb hts (fun w h => tb_in (inX0 w h)) hown hK hP 1 rfl rfl 10 (by decide) (hts _ (tb_in q_fl_X5_111)) (fun _ h9 => h9) rfl dX5_chooseByRegret_9 ?_
  refine lv_icmp_ge (tgt := 109) hx hb dX5_chooseByRegret_12 (by decide) (fun c_1 => ?_) (fun c_1 => ?_)
  rotate_left
  · first | exact absurd c_1 (by decide) | exact absurd (by decide) c_1
  refine lv_iload_n hx hb dX5_chooseByRegret_109 rfl (lv_at hl 1 rfl) ?_
  refine W.widen (k := 0) (n := 0) (Nat.le_of_ble_eq_true rfl) (Nat.le_of_ble_eq_true rfl) ?_
  have hP9 := hP
  have hD9 := hD
  exact W.zret (v := 0) hx hb hr rfl (fun t9 ht9 hW9 => ⟨⟨_, (), rfl, rfl, by rw [ht9]; exact hP9, va_K.moved hW9.alike hK, hD9⟩, hS.F ht9⟩) hS.2.2 dX5_chooseByRegret_110
set_option maxHeartbeats 4000000 in
set_option maxRecDepth 100000 in
theorem c_X5_costOfAll (l : Launch) (dC : Nat → ClassId) (dI : Nat → Nat → Nat) (cI cV cJ cL : ClassId) (P F G T za : Nat) (fa ia : Nat → Nat) (bg ck : Int32)  (sz : Nat) : Met l yX5_costOfAll (Cond.code yX5_costOfAll cX5_costOfAll 3 (some .int) :: TB) ({ frames := 1, cells := 0, slots := 0, locals := 24 } : Room) (PW [.ref P] (dC, dI) [(P, .inr (5, [.ref F, .ref G, .ref T, .ref za, .ref (ia 0), .ref (ia 1), .ref (ia 2), .int 0, .int bg])), (F, .inr (0, [.ref (fa 0), .ref (fa 1), .ref (fa 2), .ref (fa 3), .ref (fa 4), .ref (fa 5), .ref (fa 6), .ref (fa 7), .ref (fa 8), .int 0, .int 0, .int ck]))] (TYP cI cV cJ cL) sz) (va_Qi (fun (r : Int32) (_ : Unit) => r = 0) (QB (dC, dI) (fun (_ : Unit) => [(P, .inr (5, [.ref F, .ref G, .ref T, .ref za, .ref (ia 0), .ref (ia 1), .ref (ia 2), .int 0, .int bg])), (F, .inr (0, [.ref (fa 0), .ref (fa 1), .ref (fa 2), .ref (fa 3), .ref (fa 4), .ref (fa 5), .ref (fa 6), .ref (fa 7), .ref (fa 8), .int 0, .int 0, .int ck]))]) (TYP cI cV cJ cL) (va_A [(P, .inr (5, [.ref F, .ref G, .ref T, .ref za, .ref (ia 0), .ref (ia 1), .ref (ia 2), .int 0, .int bg])), (F, .inr (0, [.ref (fa 0), .ref (fa 1), .ref (fa 2), .ref (fa 3), .ref (fa 4), .ref (fa 5), .ref (fa 6), .ref (fa 7), .ref (fa 8), .int 0, .int 0, .int ck]))] sz)) (va_A [(P, .inr (5, [.ref F, .ref G, .ref T, .ref za, .ref (ia 0), .ref (ia 1), .ref (ia 2), .int 0, .int bg])), (F, .inr (0, [.ref (fa 0), .ref (fa 1), .ref (fa 2), .ref (fa 3), .ref (fa 4), .ref (fa 5), .ref (fa 6), .ref (fa 7), .ref (fa 8), .int 0, .int 0, .int ck]))] sz)) 0 0 (va_A [(P, .inr (5, [.ref F, .ref G, .ref T, .ref za, .ref (ia 0), .ref (ia 1), .ref (ia 2), .int 0, .int bg])), (F, .inr (0, [.ref (fa 0), .ref (fa 1), .ref (fa 2), .ref (fa 3), .ref (fa 4), .ref (fa 5), .ref (fa 6), .ref (fa 7), .ref (fa 8), .int 0, .int 0, .int ck]))] sz) := by
  refine Met.ofW (cc := cX5_costOfAll) (maxL := 3) (ret := (some .int)) (by decide) rfl ?_
  intro p e s m args below meth c s₁ B hml hv
  obtain ⟨rfl, hsz, hP, hK, hD0, hN⟩ := hv
  have hx := B.exec
  have hb := B.bytes
  have hr := B.returns
  have hts := atoms_spec (ws := (Cond.code yX5_costOfAll cX5_costOfAll 3 (some .int) :: TB)) B.pre
  have hown : s.vm.findClass RX5 = some m.cls := findClass_of_methodNamed B.named
  have hlocks := B.notSynchronized
  subst hsz
  have hD := hD0.self (sz := s.heap.size)
  generalize hAe : va_A [(P, .inr (5, [.ref F, .ref G, .ref T, .ref za, .ref (ia 0), .ref (ia 1), .ref (ia 2), .int 0, .int bg])), (F, .inr (0, [.ref (fa 0), .ref (fa 1), .ref (fa 2), .ref (fa 3), .ref (fa 4), .ref (fa 5), .ref (fa 6), .ref (fa 7), .ref (fa 8), .int 0, .int 0, .int ck]))] s.heap.size = A at hD ⊢
  have hA : ∀ q : Nat, s.heap.size ≤ q → A q := fun q h => by rw [← hAe]; exact Or.inr h
  have hS : va_S A s.heap s.heap [] := va_S.rf
  have hl := lv_entry ([.ref P]) (n := 3) (Nat.le_of_ble_eq_true rfl)
  rw [lg_entry_eq]
  generalize (lg_sl ([.ref P]) ++ List.replicate (3 - (lg_sl ([.ref P])).length) Slot.unset).toArray = ls at hl ⊢
  have hl : lv_has ls 3 [(0, .ref P)] := hl
  refine lv_iconst (v := 0) hx hb dX5_costOfAll_0 (by decide) ?_
  refine lv_istore_n (lv' := [(1, .int 0), (0, .ref P)]) hx hb dX5_costOfAll_1 rfl hl (by decide) rfl (fun ls hl => ?_)
  refine lv_iconst (v := 0) hx hb dX5_costOfAll_2 (by decide) ?_
  refine lv_istore_n (lv' := [(2, .int 0), (1, .int 0), (0, .ref P)]) hx hb dX5_costOfAll_3 rfl hl (by decide) rfl (fun ls hl => ?_)
  refine lv_iload_n hx hb dX5_costOfAll_4 rfl (lv_at hl 0 rfl) ?_
  refine lv_aload_n hx hb dX5_costOfAll_5 rfl (lv_at hl 2 rfl) ?_
  refine va_get (D := (dC, dI)) (ci := 5) (v := .int 0) (C := RX5) (T := TX5) (N := 9) hx hb hts (fun w h => tb_in (inX5 w h)) hown hK hP 0 rfl rfl 7 (by decide) (hts _ (tb_in q_fl_X5_86)) (fun _ h9 => h9) rfl dX5_costOfAll_6 ?_
  refine lv_icmp_ge (tgt := 47) hx hb dX5_costOfAll_9 (by decide) (fun c_1 => ?_) (fun c_1 => ?_)
  rotate_left
  · first | exact absurd c_1 (by decide) | exact absurd (by decide) c_1
  refine lv_iconst (v := 0) hx hb dX5_costOfAll_47 (by decide) ?_
  refine lv_istore_n (lv' := [(2, .int 0), (1, .int 0), (0, .ref P)]) hx hb dX5_costOfAll_48 rfl hl (by decide) rfl (fun ls hl => ?_)
  refine lv_iload_n hx hb dX5_costOfAll_49 rfl (lv_at hl 0 rfl) ?_
  refine lv_aload_n hx hb dX5_costOfAll_50 rfl (lv_at hl 2 rfl) ?_
  refine va_get (D := (dC, dI)) (ci := 5) (v := .ref F) (C := RX5) (T := TX5) (N := 9) hx hb hts (fun w h => tb_in (inX5 w h)) hown hK hP 0 rfl rfl 0 (by decide) (hts _ (tb_in q_fl_X5_12)) (fun _ h9 => h9) rfl dX5_costOfAll_51 ?_
  refine va_get (D := (dC, dI)) (ci := 0) (v := .int 0) (C := RX0) (T := TX0) (N := 12) hx hb hts (fun w h => tb_in (inX0 w h)) hown hK hP 1 rfl rfl 10 (by decide) (hts _ (tb_in q_fl_X5_111)) (fun _ h9 => h9) rfl dX5_costOfAll_54 ?_
  refine lv_icmp_ge (tgt := 87) hx hb dX5_costOfAll_57 (by decide) (fun c_2 => ?_) (fun c_2 => ?_)
  rotate_left
  · first | exact absurd c_2 (by decide) | exact absurd (by decide) c_2
  refine lv_iload_n hx hb dX5_costOfAll_87 rfl (lv_at hl 1 rfl) ?_
  refine W.widen (k := 0) (n := 0) (Nat.le_of_ble_eq_true rfl) (Nat.le_of_ble_eq_true rfl) ?_
  have hP9 := hP
  have hD9 := hD
  exact W.iret (v := 0) hx hb hr (fun t9 ht9 hW9 => ⟨⟨_, (), rfl, rfl, by rw [ht9]; exact hP9, va_K.moved hW9.alike hK, hD9⟩, hS.F ht9⟩) hS.2.2 dX5_costOfAll_88
set_option maxHeartbeats 4000000 in
set_option maxRecDepth 100000 in
theorem c_X5_rebuild (l : Launch) (dC : Nat → ClassId) (dI : Nat → Nat → Nat) (cI cV cJ cL : ClassId) (P F G T za : Nat) (fa ia : Nat → Nat) (bg ck : Int32)  (sz : Nat) : Met l yX5_rebuild (Cond.code yX5_rebuild cX5_rebuild 2 (some .int) :: TB) ({ frames := 2, cells := 0, slots := 0, locals := 47 } : Room) (PW [.ref P] (dC, dI) [(P, .inr (5, [.ref F, .ref G, .ref T, .ref za, .ref (ia 0), .ref (ia 1), .ref (ia 2), .int 0, .int bg])), (F, .inr (0, [.ref (fa 0), .ref (fa 1), .ref (fa 2), .ref (fa 3), .ref (fa 4), .ref (fa 5), .ref (fa 6), .ref (fa 7), .ref (fa 8), .int 0, .int 0, .int 0]))] (TYP cI cV cJ cL) sz) (va_Qi (fun (r : Int32) (_ : Unit) => r = 0) (QB (dC, dI) (fun (_ : Unit) => []) (TYP cI cV cJ cL) (va_A [(P, .inr (5, [.ref F, .ref G, .ref T, .ref za, .ref (ia 0), .ref (ia 1), .ref (ia 2), .int 0, .int bg])), (F, .inr (0, [.ref (fa 0), .ref (fa 1), .ref (fa 2), .ref (fa 3), .ref (fa 4), .ref (fa 5), .ref (fa 6), .ref (fa 7), .ref (fa 8), .int 0, .int 0, .int 0]))] sz)) (va_A [(P, .inr (5, [.ref F, .ref G, .ref T, .ref za, .ref (ia 0), .ref (ia 1), .ref (ia 2), .int 0, .int bg])), (F, .inr (0, [.ref (fa 0), .ref (fa 1), .ref (fa 2), .ref (fa 3), .ref (fa 4), .ref (fa 5), .ref (fa 6), .ref (fa 7), .ref (fa 8), .int 0, .int 0, .int 0]))] sz)) 0 0 (va_A [(P, .inr (5, [.ref F, .ref G, .ref T, .ref za, .ref (ia 0), .ref (ia 1), .ref (ia 2), .int 0, .int bg])), (F, .inr (0, [.ref (fa 0), .ref (fa 1), .ref (fa 2), .ref (fa 3), .ref (fa 4), .ref (fa 5), .ref (fa 6), .ref (fa 7), .ref (fa 8), .int 0, .int 0, .int 0]))] sz) := by
  refine Met.ofW (cc := cX5_rebuild) (maxL := 2) (ret := (some .int)) (by decide) rfl ?_
  intro p e s m args below meth c s₁ B hml hv
  obtain ⟨rfl, hsz, hP, hK, hD0, hN⟩ := hv
  have hx := B.exec
  have hb := B.bytes
  have hr := B.returns
  have hts := atoms_spec (ws := (Cond.code yX5_rebuild cX5_rebuild 2 (some .int) :: TB)) B.pre
  have hown : s.vm.findClass RX5 = some m.cls := findClass_of_methodNamed B.named
  have hlocks := B.notSynchronized
  subst hsz
  have hD := hD0.self (sz := s.heap.size)
  generalize hAe : va_A [(P, .inr (5, [.ref F, .ref G, .ref T, .ref za, .ref (ia 0), .ref (ia 1), .ref (ia 2), .int 0, .int bg])), (F, .inr (0, [.ref (fa 0), .ref (fa 1), .ref (fa 2), .ref (fa 3), .ref (fa 4), .ref (fa 5), .ref (fa 6), .ref (fa 7), .ref (fa 8), .int 0, .int 0, .int 0]))] s.heap.size = A at hD ⊢
  have hA : ∀ q : Nat, s.heap.size ≤ q → A q := fun q h => by rw [← hAe]; exact Or.inr h
  have hS : va_S A s.heap s.heap [] := va_S.rf
  have hl := lv_entry ([.ref P]) (n := 2) (Nat.le_of_ble_eq_true rfl)
  rw [lg_entry_eq]
  generalize (lg_sl ([.ref P]) ++ List.replicate (2 - (lg_sl ([.ref P])).length) Slot.unset).toArray = ls at hl ⊢
  have hl : lv_has ls 2 [(0, .ref P)] := hl
  refine lv_iconst (v := 0) hx hb dX5_rebuild_0 (by decide) ?_
  refine lv_istore_n (lv' := [(1, .int 0), (0, .ref P)]) hx hb dX5_rebuild_1 rfl hl (by decide) rfl (fun ls hl => ?_)
  refine lv_iload_n hx hb dX5_rebuild_2 rfl (lv_at hl 0 rfl) ?_
  refine lv_bipush (v := 9) hx hb dX5_rebuild_3 (by decide) ?_
  refine lv_icmp_ge (tgt := 29) hx hb dX5_rebuild_5 (by decide) (fun c_1 => ?_) (fun c_1 => ?_)
  · first | exact absurd c_1 (by decide) | exact absurd (by decide) c_1
  refine lv_aload_n hx hb dX5_rebuild_8 rfl (lv_at hl 1 rfl) ?_
  refine n_Vz (ci := 5) (q0 := 0) (wc := [(P, .inr (5, [.ref F, .ref G, .ref T, .ref za, .ref (ia 0), .ref (ia 1), .ref (ia 2), .int 0, .int bg])), (F, .inr (0, [.ref (fa 0), .ref (fa 1), .ref (fa 2), .ref (fa 3), .ref (fa 4), .ref (fa 5), .ref (fa 6), .ref (fa 7), .ref (fa 8), .int 0, .int 0, .int 0]))]) (wr := []) [] [0, 1] [] ⟨hx, hb, hml, hown, hts⟩ (fun sz => c_X5_chooseByRegret l dC dI cI cV cJ cL P F G T za fa ia bg 0  sz) q_ml_X5_205 q_im_X5_chooseByRegret q_se_X5_chooseByRegret q_ini_X5 q_co_X5_chooseByRegret (n := 0) (by decide +kernel) rfl ⟨rfl, rfl⟩ ⟨Nat.le_of_ble_eq_true rfl, Nat.le_of_ble_eq_true rfl⟩ hP hD hS hA hK hN rfl rfl (by decide) (by decide) (by decide) rfl rfl rfl hl.1 rfl (Nat.le_of_ble_eq_true rfl) dX5_rebuild_9 ⟨Nat.le_of_ble_eq_true rfl, Nat.le_of_ble_eq_true rfl⟩ (fun r_3 u_2 H locs hu_2 hP hD hS => ?_)
  have hP : va_P (dC, dI) cls [(P, .inr (5, [.ref F, .ref G, .ref T, .ref za, .ref (ia 0), .ref (ia 1), .ref (ia 2), .int 0, .int bg])), (F, .inr (0, [.ref (fa 0), .ref (fa 1), .ref (fa 2), .ref (fa 3), .ref (fa 4), .ref (fa 5), .ref (fa 6), .ref (fa 7), .ref (fa 8), .int 0, .int 0, .int 0]))] H := hP
  have hD : va_D A [(P, .inr (5, [.ref F, .ref G, .ref T, .ref za, .ref (ia 0), .ref (ia 1), .ref (ia 2), .int 0, .int bg])), (F, .inr (0, [.ref (fa 0), .ref (fa 1), .ref (fa 2), .ref (fa 3), .ref (fa 4), .ref (fa 5), .ref (fa 6), .ref (fa 7), .ref (fa 8), .int 0, .int 0, .int 0]))] := hD
  obtain rfl := hu_2
  refine lv_if_eq (tgt := 29) hx hb dX5_rebuild_12 (by decide) (fun c_4 => ?_) (fun c_4 => ?_)
  rotate_left
  · first | exact absurd c_4 (by decide) | exact absurd (by decide) c_4
  refine lv_iload_n hx hb dX5_rebuild_29 rfl (lv_at hl 0 rfl) ?_
  refine W.widen (k := 0) (n := 0) (Nat.le_of_ble_eq_true rfl) (Nat.le_of_ble_eq_true rfl) ?_
  have hP := hP.sub (ws' := []) [] rfl
  have hD := hD.sub (ws' := []) [] (by decide) rfl
  have hP9 := hP
  have hD9 := hD
  exact W.iret (v := 0) hx hb hr (fun t9 ht9 hW9 => ⟨⟨_, (), rfl, rfl, by rw [ht9]; exact hP9, va_K.moved hW9.alike hK, hD9⟩, hS.F ht9⟩) hS.2.2 dX5_rebuild_30
set_option maxHeartbeats 4000000 in
set_option maxRecDepth 100000 in
theorem c_X5_clock (l : Launch) (dC : Nat → ClassId) (dI : Nat → Nat → Nat) (cI cV cJ cL : ClassId) (P F G T za : Nat) (fa ia : Nat → Nat) (bg ck : Int32)  (sz : Nat) : Met l yX5_clock (Cond.code yX5_clock cX5_clock 1 (some .int) :: TB) ({ frames := 1, cells := 0, slots := 0, locals := 24 } : Room) (PW [.ref P] (dC, dI) [(P, .inr (5, [.ref F, .ref G, .ref T, .ref za, .ref (ia 0), .ref (ia 1), .ref (ia 2), .int 0, .int bg])), (F, .inr (0, [.ref (fa 0), .ref (fa 1), .ref (fa 2), .ref (fa 3), .ref (fa 4), .ref (fa 5), .ref (fa 6), .ref (fa 7), .ref (fa 8), .int 0, .int 0, .int 0]))] (TYP cI cV cJ cL) sz) (va_Qi (fun (r : Int32) (_ : Unit) => r = 0) (QB (dC, dI) (fun (_ : Unit) => []) (TYP cI cV cJ cL) (va_A [(P, .inr (5, [.ref F, .ref G, .ref T, .ref za, .ref (ia 0), .ref (ia 1), .ref (ia 2), .int 0, .int bg])), (F, .inr (0, [.ref (fa 0), .ref (fa 1), .ref (fa 2), .ref (fa 3), .ref (fa 4), .ref (fa 5), .ref (fa 6), .ref (fa 7), .ref (fa 8), .int 0, .int 0, .int 0]))] sz)) (va_A [(P, .inr (5, [.ref F, .ref G, .ref T, .ref za, .ref (ia 0), .ref (ia 1), .ref (ia 2), .int 0, .int bg])), (F, .inr (0, [.ref (fa 0), .ref (fa 1), .ref (fa 2), .ref (fa 3), .ref (fa 4), .ref (fa 5), .ref (fa 6), .ref (fa 7), .ref (fa 8), .int 0, .int 0, .int 0]))] sz)) 0 0 (va_A [(P, .inr (5, [.ref F, .ref G, .ref T, .ref za, .ref (ia 0), .ref (ia 1), .ref (ia 2), .int 0, .int bg])), (F, .inr (0, [.ref (fa 0), .ref (fa 1), .ref (fa 2), .ref (fa 3), .ref (fa 4), .ref (fa 5), .ref (fa 6), .ref (fa 7), .ref (fa 8), .int 0, .int 0, .int 0]))] sz) := by
  refine Met.ofW (cc := cX5_clock) (maxL := 1) (ret := (some .int)) (by decide) rfl ?_
  intro p e s m args below meth c s₁ B hml hv
  obtain ⟨rfl, hsz, hP, hK, hD0, hN⟩ := hv
  have hx := B.exec
  have hb := B.bytes
  have hr := B.returns
  have hts := atoms_spec (ws := (Cond.code yX5_clock cX5_clock 1 (some .int) :: TB)) B.pre
  have hown : s.vm.findClass RX5 = some m.cls := findClass_of_methodNamed B.named
  have hlocks := B.notSynchronized
  subst hsz
  have hD := hD0.self (sz := s.heap.size)
  generalize hAe : va_A [(P, .inr (5, [.ref F, .ref G, .ref T, .ref za, .ref (ia 0), .ref (ia 1), .ref (ia 2), .int 0, .int bg])), (F, .inr (0, [.ref (fa 0), .ref (fa 1), .ref (fa 2), .ref (fa 3), .ref (fa 4), .ref (fa 5), .ref (fa 6), .ref (fa 7), .ref (fa 8), .int 0, .int 0, .int 0]))] s.heap.size = A at hD ⊢
  have hA : ∀ q : Nat, s.heap.size ≤ q → A q := fun q h => by rw [← hAe]; exact Or.inr h
  have hS : va_S A s.heap s.heap [] := va_S.rf
  have hl := lv_entry ([.ref P]) (n := 1) (Nat.le_of_ble_eq_true rfl)
  rw [lg_entry_eq]
  generalize (lg_sl ([.ref P]) ++ List.replicate (1 - (lg_sl ([.ref P])).length) Slot.unset).toArray = ls at hl ⊢
  have hl : lv_has ls 1 [(0, .ref P)] := hl
  refine lv_aload_n hx hb dX5_clock_0 rfl (lv_at hl 0 rfl) ?_
  refine va_get (D := (dC, dI)) (ci := 5) (v := .ref F) (C := RX5) (T := TX5) (N := 9) hx hb hts (fun w h => tb_in (inX5 w h)) hown hK hP 0 rfl rfl 0 (by decide) (hts _ (tb_in q_fl_X5_12)) (fun _ h9 => h9) rfl dX5_clock_1 ?_
  refine va_get (D := (dC, dI)) (ci := 0) (v := .int 0) (C := RX0) (T := TX0) (N := 12) hx hb hts (fun w h => tb_in (inX0 w h)) hown hK hP 1 rfl rfl 11 (by decide) (hts _ (tb_in q_fl_X5_241)) (fun _ h9 => h9) rfl dX5_clock_4 ?_
  refine W.widen (k := 0) (n := 0) (Nat.le_of_ble_eq_true rfl) (Nat.le_of_ble_eq_true rfl) ?_
  have hP := hP.sub (ws' := []) [] rfl
  have hD := hD.sub (ws' := []) [] (by decide) rfl
  have hP9 := hP
  have hD9 := hD
  exact W.iret (v := 0) hx hb hr (fun t9 ht9 hW9 => ⟨⟨_, (), rfl, rfl, by rw [ht9]; exact hP9, va_K.moved hW9.alike hK, hD9⟩, hS.F ht9⟩) hS.2.2 dX5_clock_7
set_option maxHeartbeats 4000000 in
set_option maxRecDepth 100000 in
theorem c_X5_places (l : Launch) (dC : Nat → ClassId) (dI : Nat → Nat → Nat) (cI cV cJ cL : ClassId) (P F G T za : Nat) (fa ia : Nat → Nat) (bg ck : Int32)  (sz : Nat) : Met l yX5_places (Cond.code yX5_places cX5_places 1 (some .int) :: TB) ({ frames := 1, cells := 0, slots := 0, locals := 24 } : Room) (PW [.ref P] (dC, dI) [(P, .inr (5, [.ref F, .ref G, .ref T, .ref za, .ref (ia 0), .ref (ia 1), .ref (ia 2), .int 0, .int bg])), (F, .inr (0, [.ref (fa 0), .ref (fa 1), .ref (fa 2), .ref (fa 3), .ref (fa 4), .ref (fa 5), .ref (fa 6), .ref (fa 7), .ref (fa 8), .int 0, .int 0, .int 0]))] (TYP cI cV cJ cL) sz) (va_Qi (fun (r : Int32) (_ : Unit) => r = 0) (QB (dC, dI) (fun (_ : Unit) => []) (TYP cI cV cJ cL) (va_A [(P, .inr (5, [.ref F, .ref G, .ref T, .ref za, .ref (ia 0), .ref (ia 1), .ref (ia 2), .int 0, .int bg])), (F, .inr (0, [.ref (fa 0), .ref (fa 1), .ref (fa 2), .ref (fa 3), .ref (fa 4), .ref (fa 5), .ref (fa 6), .ref (fa 7), .ref (fa 8), .int 0, .int 0, .int 0]))] sz)) (va_A [(P, .inr (5, [.ref F, .ref G, .ref T, .ref za, .ref (ia 0), .ref (ia 1), .ref (ia 2), .int 0, .int bg])), (F, .inr (0, [.ref (fa 0), .ref (fa 1), .ref (fa 2), .ref (fa 3), .ref (fa 4), .ref (fa 5), .ref (fa 6), .ref (fa 7), .ref (fa 8), .int 0, .int 0, .int 0]))] sz)) 0 0 (va_A [(P, .inr (5, [.ref F, .ref G, .ref T, .ref za, .ref (ia 0), .ref (ia 1), .ref (ia 2), .int 0, .int bg])), (F, .inr (0, [.ref (fa 0), .ref (fa 1), .ref (fa 2), .ref (fa 3), .ref (fa 4), .ref (fa 5), .ref (fa 6), .ref (fa 7), .ref (fa 8), .int 0, .int 0, .int 0]))] sz) := by
  refine Met.ofW (cc := cX5_places) (maxL := 1) (ret := (some .int)) (by decide) rfl ?_
  intro p e s m args below meth c s₁ B hml hv
  obtain ⟨rfl, hsz, hP, hK, hD0, hN⟩ := hv
  have hx := B.exec
  have hb := B.bytes
  have hr := B.returns
  have hts := atoms_spec (ws := (Cond.code yX5_places cX5_places 1 (some .int) :: TB)) B.pre
  have hown : s.vm.findClass RX5 = some m.cls := findClass_of_methodNamed B.named
  have hlocks := B.notSynchronized
  subst hsz
  have hD := hD0.self (sz := s.heap.size)
  generalize hAe : va_A [(P, .inr (5, [.ref F, .ref G, .ref T, .ref za, .ref (ia 0), .ref (ia 1), .ref (ia 2), .int 0, .int bg])), (F, .inr (0, [.ref (fa 0), .ref (fa 1), .ref (fa 2), .ref (fa 3), .ref (fa 4), .ref (fa 5), .ref (fa 6), .ref (fa 7), .ref (fa 8), .int 0, .int 0, .int 0]))] s.heap.size = A at hD ⊢
  have hA : ∀ q : Nat, s.heap.size ≤ q → A q := fun q h => by rw [← hAe]; exact Or.inr h
  have hS : va_S A s.heap s.heap [] := va_S.rf
  have hl := lv_entry ([.ref P]) (n := 1) (Nat.le_of_ble_eq_true rfl)
  rw [lg_entry_eq]
  generalize (lg_sl ([.ref P]) ++ List.replicate (1 - (lg_sl ([.ref P])).length) Slot.unset).toArray = ls at hl ⊢
  have hl : lv_has ls 1 [(0, .ref P)] := hl
  refine lv_aload_n hx hb dX5_places_0 rfl (lv_at hl 0 rfl) ?_
  refine va_get (D := (dC, dI)) (ci := 5) (v := .ref F) (C := RX5) (T := TX5) (N := 9) hx hb hts (fun w h => tb_in (inX5 w h)) hown hK hP 0 rfl rfl 0 (by decide) (hts _ (tb_in q_fl_X5_12)) (fun _ h9 => h9) rfl dX5_places_1 ?_
  refine va_get (D := (dC, dI)) (ci := 0) (v := .int 0) (C := RX0) (T := TX0) (N := 12) hx hb hts (fun w h => tb_in (inX0 w h)) hown hK hP 1 rfl rfl 9 (by decide) (hts _ (tb_in q_fl_X5_61)) (fun _ h9 => h9) rfl dX5_places_4 ?_
  refine W.widen (k := 0) (n := 0) (Nat.le_of_ble_eq_true rfl) (Nat.le_of_ble_eq_true rfl) ?_
  have hP := hP.sub (ws' := []) [] rfl
  have hD := hD.sub (ws' := []) [] (by decide) rfl
  have hP9 := hP
  have hD9 := hD
  exact W.iret (v := 0) hx hb hr (fun t9 ht9 hW9 => ⟨⟨_, (), rfl, rfl, by rw [ht9]; exact hP9, va_K.moved hW9.alike hK, hD9⟩, hS.F ht9⟩) hS.2.2 dX5_places_7
set_option maxHeartbeats 4000000 in
set_option maxRecDepth 100000 in
theorem c_X5_vehicles (l : Launch) (dC : Nat → ClassId) (dI : Nat → Nat → Nat) (cI cV cJ cL : ClassId) (P F G T za : Nat) (fa ia : Nat → Nat) (bg ck : Int32)  (sz : Nat) : Met l yX5_vehicles (Cond.code yX5_vehicles cX5_vehicles 1 (some .int) :: TB) ({ frames := 1, cells := 0, slots := 0, locals := 24 } : Room) (PW [.ref P] (dC, dI) [(P, .inr (5, [.ref F, .ref G, .ref T, .ref za, .ref (ia 0), .ref (ia 1), .ref (ia 2), .int 0, .int bg])), (F, .inr (0, [.ref (fa 0), .ref (fa 1), .ref (fa 2), .ref (fa 3), .ref (fa 4), .ref (fa 5), .ref (fa 6), .ref (fa 7), .ref (fa 8), .int 0, .int 0, .int 0]))] (TYP cI cV cJ cL) sz) (va_Qi (fun (r : Int32) (_ : Unit) => r = 0) (QB (dC, dI) (fun (_ : Unit) => []) (TYP cI cV cJ cL) (va_A [(P, .inr (5, [.ref F, .ref G, .ref T, .ref za, .ref (ia 0), .ref (ia 1), .ref (ia 2), .int 0, .int bg])), (F, .inr (0, [.ref (fa 0), .ref (fa 1), .ref (fa 2), .ref (fa 3), .ref (fa 4), .ref (fa 5), .ref (fa 6), .ref (fa 7), .ref (fa 8), .int 0, .int 0, .int 0]))] sz)) (va_A [(P, .inr (5, [.ref F, .ref G, .ref T, .ref za, .ref (ia 0), .ref (ia 1), .ref (ia 2), .int 0, .int bg])), (F, .inr (0, [.ref (fa 0), .ref (fa 1), .ref (fa 2), .ref (fa 3), .ref (fa 4), .ref (fa 5), .ref (fa 6), .ref (fa 7), .ref (fa 8), .int 0, .int 0, .int 0]))] sz)) 0 0 (va_A [(P, .inr (5, [.ref F, .ref G, .ref T, .ref za, .ref (ia 0), .ref (ia 1), .ref (ia 2), .int 0, .int bg])), (F, .inr (0, [.ref (fa 0), .ref (fa 1), .ref (fa 2), .ref (fa 3), .ref (fa 4), .ref (fa 5), .ref (fa 6), .ref (fa 7), .ref (fa 8), .int 0, .int 0, .int 0]))] sz) := by
  refine Met.ofW (cc := cX5_vehicles) (maxL := 1) (ret := (some .int)) (by decide) rfl ?_
  intro p e s m args below meth c s₁ B hml hv
  obtain ⟨rfl, hsz, hP, hK, hD0, hN⟩ := hv
  have hx := B.exec
  have hb := B.bytes
  have hr := B.returns
  have hts := atoms_spec (ws := (Cond.code yX5_vehicles cX5_vehicles 1 (some .int) :: TB)) B.pre
  have hown : s.vm.findClass RX5 = some m.cls := findClass_of_methodNamed B.named
  have hlocks := B.notSynchronized
  subst hsz
  have hD := hD0.self (sz := s.heap.size)
  generalize hAe : va_A [(P, .inr (5, [.ref F, .ref G, .ref T, .ref za, .ref (ia 0), .ref (ia 1), .ref (ia 2), .int 0, .int bg])), (F, .inr (0, [.ref (fa 0), .ref (fa 1), .ref (fa 2), .ref (fa 3), .ref (fa 4), .ref (fa 5), .ref (fa 6), .ref (fa 7), .ref (fa 8), .int 0, .int 0, .int 0]))] s.heap.size = A at hD ⊢
  have hA : ∀ q : Nat, s.heap.size ≤ q → A q := fun q h => by rw [← hAe]; exact Or.inr h
  have hS : va_S A s.heap s.heap [] := va_S.rf
  have hl := lv_entry ([.ref P]) (n := 1) (Nat.le_of_ble_eq_true rfl)
  rw [lg_entry_eq]
  generalize (lg_sl ([.ref P]) ++ List.replicate (1 - (lg_sl ([.ref P])).length) Slot.unset).toArray = ls at hl ⊢
  have hl : lv_has ls 1 [(0, .ref P)] := hl
  refine lv_aload_n hx hb dX5_vehicles_0 rfl (lv_at hl 0 rfl) ?_
  refine va_get (D := (dC, dI)) (ci := 5) (v := .int 0) (C := RX5) (T := TX5) (N := 9) hx hb hts (fun w h => tb_in (inX5 w h)) hown hK hP 0 rfl rfl 7 (by decide) (hts _ (tb_in q_fl_X5_86)) (fun _ h9 => h9) rfl dX5_vehicles_1 ?_
  refine W.widen (k := 0) (n := 0) (Nat.le_of_ble_eq_true rfl) (Nat.le_of_ble_eq_true rfl) ?_
  have hP := hP.sub (ws' := []) [] rfl
  have hD := hD.sub (ws' := []) [] (by decide) rfl
  have hP9 := hP
  have hD9 := hD
  exact W.iret (v := 0) hx hb hr (fun t9 ht9 hW9 => ⟨⟨_, (), rfl, rfl, by rw [ht9]; exact hP9, va_K.moved hW9.alike hK, hD9⟩, hS.F ht9⟩) hS.2.2 dX5_vehicles_4
set_option maxHeartbeats 4000000 in
set_option maxRecDepth 100000 in
theorem c_X5_jobs (l : Launch) (dC : Nat → ClassId) (dI : Nat → Nat → Nat) (cI cV cJ cL : ClassId) (P F G T za : Nat) (fa ia : Nat → Nat) (bg ck : Int32)  (sz : Nat) : Met l yX5_jobs (Cond.code yX5_jobs cX5_jobs 1 (some .int) :: TB) ({ frames := 1, cells := 0, slots := 0, locals := 24 } : Room) (PW [.ref P] (dC, dI) [(P, .inr (5, [.ref F, .ref G, .ref T, .ref za, .ref (ia 0), .ref (ia 1), .ref (ia 2), .int 0, .int bg])), (F, .inr (0, [.ref (fa 0), .ref (fa 1), .ref (fa 2), .ref (fa 3), .ref (fa 4), .ref (fa 5), .ref (fa 6), .ref (fa 7), .ref (fa 8), .int 0, .int 0, .int 0]))] (TYP cI cV cJ cL) sz) (va_Qi (fun (r : Int32) (_ : Unit) => r = 0) (QB (dC, dI) (fun (_ : Unit) => []) (TYP cI cV cJ cL) (va_A [(P, .inr (5, [.ref F, .ref G, .ref T, .ref za, .ref (ia 0), .ref (ia 1), .ref (ia 2), .int 0, .int bg])), (F, .inr (0, [.ref (fa 0), .ref (fa 1), .ref (fa 2), .ref (fa 3), .ref (fa 4), .ref (fa 5), .ref (fa 6), .ref (fa 7), .ref (fa 8), .int 0, .int 0, .int 0]))] sz)) (va_A [(P, .inr (5, [.ref F, .ref G, .ref T, .ref za, .ref (ia 0), .ref (ia 1), .ref (ia 2), .int 0, .int bg])), (F, .inr (0, [.ref (fa 0), .ref (fa 1), .ref (fa 2), .ref (fa 3), .ref (fa 4), .ref (fa 5), .ref (fa 6), .ref (fa 7), .ref (fa 8), .int 0, .int 0, .int 0]))] sz)) 0 0 (va_A [(P, .inr (5, [.ref F, .ref G, .ref T, .ref za, .ref (ia 0), .ref (ia 1), .ref (ia 2), .int 0, .int bg])), (F, .inr (0, [.ref (fa 0), .ref (fa 1), .ref (fa 2), .ref (fa 3), .ref (fa 4), .ref (fa 5), .ref (fa 6), .ref (fa 7), .ref (fa 8), .int 0, .int 0, .int 0]))] sz) := by
  refine Met.ofW (cc := cX5_jobs) (maxL := 1) (ret := (some .int)) (by decide) rfl ?_
  intro p e s m args below meth c s₁ B hml hv
  obtain ⟨rfl, hsz, hP, hK, hD0, hN⟩ := hv
  have hx := B.exec
  have hb := B.bytes
  have hr := B.returns
  have hts := atoms_spec (ws := (Cond.code yX5_jobs cX5_jobs 1 (some .int) :: TB)) B.pre
  have hown : s.vm.findClass RX5 = some m.cls := findClass_of_methodNamed B.named
  have hlocks := B.notSynchronized
  subst hsz
  have hD := hD0.self (sz := s.heap.size)
  generalize hAe : va_A [(P, .inr (5, [.ref F, .ref G, .ref T, .ref za, .ref (ia 0), .ref (ia 1), .ref (ia 2), .int 0, .int bg])), (F, .inr (0, [.ref (fa 0), .ref (fa 1), .ref (fa 2), .ref (fa 3), .ref (fa 4), .ref (fa 5), .ref (fa 6), .ref (fa 7), .ref (fa 8), .int 0, .int 0, .int 0]))] s.heap.size = A at hD ⊢
  have hA : ∀ q : Nat, s.heap.size ≤ q → A q := fun q h => by rw [← hAe]; exact Or.inr h
  have hS : va_S A s.heap s.heap [] := va_S.rf
  have hl := lv_entry ([.ref P]) (n := 1) (Nat.le_of_ble_eq_true rfl)
  rw [lg_entry_eq]
  generalize (lg_sl ([.ref P]) ++ List.replicate (1 - (lg_sl ([.ref P])).length) Slot.unset).toArray = ls at hl ⊢
  have hl : lv_has ls 1 [(0, .ref P)] := hl
  refine lv_aload_n hx hb dX5_jobs_0 rfl (lv_at hl 0 rfl) ?_
  refine va_get (D := (dC, dI)) (ci := 5) (v := .ref F) (C := RX5) (T := TX5) (N := 9) hx hb hts (fun w h => tb_in (inX5 w h)) hown hK hP 0 rfl rfl 0 (by decide) (hts _ (tb_in q_fl_X5_12)) (fun _ h9 => h9) rfl dX5_jobs_1 ?_
  refine va_get (D := (dC, dI)) (ci := 0) (v := .int 0) (C := RX0) (T := TX0) (N := 12) hx hb hts (fun w h => tb_in (inX0 w h)) hown hK hP 1 rfl rfl 10 (by decide) (hts _ (tb_in q_fl_X5_111)) (fun _ h9 => h9) rfl dX5_jobs_4 ?_
  refine W.widen (k := 0) (n := 0) (Nat.le_of_ble_eq_true rfl) (Nat.le_of_ble_eq_true rfl) ?_
  have hP := hP.sub (ws' := []) [] rfl
  have hD := hD.sub (ws' := []) [] (by decide) rfl
  have hP9 := hP
  have hD9 := hD
  exact W.iret (v := 0) hx hb hr (fun t9 ht9 hW9 => ⟨⟨_, (), rfl, rfl, by rw [ht9]; exact hP9, va_K.moved hW9.alike hK, hD9⟩, hS.F ht9⟩) hS.2.2 dX5_jobs_7
set_option maxHeartbeats 4000000 in
set_option maxRecDepth 100000 in
theorem c_X5_cost (l : Launch) (dC : Nat → ClassId) (dI : Nat → Nat → Nat) (cI cV cJ cL : ClassId) (P F G T za : Nat) (fa ia : Nat → Nat) (bg ck : Int32)  (sz : Nat) : Met l yX5_cost (Cond.code yX5_cost cX5_cost 1 (some .int) :: TB) ({ frames := 2, cells := 0, slots := 0, locals := 46 } : Room) (PW [.ref P] (dC, dI) [(P, .inr (5, [.ref F, .ref G, .ref T, .ref za, .ref (ia 0), .ref (ia 1), .ref (ia 2), .int 0, .int bg])), (F, .inr (0, [.ref (fa 0), .ref (fa 1), .ref (fa 2), .ref (fa 3), .ref (fa 4), .ref (fa 5), .ref (fa 6), .ref (fa 7), .ref (fa 8), .int 0, .int 0, .int 0]))] (TYP cI cV cJ cL) sz) (va_Qi (fun (r : Int32) (_ : Unit) => r = 0) (QB (dC, dI) (fun (_ : Unit) => []) (TYP cI cV cJ cL) (va_A [(P, .inr (5, [.ref F, .ref G, .ref T, .ref za, .ref (ia 0), .ref (ia 1), .ref (ia 2), .int 0, .int bg])), (F, .inr (0, [.ref (fa 0), .ref (fa 1), .ref (fa 2), .ref (fa 3), .ref (fa 4), .ref (fa 5), .ref (fa 6), .ref (fa 7), .ref (fa 8), .int 0, .int 0, .int 0]))] sz)) (va_A [(P, .inr (5, [.ref F, .ref G, .ref T, .ref za, .ref (ia 0), .ref (ia 1), .ref (ia 2), .int 0, .int bg])), (F, .inr (0, [.ref (fa 0), .ref (fa 1), .ref (fa 2), .ref (fa 3), .ref (fa 4), .ref (fa 5), .ref (fa 6), .ref (fa 7), .ref (fa 8), .int 0, .int 0, .int 0]))] sz)) 0 0 (va_A [(P, .inr (5, [.ref F, .ref G, .ref T, .ref za, .ref (ia 0), .ref (ia 1), .ref (ia 2), .int 0, .int bg])), (F, .inr (0, [.ref (fa 0), .ref (fa 1), .ref (fa 2), .ref (fa 3), .ref (fa 4), .ref (fa 5), .ref (fa 6), .ref (fa 7), .ref (fa 8), .int 0, .int 0, .int 0]))] sz) := by
  refine Met.ofW (cc := cX5_cost) (maxL := 1) (ret := (some .int)) (by decide) rfl ?_
  intro p e s m args below meth c s₁ B hml hv
  obtain ⟨rfl, hsz, hP, hK, hD0, hN⟩ := hv
  have hx := B.exec
  have hb := B.bytes
  have hr := B.returns
  have hts := atoms_spec (ws := (Cond.code yX5_cost cX5_cost 1 (some .int) :: TB)) B.pre
  have hown : s.vm.findClass RX5 = some m.cls := findClass_of_methodNamed B.named
  have hlocks := B.notSynchronized
  subst hsz
  have hD := hD0.self (sz := s.heap.size)
  generalize hAe : va_A [(P, .inr (5, [.ref F, .ref G, .ref T, .ref za, .ref (ia 0), .ref (ia 1), .ref (ia 2), .int 0, .int bg])), (F, .inr (0, [.ref (fa 0), .ref (fa 1), .ref (fa 2), .ref (fa 3), .ref (fa 4), .ref (fa 5), .ref (fa 6), .ref (fa 7), .ref (fa 8), .int 0, .int 0, .int 0]))] s.heap.size = A at hD ⊢
  have hA : ∀ q : Nat, s.heap.size ≤ q → A q := fun q h => by rw [← hAe]; exact Or.inr h
  have hS : va_S A s.heap s.heap [] := va_S.rf
  have hl := lv_entry ([.ref P]) (n := 1) (Nat.le_of_ble_eq_true rfl)
  rw [lg_entry_eq]
  generalize (lg_sl ([.ref P]) ++ List.replicate (1 - (lg_sl ([.ref P])).length) Slot.unset).toArray = ls at hl ⊢
  have hl : lv_has ls 1 [(0, .ref P)] := hl
  refine lv_aload_n hx hb dX5_cost_0 rfl (lv_at hl 0 rfl) ?_
  refine n_Vi (ci := 5) (q0 := 0) (wc := [(P, .inr (5, [.ref F, .ref G, .ref T, .ref za, .ref (ia 0), .ref (ia 1), .ref (ia 2), .int 0, .int bg])), (F, .inr (0, [.ref (fa 0), .ref (fa 1), .ref (fa 2), .ref (fa 3), .ref (fa 4), .ref (fa 5), .ref (fa 6), .ref (fa 7), .ref (fa 8), .int 0, .int 0, .int 0]))]) (wr := []) [] [0, 1] [] ⟨hx, hb, hml, hown, hts⟩ (fun sz => c_X5_costOfAll l dC dI cI cV cJ cL P F G T za fa ia bg 0  sz) q_ml_X5_293 q_im_X5_costOfAll q_se_X5_costOfAll q_ini_X5 q_co_X5_costOfAll (n := 0) (by decide +kernel) rfl ⟨rfl, rfl⟩ ⟨Nat.le_of_ble_eq_true rfl, Nat.le_of_ble_eq_true rfl⟩ hP hD hS hA hK hN rfl rfl (by decide) (by decide) (by decide) rfl rfl rfl hl.1 rfl (Nat.le_of_ble_eq_true rfl) dX5_cost_1 ⟨Nat.le_of_ble_eq_true rfl, Nat.le_of_ble_eq_true rfl⟩ (fun r_2 u_1 H locs hu_1 hP hD hS => ?_)
  have hP : va_P (dC, dI) cls [(P, .inr (5, [.ref F, .ref G, .ref T, .ref za, .ref (ia 0), .ref (ia 1), .ref (ia 2), .int 0, .int bg])), (F, .inr (0, [.ref (fa 0), .ref (fa 1), .ref (fa 2), .ref (fa 3), .ref (fa 4), .ref (fa 5), .ref (fa 6), .ref (fa 7), .ref (fa 8), .int 0, .int 0, .int 0]))] H := hP
  have hD : va_D A [(P, .inr (5, [.ref F, .ref G, .ref T, .ref za, .ref (ia 0), .ref (ia 1), .ref (ia 2), .int 0, .int bg])), (F, .inr (0, [.ref (fa 0), .ref (fa 1), .ref (fa 2), .ref (fa 3), .ref (fa 4), .ref (fa 5), .ref (fa 6), .ref (fa 7), .ref (fa 8), .int 0, .int 0, .int 0]))] := hD
  obtain rfl := hu_1
  refine W.widen (k := 0) (n := 0) (Nat.le_of_ble_eq_true rfl) (Nat.le_of_ble_eq_true rfl) ?_
  have hP := hP.sub (ws' := []) [] rfl
  have hD := hD.sub (ws' := []) [] (by decide) rfl
  have hP9 := hP
  have hD9 := hD
  exact W.iret (v := 0) hx hb hr (fun t9 ht9 hW9 => ⟨⟨_, (), rfl, rfl, by rw [ht9]; exact hP9, va_K.moved hW9.alike hK, hD9⟩, hS.F ht9⟩) hS.2.2 dX5_cost_4
set_option maxHeartbeats 4000000 in
set_option maxRecDepth 100000 in
theorem c_X5_digest (l : Launch) (dC : Nat → ClassId) (dI : Nat → Nat → Nat) (cI cV cJ cL : ClassId) (P F G T za : Nat) (fa ia : Nat → Nat) (bg ck : Int32)  (sz : Nat) : Met l yX5_digest (Cond.code yX5_digest cX5_digest 4 (some .long) :: TB) ({ frames := 3, cells := 0, slots := 0, locals := 73 } : Room) (PW [.ref P] (dC, dI) [(P, .inr (5, [.ref F, .ref G, .ref T, .ref za, .ref (ia 0), .ref (ia 1), .ref (ia 2), .int 0, .int 0])), (F, .inr (0, [.ref (fa 0), .ref (fa 1), .ref (fa 2), .ref (fa 3), .ref (fa 4), .ref (fa 5), .ref (fa 6), .ref (fa 7), .ref (fa 8), .int 0, .int 0, .int 0]))] (TYP cI cV cJ cL) sz) (va_Ql (fun (r : Int64) (_ : Unit) => r = 1534370592850220143) (QB (dC, dI) (fun (_ : Unit) => []) (TYP cI cV cJ cL) (va_A [(P, .inr (5, [.ref F, .ref G, .ref T, .ref za, .ref (ia 0), .ref (ia 1), .ref (ia 2), .int 0, .int 0])), (F, .inr (0, [.ref (fa 0), .ref (fa 1), .ref (fa 2), .ref (fa 3), .ref (fa 4), .ref (fa 5), .ref (fa 6), .ref (fa 7), .ref (fa 8), .int 0, .int 0, .int 0]))] sz)) (va_A [(P, .inr (5, [.ref F, .ref G, .ref T, .ref za, .ref (ia 0), .ref (ia 1), .ref (ia 2), .int 0, .int 0])), (F, .inr (0, [.ref (fa 0), .ref (fa 1), .ref (fa 2), .ref (fa 3), .ref (fa 4), .ref (fa 5), .ref (fa 6), .ref (fa 7), .ref (fa 8), .int 0, .int 0, .int 0]))] sz)) 0 0 (va_A [(P, .inr (5, [.ref F, .ref G, .ref T, .ref za, .ref (ia 0), .ref (ia 1), .ref (ia 2), .int 0, .int 0])), (F, .inr (0, [.ref (fa 0), .ref (fa 1), .ref (fa 2), .ref (fa 3), .ref (fa 4), .ref (fa 5), .ref (fa 6), .ref (fa 7), .ref (fa 8), .int 0, .int 0, .int 0]))] sz) := by
  refine Met.ofW (cc := cX5_digest) (maxL := 4) (ret := (some .long)) (by decide) rfl ?_
  intro p e s m args below meth c s₁ B hml hv
  obtain ⟨rfl, hsz, hP, hK, hD0, hN⟩ := hv
  have hx := B.exec
  have hb := B.bytes
  have hr := B.returns
  have hts := atoms_spec (ws := (Cond.code yX5_digest cX5_digest 4 (some .long) :: TB)) B.pre
  have hown : s.vm.findClass RX5 = some m.cls := findClass_of_methodNamed B.named
  have hlocks := B.notSynchronized
  subst hsz
  have hD := hD0.self (sz := s.heap.size)
  generalize hAe : va_A [(P, .inr (5, [.ref F, .ref G, .ref T, .ref za, .ref (ia 0), .ref (ia 1), .ref (ia 2), .int 0, .int 0])), (F, .inr (0, [.ref (fa 0), .ref (fa 1), .ref (fa 2), .ref (fa 3), .ref (fa 4), .ref (fa 5), .ref (fa 6), .ref (fa 7), .ref (fa 8), .int 0, .int 0, .int 0]))] s.heap.size = A at hD ⊢
  have hA : ∀ q : Nat, s.heap.size ≤ q → A q := fun q h => by rw [← hAe]; exact Or.inr h
  have hS : va_S A s.heap s.heap [] := va_S.rf
  have hl := lv_entry ([.ref P]) (n := 4) (Nat.le_of_ble_eq_true rfl)
  rw [lg_entry_eq]
  generalize (lg_sl ([.ref P]) ++ List.replicate (4 - (lg_sl ([.ref P])).length) Slot.unset).toArray = ls at hl ⊢
  have hl : lv_has ls 4 [(0, .ref P)] := hl
  refine lv_ldc2 (v := 58033) hx hb hown (hts _ (tb_in q_cg_X5_314)) dX5_digest_0 ?_
  refine lv_lstore_n (lv' := [(1, .long 58033), (0, .ref P)]) hx hb dX5_digest_3 rfl hl (by decide) rfl (fun ls hl => ?_)
  refine lv_lload_n hx hb dX5_digest_4 rfl (lv_at hl 0 rfl) ?_
  refine lv_ldc2 (v := 31) hx hb hown (hts _ (tb_in q_cg_X5_316)) dX5_digest_5 ?_
  refine lv_lmul hx hb dX5_digest_8 ?_
  refine k_sl1 (y := 1799023) (by decide +kernel) ?_
  refine lv_aload_n hx hb dX5_digest_9 rfl (lv_at hl 1 rfl) ?_
  refine va_get (D := (dC, dI)) (ci := 5) (v := .ref F) (C := RX5) (T := TX5) (N := 9) hx hb hts (fun w h => tb_in (inX5 w h)) hown hK hP 0 rfl rfl 0 (by decide) (hts _ (tb_in q_fl_X5_12)) (fun _ h9 => h9) rfl dX5_digest_10 ?_
  refine va_get (D := (dC, dI)) (ci := 0) (v := .int 0) (C := RX0) (T := TX0) (N := 12) hx hb hts (fun w h => tb_in (inX0 w h)) hown hK hP 1 rfl rfl 11 (by decide) (hts _ (tb_in q_fl_X5_241)) (fun _ h9 => h9) rfl dX5_digest_13 ?_
  refine lv_i2l (v := 0) hx hb dX5_digest_16 (by decide) ?_
  refine lv_ladd hx hb dX5_digest_17 ?_
  refine k_sl1 (y := 1799023) (by decide +kernel) ?_
  refine lv_lstore_n (lv' := [(1, .long 1799023), (0, .ref P)]) hx hb dX5_digest_18 rfl hl (by decide) rfl (fun ls hl => ?_)
  refine lv_lload_n hx hb dX5_digest_19 rfl (lv_at hl 0 rfl) ?_
  refine lv_ldc2 (v := 31) hx hb hown (hts _ (tb_in q_cg_X5_316)) dX5_digest_20 ?_
  refine lv_lmul hx hb dX5_digest_23 ?_
  refine k_sl1 (y := 55769713) (by decide +kernel) ?_
  refine lv_aload_n hx hb dX5_digest_24 rfl (lv_at hl 1 rfl) ?_
  refine va_get (D := (dC, dI)) (ci := 5) (v := .ref F) (C := RX5) (T := TX5) (N := 9) hx hb hts (fun w h => tb_in (inX5 w h)) hown hK hP 0 rfl rfl 0 (by decide) (hts _ (tb_in q_fl_X5_12)) (fun _ h9 => h9) rfl dX5_digest_25 ?_
  refine va_get (D := (dC, dI)) (ci := 0) (v := .int 0) (C := RX0) (T := TX0) (N := 12) hx hb hts (fun w h => tb_in (inX0 w h)) hown hK hP 1 rfl rfl 9 (by decide) (hts _ (tb_in q_fl_X5_61)) (fun _ h9 => h9) rfl dX5_digest_28 ?_
  refine lv_i2l (v := 0) hx hb dX5_digest_31 (by decide) ?_
  refine lv_ladd hx hb dX5_digest_32 ?_
  refine k_sl1 (y := 55769713) (by decide +kernel) ?_
  refine lv_lstore_n (lv' := [(1, .long 55769713), (0, .ref P)]) hx hb dX5_digest_33 rfl hl (by decide) rfl (fun ls hl => ?_)
  refine lv_lload_n hx hb dX5_digest_34 rfl (lv_at hl 0 rfl) ?_
  refine lv_ldc2 (v := 31) hx hb hown (hts _ (tb_in q_cg_X5_316)) dX5_digest_35 ?_
  refine lv_lmul hx hb dX5_digest_38 ?_
  refine k_sl1 (y := 1728861103) (by decide +kernel) ?_
  refine lv_aload_n hx hb dX5_digest_39 rfl (lv_at hl 1 rfl) ?_
  refine va_get (D := (dC, dI)) (ci := 5) (v := .int 0) (C := RX5) (T := TX5) (N := 9) hx hb hts (fun w h => tb_in (inX5 w h)) hown hK hP 0 rfl rfl 7 (by decide) (hts _ (tb_in q_fl_X5_86)) (fun _ h9 => h9) rfl dX5_digest_40 ?_
  refine lv_i2l (v := 0) hx hb dX5_digest_43 (by decide) ?_
  refine lv_ladd hx hb dX5_digest_44 ?_
  refine k_sl1 (y := 1728861103) (by decide +kernel) ?_
  refine lv_lstore_n (lv' := [(1, .long 1728861103), (0, .ref P)]) hx hb dX5_digest_45 rfl hl (by decide) rfl (fun ls hl => ?_)
  refine lv_lload_n hx hb dX5_digest_46 rfl (lv_at hl 0 rfl) ?_
  refine lv_ldc2 (v := 31) hx hb hown (hts _ (tb_in q_cg_X5_316)) dX5_digest_47 ?_
  refine lv_lmul hx hb dX5_digest_50 ?_
  refine k_sl1 (y := 53594694193) (by decide +kernel) ?_
  refine lv_aload_n hx hb dX5_digest_51 rfl (lv_at hl 1 rfl) ?_
  refine va_get (D := (dC, dI)) (ci := 5) (v := .ref F) (C := RX5) (T := TX5) (N := 9) hx hb hts (fun w h => tb_in (inX5 w h)) hown hK hP 0 rfl rfl 0 (by decide) (hts _ (tb_in q_fl_X5_12)) (fun _ h9 => h9) rfl dX5_digest_52 ?_
  refine va_get (D := (dC, dI)) (ci := 0) (v := .int 0) (C := RX0) (T := TX0) (N := 12) hx hb hts (fun w h => tb_in (inX0 w h)) hown hK hP 1 rfl rfl 10 (by decide) (hts _ (tb_in q_fl_X5_111)) (fun _ h9 => h9) rfl dX5_digest_55 ?_
  refine lv_i2l (v := 0) hx hb dX5_digest_58 (by decide) ?_
  refine lv_ladd hx hb dX5_digest_59 ?_
  refine k_sl1 (y := 53594694193) (by decide +kernel) ?_
  refine lv_lstore_n (lv' := [(1, .long 53594694193), (0, .ref P)]) hx hb dX5_digest_60 rfl hl (by decide) rfl (fun ls hl => ?_)
  refine lv_lload_n hx hb dX5_digest_61 rfl (lv_at hl 0 rfl) ?_
  refine lv_ldc2 (v := 31) hx hb hown (hts _ (tb_in q_cg_X5_316)) dX5_digest_62 ?_
  refine lv_lmul hx hb dX5_digest_65 ?_
  refine k_sl1 (y := 1661435519983) (by decide +kernel) ?_
  refine lv_aload_n hx hb dX5_digest_66 rfl (lv_at hl 1 rfl) ?_
  refine n_Vi (ci := 5) (q0 := 0) (wc := [(P, .inr (5, [.ref F, .ref G, .ref T, .ref za, .ref (ia 0), .ref (ia 1), .ref (ia 2), .int 0, .int 0])), (F, .inr (0, [.ref (fa 0), .ref (fa 1), .ref (fa 2), .ref (fa 3), .ref (fa 4), .ref (fa 5), .ref (fa 6), .ref (fa 7), .ref (fa 8), .int 0, .int 0, .int 0]))]) (wr := []) [] [0, 1] [] ⟨hx, hb, hml, hown, hts⟩ (fun sz => c_X5_costOfAll l dC dI cI cV cJ cL P F G T za fa ia 0 0  sz) q_ml_X5_293 q_im_X5_costOfAll q_se_X5_costOfAll q_ini_X5 q_co_X5_costOfAll (n := 0) (by decide +kernel) rfl ⟨rfl, rfl⟩ ⟨Nat.le_of_ble_eq_true rfl, Nat.le_of_ble_eq_true rfl⟩ hP hD hS hA hK hN rfl rfl (by decide) (by decide) (by decide) rfl rfl rfl hl.1 rfl (Nat.le_of_ble_eq_true rfl) dX5_digest_67 ⟨Nat.le_of_ble_eq_true rfl, Nat.le_of_ble_eq_true rfl⟩ (fun r_2 u_1 H locs hu_1 hP hD hS => ?_)
  have hP : va_P (dC, dI) cls [(P, .inr (5, [.ref F, .ref G, .ref T, .ref za, .ref (ia 0), .ref (ia 1), .ref (ia 2), .int 0, .int 0])), (F, .inr (0, [.ref (fa 0), .ref (fa 1), .ref (fa 2), .ref (fa 3), .ref (fa 4), .ref (fa 5), .ref (fa 6), .ref (fa 7), .ref (fa 8), .int 0, .int 0, .int 0]))] H := hP
  have hD : va_D A [(P, .inr (5, [.ref F, .ref G, .ref T, .ref za, .ref (ia 0), .ref (ia 1), .ref (ia 2), .int 0, .int 0])), (F, .inr (0, [.ref (fa 0), .ref (fa 1), .ref (fa 2), .ref (fa 3), .ref (fa 4), .ref (fa 5), .ref (fa 6), .ref (fa 7), .ref (fa 8), .int 0, .int 0, .int 0]))] := hD
  obtain rfl := hu_1
  refine lv_i2l (v := 0) hx hb dX5_digest_70 (by decide) ?_
  refine lv_ladd hx hb dX5_digest_71 ?_
  refine k_sl1 (y := 1661435519983) (by decide +kernel) ?_
  refine lv_lstore_n (lv' := [(1, .long 1661435519983), (0, .ref P)]) hx hb dX5_digest_72 rfl hl (by decide) rfl (fun ls hl => ?_)
  refine lv_iconst (v := 0) hx hb dX5_digest_73 (by decide) ?_
  refine lv_istore_n (lv' := [(3, .int 0), (1, .long 1661435519983), (0, .ref P)]) hx hb dX5_digest_74 rfl hl (by decide) rfl (fun ls hl => ?_)
  refine lv_iload_n hx hb dX5_digest_75 rfl (lv_at hl 0 rfl) ?_
  refine lv_aload_n hx hb dX5_digest_76 rfl (lv_at hl 2 rfl) ?_
  refine va_get (D := (dC, dI)) (ci := 5) (v := .int 0) (C := RX5) (T := TX5) (N := 9) hx hb hts (fun w h => tb_in (inX5 w h)) hown hK hP 0 rfl rfl 7 (by decide) (hts _ (tb_in q_fl_X5_86)) (fun _ h9 => h9) rfl dX5_digest_77 ?_
  refine lv_icmp_ge (tgt := 101) hx hb dX5_digest_80 (by decide) (fun c_3 => ?_) (fun c_3 => ?_)
  rotate_left
  · first | exact absurd c_3 (by decide) | exact absurd (by decide) c_3
  refine lv_iconst (v := 0) hx hb dX5_digest_101 (by decide) ?_
  refine lv_istore_n (lv' := [(3, .int 0), (1, .long 1661435519983), (0, .ref P)]) hx hb dX5_digest_102 rfl hl (by decide) rfl (fun ls hl => ?_)
  refine lv_iload_n hx hb dX5_digest_103 rfl (lv_at hl 0 rfl) ?_
  refine lv_aload_n hx hb dX5_digest_104 rfl (lv_at hl 2 rfl) ?_
  refine va_get (D := (dC, dI)) (ci := 5) (v := .ref F) (C := RX5) (T := TX5) (N := 9) hx hb hts (fun w h => tb_in (inX5 w h)) hown hK hP 0 rfl rfl 0 (by decide) (hts _ (tb_in q_fl_X5_12)) (fun _ h9 => h9) rfl dX5_digest_105 ?_
  refine va_get (D := (dC, dI)) (ci := 0) (v := .int 0) (C := RX0) (T := TX0) (N := 12) hx hb hts (fun w h => tb_in (inX0 w h)) hown hK hP 1 rfl rfl 10 (by decide) (hts _ (tb_in q_fl_X5_111)) (fun _ h9 => h9) rfl dX5_digest_108 ?_
  refine lv_icmp_ge (tgt := 154) hx hb dX5_digest_111 (by decide) (fun c_4 => ?_) (fun c_4 => ?_)
  rotate_left
  · first | exact absurd c_4 (by decide) | exact absurd (by decide) c_4
  refine lv_iconst (v := 0) hx hb dX5_digest_154 (by decide) ?_
  refine lv_istore_n (lv' := [(3, .int 0), (1, .long 1661435519983), (0, .ref P)]) hx hb dX5_digest_155 rfl hl (by decide) rfl (fun ls hl => ?_)
  refine lv_iload_n hx hb dX5_digest_156 rfl (lv_at hl 0 rfl) ?_
  refine lv_iconst (v := 4) hx hb dX5_digest_157 (by decide) ?_
  refine lv_icmp_ge (tgt := 188) hx hb dX5_digest_158 (by decide) (fun c_5 => ?_) (fun c_5 => ?_)
  · first | exact absurd c_5 (by decide) | exact absurd (by decide) c_5
  refine lv_aload_n hx hb dX5_digest_161 rfl (lv_at hl 2 rfl) ?_
  refine n_Vv (ci := 5) (q0 := 0) (wc := [(P, .inr (5, [.ref F, .ref G, .ref T, .ref za, .ref (ia 0), .ref (ia 1), .ref (ia 2), .int 0, .int 0])), (F, .inr (0, [.ref (fa 0), .ref (fa 1), .ref (fa 2), .ref (fa 3), .ref (fa 4), .ref (fa 5), .ref (fa 6), .ref (fa 7), .ref (fa 8), .int 0, .int 0, .int 0]))]) (wr := []) [] [0, 1] [] ⟨hx, hb, hml, hown, hts⟩ (fun sz => c_X5_startSearch l dC dI cI cV cJ cL P F G T za fa ia 0 0  sz) q_ml_X5_217 q_im_X5_startSearch q_se_X5_startSearch q_ini_X5 q_co_X5_startSearch (n := 0) (by decide +kernel) rfl ⟨rfl, rfl⟩ ⟨Nat.le_of_ble_eq_true rfl, Nat.le_of_ble_eq_true rfl⟩ hP hD hS hA hK hN rfl rfl (by decide) (by decide) (by decide) rfl rfl rfl hl.1 rfl (Nat.le_of_ble_eq_true rfl) dX5_digest_162 ⟨Nat.le_of_ble_eq_true rfl, Nat.le_of_ble_eq_true rfl⟩ (fun u_6 H locs hu_6 hP hD hS => ?_)
  have hP : va_P (dC, dI) cls [(P, .inr (5, [.ref F, .ref G, .ref T, .ref za, .ref (ia 0), .ref (ia 1), .ref (ia 2), .int 0, .int 0])), (F, .inr (0, [.ref (fa 0), .ref (fa 1), .ref (fa 2), .ref (fa 3), .ref (fa 4), .ref (fa 5), .ref (fa 6), .ref (fa 7), .ref (fa 8), .int 0, .int 0, .int 0]))] H := hP
  have hD : va_D A [(P, .inr (5, [.ref F, .ref G, .ref T, .ref za, .ref (ia 0), .ref (ia 1), .ref (ia 2), .int 0, .int 0])), (F, .inr (0, [.ref (fa 0), .ref (fa 1), .ref (fa 2), .ref (fa 3), .ref (fa 4), .ref (fa 5), .ref (fa 6), .ref (fa 7), .ref (fa 8), .int 0, .int 0, .int 0]))] := hD
  refine lv_aload_n hx hb dX5_digest_165 rfl (lv_at hl 2 rfl) ?_
  refine lv_iload_n hx hb dX5_digest_166 rfl (lv_at hl 0 rfl) ?_
  refine n_Vv (ci := 5) (q0 := 0) (wc := [(P, .inr (5, [.ref F, .ref G, .ref T, .ref za, .ref (ia 0), .ref (ia 1), .ref (ia 2), .int 0, .int 0])), (F, .inr (0, [.ref (fa 0), .ref (fa 1), .ref (fa 2), .ref (fa 3), .ref (fa 4), .ref (fa 5), .ref (fa 6), .ref (fa 7), .ref (fa 8), .int 0, .int 0, .int 0]))]) (wr := []) [.int 0] [0, 1] [] ⟨hx, hb, hml, hown, hts⟩ (fun sz => c_X5_searchKind l dC dI cI cV cJ cL P F G T za fa ia 0 0 0 sz) q_ml_X5_220 q_im_X5_searchKind q_se_X5_searchKind q_ini_X5 q_co_X5_searchKind (n := 1) (by decide +kernel) rfl ⟨rfl, rfl⟩ ⟨Nat.le_of_ble_eq_true rfl, Nat.le_of_ble_eq_true rfl⟩ hP hD hS hA hK hN rfl rfl (by decide) (by decide) (by decide) rfl rfl rfl hl.1 rfl (Nat.le_of_ble_eq_true rfl) dX5_digest_167 ⟨Nat.le_of_ble_eq_true rfl, Nat.le_of_ble_eq_true rfl⟩ (fun u_7 H locs hu_7 hP hD hS => ?_)
  have hP : va_P (dC, dI) cls [(P, .inr (5, [.ref F, .ref G, .ref T, .ref za, .ref (ia 0), .ref (ia 1), .ref (ia 2), .int 0, .int 0])), (F, .inr (0, [.ref (fa 0), .ref (fa 1), .ref (fa 2), .ref (fa 3), .ref (fa 4), .ref (fa 5), .ref (fa 6), .ref (fa 7), .ref (fa 8), .int 0, .int 0, .int 0]))] H := hP
  have hD : va_D A [(P, .inr (5, [.ref F, .ref G, .ref T, .ref za, .ref (ia 0), .ref (ia 1), .ref (ia 2), .int 0, .int 0])), (F, .inr (0, [.ref (fa 0), .ref (fa 1), .ref (fa 2), .ref (fa 3), .ref (fa 4), .ref (fa 5), .ref (fa 6), .ref (fa 7), .ref (fa 8), .int 0, .int 0, .int 0]))] := hD
  refine lv_lload_n hx hb dX5_digest_170 rfl (lv_at hl 1 rfl) ?_
  refine lv_ldc2 (v := 31) hx hb hown (hts _ (tb_in q_cg_X5_316)) dX5_digest_171 ?_
  refine lv_lmul hx hb dX5_digest_174 ?_
  refine k_sl1 (y := 51504501119473) (by decide +kernel) ?_
  refine lv_aload_n hx hb dX5_digest_175 rfl (lv_at hl 2 rfl) ?_
  refine va_get (D := (dC, dI)) (ci := 5) (v := .int 0) (C := RX5) (T := TX5) (N := 9) hx hb hts (fun w h => tb_in (inX5 w h)) hown hK hP 0 rfl rfl 8 (by decide) (hts _ (tb_in q_fl_X5_226)) (fun _ h9 => h9) rfl dX5_digest_176 ?_
  refine lv_i2l (v := 0) hx hb dX5_digest_179 (by decide) ?_
  refine lv_ladd hx hb dX5_digest_180 ?_
  refine k_sl1 (y := 51504501119473) (by decide +kernel) ?_
  refine lv_lstore_n (lv' := [(1, .long 51504501119473), (3, .int 0), (0, .ref P)]) hx hb dX5_digest_181 rfl hl (by decide) rfl (fun ls hl => ?_)
  refine lv_iinc (v := 1) (lv' := [(3, .int 1), (1, .long 51504501119473), (0, .ref P)]) hx hb dX5_digest_182 hl (k := 1) rfl (by decide) (by decide) rfl (fun ls hl => ?_)
  refine lv_goto (tgt := 156) hx hb dX5_digest_185 (by decide) ?_
  refine lv_iload_n hx hb dX5_digest_156 rfl (lv_at hl 0 rfl) ?_
  refine lv_iconst (v := 4) hx hb dX5_digest_157 (by decide) ?_
  refine lv_icmp_ge (tgt := 188) hx hb dX5_digest_158 (by decide) (fun c_8 => ?_) (fun c_8 => ?_)
  · first | exact absurd c_8 (by decide) | exact absurd (by decide) c_8
  refine lv_aload_n hx hb dX5_digest_161 rfl (lv_at hl 2 rfl) ?_
  refine n_Vv (ci := 5) (q0 := 0) (wc := [(P, .inr (5, [.ref F, .ref G, .ref T, .ref za, .ref (ia 0), .ref (ia 1), .ref (ia 2), .int 0, .int 0])), (F, .inr (0, [.ref (fa 0), .ref (fa 1), .ref (fa 2), .ref (fa 3), .ref (fa 4), .ref (fa 5), .ref (fa 6), .ref (fa 7), .ref (fa 8), .int 0, .int 0, .int 0]))]) (wr := []) [] [0, 1] [] ⟨hx, hb, hml, hown, hts⟩ (fun sz => c_X5_startSearch l dC dI cI cV cJ cL P F G T za fa ia 0 0  sz) q_ml_X5_217 q_im_X5_startSearch q_se_X5_startSearch q_ini_X5 q_co_X5_startSearch (n := 0) (by decide +kernel) rfl ⟨rfl, rfl⟩ ⟨Nat.le_of_ble_eq_true rfl, Nat.le_of_ble_eq_true rfl⟩ hP hD hS hA hK hN rfl rfl (by decide) (by decide) (by decide) rfl rfl rfl hl.1 rfl (Nat.le_of_ble_eq_true rfl) dX5_digest_162 ⟨Nat.le_of_ble_eq_true rfl, Nat.le_of_ble_eq_true rfl⟩ (fun u_9 H locs hu_9 hP hD hS => ?_)
  have hP : va_P (dC, dI) cls [(P, .inr (5, [.ref F, .ref G, .ref T, .ref za, .ref (ia 0), .ref (ia 1), .ref (ia 2), .int 0, .int 0])), (F, .inr (0, [.ref (fa 0), .ref (fa 1), .ref (fa 2), .ref (fa 3), .ref (fa 4), .ref (fa 5), .ref (fa 6), .ref (fa 7), .ref (fa 8), .int 0, .int 0, .int 0]))] H := hP
  have hD : va_D A [(P, .inr (5, [.ref F, .ref G, .ref T, .ref za, .ref (ia 0), .ref (ia 1), .ref (ia 2), .int 0, .int 0])), (F, .inr (0, [.ref (fa 0), .ref (fa 1), .ref (fa 2), .ref (fa 3), .ref (fa 4), .ref (fa 5), .ref (fa 6), .ref (fa 7), .ref (fa 8), .int 0, .int 0, .int 0]))] := hD
  refine lv_aload_n hx hb dX5_digest_165 rfl (lv_at hl 2 rfl) ?_
  refine lv_iload_n hx hb dX5_digest_166 rfl (lv_at hl 0 rfl) ?_
  refine n_Vv (ci := 5) (q0 := 0) (wc := [(P, .inr (5, [.ref F, .ref G, .ref T, .ref za, .ref (ia 0), .ref (ia 1), .ref (ia 2), .int 0, .int 0])), (F, .inr (0, [.ref (fa 0), .ref (fa 1), .ref (fa 2), .ref (fa 3), .ref (fa 4), .ref (fa 5), .ref (fa 6), .ref (fa 7), .ref (fa 8), .int 0, .int 0, .int 0]))]) (wr := []) [.int 1] [0, 1] [] ⟨hx, hb, hml, hown, hts⟩ (fun sz => c_X5_searchKind l dC dI cI cV cJ cL P F G T za fa ia 0 0 1 sz) q_ml_X5_220 q_im_X5_searchKind q_se_X5_searchKind q_ini_X5 q_co_X5_searchKind (n := 1) (by decide +kernel) rfl ⟨rfl, rfl⟩ ⟨Nat.le_of_ble_eq_true rfl, Nat.le_of_ble_eq_true rfl⟩ hP hD hS hA hK hN rfl rfl (by decide) (by decide) (by decide) rfl rfl rfl hl.1 rfl (Nat.le_of_ble_eq_true rfl) dX5_digest_167 ⟨Nat.le_of_ble_eq_true rfl, Nat.le_of_ble_eq_true rfl⟩ (fun u_10 H locs hu_10 hP hD hS => ?_)
  have hP : va_P (dC, dI) cls [(P, .inr (5, [.ref F, .ref G, .ref T, .ref za, .ref (ia 0), .ref (ia 1), .ref (ia 2), .int 0, .int 0])), (F, .inr (0, [.ref (fa 0), .ref (fa 1), .ref (fa 2), .ref (fa 3), .ref (fa 4), .ref (fa 5), .ref (fa 6), .ref (fa 7), .ref (fa 8), .int 0, .int 0, .int 0]))] H := hP
  have hD : va_D A [(P, .inr (5, [.ref F, .ref G, .ref T, .ref za, .ref (ia 0), .ref (ia 1), .ref (ia 2), .int 0, .int 0])), (F, .inr (0, [.ref (fa 0), .ref (fa 1), .ref (fa 2), .ref (fa 3), .ref (fa 4), .ref (fa 5), .ref (fa 6), .ref (fa 7), .ref (fa 8), .int 0, .int 0, .int 0]))] := hD
  refine lv_lload_n hx hb dX5_digest_170 rfl (lv_at hl 1 rfl) ?_
  refine lv_ldc2 (v := 31) hx hb hown (hts _ (tb_in q_cg_X5_316)) dX5_digest_171 ?_
  refine lv_lmul hx hb dX5_digest_174 ?_
  refine k_sl1 (y := 1596639534703663) (by decide +kernel) ?_
  refine lv_aload_n hx hb dX5_digest_175 rfl (lv_at hl 2 rfl) ?_
  refine va_get (D := (dC, dI)) (ci := 5) (v := .int 0) (C := RX5) (T := TX5) (N := 9) hx hb hts (fun w h => tb_in (inX5 w h)) hown hK hP 0 rfl rfl 8 (by decide) (hts _ (tb_in q_fl_X5_226)) (fun _ h9 => h9) rfl dX5_digest_176 ?_
  refine lv_i2l (v := 0) hx hb dX5_digest_179 (by decide) ?_
  refine lv_ladd hx hb dX5_digest_180 ?_
  refine k_sl1 (y := 1596639534703663) (by decide +kernel) ?_
  refine lv_lstore_n (lv' := [(1, .long 1596639534703663), (3, .int 1), (0, .ref P)]) hx hb dX5_digest_181 rfl hl (by decide) rfl (fun ls hl => ?_)
  refine lv_iinc (v := 2) (lv' := [(3, .int 2), (1, .long 1596639534703663), (0, .ref P)]) hx hb dX5_digest_182 hl (k := 1) rfl (by decide) (by decide) rfl (fun ls hl => ?_)
  refine lv_goto (tgt := 156) hx hb dX5_digest_185 (by decide) ?_
  refine lv_iload_n hx hb dX5_digest_156 rfl (lv_at hl 0 rfl) ?_
  refine lv_iconst (v := 4) hx hb dX5_digest_157 (by decide) ?_
  refine lv_icmp_ge (tgt := 188) hx hb dX5_digest_158 (by decide) (fun c_11 => ?_) (fun c_11 => ?_)
  · first | exact absurd c_11 (by decide) | exact absurd (by decide) c_11
  refine lv_aload_n hx hb dX5_digest_161 rfl (lv_at hl 2 rfl) ?_
  refine n_Vv (ci := 5) (q0 := 0) (wc := [(P, .inr (5, [.ref F, .ref G, .ref T, .ref za, .ref (ia 0), .ref (ia 1), .ref (ia 2), .int 0, .int 0])), (F, .inr (0, [.ref (fa 0), .ref (fa 1), .ref (fa 2), .ref (fa 3), .ref (fa 4), .ref (fa 5), .ref (fa 6), .ref (fa 7), .ref (fa 8), .int 0, .int 0, .int 0]))]) (wr := []) [] [0, 1] [] ⟨hx, hb, hml, hown, hts⟩ (fun sz => c_X5_startSearch l dC dI cI cV cJ cL P F G T za fa ia 0 0  sz) q_ml_X5_217 q_im_X5_startSearch q_se_X5_startSearch q_ini_X5 q_co_X5_startSearch (n := 0) (by decide +kernel) rfl ⟨rfl, rfl⟩ ⟨Nat.le_of_ble_eq_true rfl, Nat.le_of_ble_eq_true rfl⟩ hP hD hS hA hK hN rfl rfl (by decide) (by decide) (by decide) rfl rfl rfl hl.1 rfl (Nat.le_of_ble_eq_true rfl) dX5_digest_162 ⟨Nat.le_of_ble_eq_true rfl, Nat.le_of_ble_eq_true rfl⟩ (fun u_12 H locs hu_12 hP hD hS => ?_)
  have hP : va_P (dC, dI) cls [(P, .inr (5, [.ref F, .ref G, .ref T, .ref za, .ref (ia 0), .ref (ia 1), .ref (ia 2), .int 0, .int 0])), (F, .inr (0, [.ref (fa 0), .ref (fa 1), .ref (fa 2), .ref (fa 3), .ref (fa 4), .ref (fa 5), .ref (fa 6), .ref (fa 7), .ref (fa 8), .int 0, .int 0, .int 0]))] H := hP
  have hD : va_D A [(P, .inr (5, [.ref F, .ref G, .ref T, .ref za, .ref (ia 0), .ref (ia 1), .ref (ia 2), .int 0, .int 0])), (F, .inr (0, [.ref (fa 0), .ref (fa 1), .ref (fa 2), .ref (fa 3), .ref (fa 4), .ref (fa 5), .ref (fa 6), .ref (fa 7), .ref (fa 8), .int 0, .int 0, .int 0]))] := hD
  refine lv_aload_n hx hb dX5_digest_165 rfl (lv_at hl 2 rfl) ?_
  refine lv_iload_n hx hb dX5_digest_166 rfl (lv_at hl 0 rfl) ?_
  refine n_Vv (ci := 5) (q0 := 0) (wc := [(P, .inr (5, [.ref F, .ref G, .ref T, .ref za, .ref (ia 0), .ref (ia 1), .ref (ia 2), .int 0, .int 0])), (F, .inr (0, [.ref (fa 0), .ref (fa 1), .ref (fa 2), .ref (fa 3), .ref (fa 4), .ref (fa 5), .ref (fa 6), .ref (fa 7), .ref (fa 8), .int 0, .int 0, .int 0]))]) (wr := []) [.int 2] [0, 1] [] ⟨hx, hb, hml, hown, hts⟩ (fun sz => c_X5_searchKind l dC dI cI cV cJ cL P F G T za fa ia 0 0 2 sz) q_ml_X5_220 q_im_X5_searchKind q_se_X5_searchKind q_ini_X5 q_co_X5_searchKind (n := 1) (by decide +kernel) rfl ⟨rfl, rfl⟩ ⟨Nat.le_of_ble_eq_true rfl, Nat.le_of_ble_eq_true rfl⟩ hP hD hS hA hK hN rfl rfl (by decide) (by decide) (by decide) rfl rfl rfl hl.1 rfl (Nat.le_of_ble_eq_true rfl) dX5_digest_167 ⟨Nat.le_of_ble_eq_true rfl, Nat.le_of_ble_eq_true rfl⟩ (fun u_13 H locs hu_13 hP hD hS => ?_)
  have hP : va_P (dC, dI) cls [(P, .inr (5, [.ref F, .ref G, .ref T, .ref za, .ref (ia 0), .ref (ia 1), .ref (ia 2), .int 0, .int 0])), (F, .inr (0, [.ref (fa 0), .ref (fa 1), .ref (fa 2), .ref (fa 3), .ref (fa 4), .ref (fa 5), .ref (fa 6), .ref (fa 7), .ref (fa 8), .int 0, .int 0, .int 0]))] H := hP
  have hD : va_D A [(P, .inr (5, [.ref F, .ref G, .ref T, .ref za, .ref (ia 0), .ref (ia 1), .ref (ia 2), .int 0, .int 0])), (F, .inr (0, [.ref (fa 0), .ref (fa 1), .ref (fa 2), .ref (fa 3), .ref (fa 4), .ref (fa 5), .ref (fa 6), .ref (fa 7), .ref (fa 8), .int 0, .int 0, .int 0]))] := hD
  refine lv_lload_n hx hb dX5_digest_170 rfl (lv_at hl 1 rfl) ?_
  refine lv_ldc2 (v := 31) hx hb hown (hts _ (tb_in q_cg_X5_316)) dX5_digest_171 ?_
  refine lv_lmul hx hb dX5_digest_174 ?_
  refine k_sl1 (y := 49495825575813553) (by decide +kernel) ?_
  refine lv_aload_n hx hb dX5_digest_175 rfl (lv_at hl 2 rfl) ?_
  refine va_get (D := (dC, dI)) (ci := 5) (v := .int 0) (C := RX5) (T := TX5) (N := 9) hx hb hts (fun w h => tb_in (inX5 w h)) hown hK hP 0 rfl rfl 8 (by decide) (hts _ (tb_in q_fl_X5_226)) (fun _ h9 => h9) rfl dX5_digest_176 ?_
  refine lv_i2l (v := 0) hx hb dX5_digest_179 (by decide) ?_
  refine lv_ladd hx hb dX5_digest_180 ?_
  refine k_sl1 (y := 49495825575813553) (by decide +kernel) ?_
  refine lv_lstore_n (lv' := [(1, .long 49495825575813553), (3, .int 2), (0, .ref P)]) hx hb dX5_digest_181 rfl hl (by decide) rfl (fun ls hl => ?_)
  refine lv_iinc (v := 3) (lv' := [(3, .int 3), (1, .long 49495825575813553), (0, .ref P)]) hx hb dX5_digest_182 hl (k := 1) rfl (by decide) (by decide) rfl (fun ls hl => ?_)
  refine lv_goto (tgt := 156) hx hb dX5_digest_185 (by decide) ?_
  refine lv_iload_n hx hb dX5_digest_156 rfl (lv_at hl 0 rfl) ?_
  refine lv_iconst (v := 4) hx hb dX5_digest_157 (by decide) ?_
  refine lv_icmp_ge (tgt := 188) hx hb dX5_digest_158 (by decide) (fun c_14 => ?_) (fun c_14 => ?_)
  · first | exact absurd c_14 (by decide) | exact absurd (by decide) c_14
  refine lv_aload_n hx hb dX5_digest_161 rfl (lv_at hl 2 rfl) ?_
  refine n_Vv (ci := 5) (q0 := 0) (wc := [(P, .inr (5, [.ref F, .ref G, .ref T, .ref za, .ref (ia 0), .ref (ia 1), .ref (ia 2), .int 0, .int 0])), (F, .inr (0, [.ref (fa 0), .ref (fa 1), .ref (fa 2), .ref (fa 3), .ref (fa 4), .ref (fa 5), .ref (fa 6), .ref (fa 7), .ref (fa 8), .int 0, .int 0, .int 0]))]) (wr := []) [] [0, 1] [] ⟨hx, hb, hml, hown, hts⟩ (fun sz => c_X5_startSearch l dC dI cI cV cJ cL P F G T za fa ia 0 0  sz) q_ml_X5_217 q_im_X5_startSearch q_se_X5_startSearch q_ini_X5 q_co_X5_startSearch (n := 0) (by decide +kernel) rfl ⟨rfl, rfl⟩ ⟨Nat.le_of_ble_eq_true rfl, Nat.le_of_ble_eq_true rfl⟩ hP hD hS hA hK hN rfl rfl (by decide) (by decide) (by decide) rfl rfl rfl hl.1 rfl (Nat.le_of_ble_eq_true rfl) dX5_digest_162 ⟨Nat.le_of_ble_eq_true rfl, Nat.le_of_ble_eq_true rfl⟩ (fun u_15 H locs hu_15 hP hD hS => ?_)
  have hP : va_P (dC, dI) cls [(P, .inr (5, [.ref F, .ref G, .ref T, .ref za, .ref (ia 0), .ref (ia 1), .ref (ia 2), .int 0, .int 0])), (F, .inr (0, [.ref (fa 0), .ref (fa 1), .ref (fa 2), .ref (fa 3), .ref (fa 4), .ref (fa 5), .ref (fa 6), .ref (fa 7), .ref (fa 8), .int 0, .int 0, .int 0]))] H := hP
  have hD : va_D A [(P, .inr (5, [.ref F, .ref G, .ref T, .ref za, .ref (ia 0), .ref (ia 1), .ref (ia 2), .int 0, .int 0])), (F, .inr (0, [.ref (fa 0), .ref (fa 1), .ref (fa 2), .ref (fa 3), .ref (fa 4), .ref (fa 5), .ref (fa 6), .ref (fa 7), .ref (fa 8), .int 0, .int 0, .int 0]))] := hD
  refine lv_aload_n hx hb dX5_digest_165 rfl (lv_at hl 2 rfl) ?_
  refine lv_iload_n hx hb dX5_digest_166 rfl (lv_at hl 0 rfl) ?_
  refine n_Vv (ci := 5) (q0 := 0) (wc := [(P, .inr (5, [.ref F, .ref G, .ref T, .ref za, .ref (ia 0), .ref (ia 1), .ref (ia 2), .int 0, .int 0])), (F, .inr (0, [.ref (fa 0), .ref (fa 1), .ref (fa 2), .ref (fa 3), .ref (fa 4), .ref (fa 5), .ref (fa 6), .ref (fa 7), .ref (fa 8), .int 0, .int 0, .int 0]))]) (wr := []) [.int 3] [0, 1] [] ⟨hx, hb, hml, hown, hts⟩ (fun sz => c_X5_searchKind l dC dI cI cV cJ cL P F G T za fa ia 0 0 3 sz) q_ml_X5_220 q_im_X5_searchKind q_se_X5_searchKind q_ini_X5 q_co_X5_searchKind (n := 1) (by decide +kernel) rfl ⟨rfl, rfl⟩ ⟨Nat.le_of_ble_eq_true rfl, Nat.le_of_ble_eq_true rfl⟩ hP hD hS hA hK hN rfl rfl (by decide) (by decide) (by decide) rfl rfl rfl hl.1 rfl (Nat.le_of_ble_eq_true rfl) dX5_digest_167 ⟨Nat.le_of_ble_eq_true rfl, Nat.le_of_ble_eq_true rfl⟩ (fun u_16 H locs hu_16 hP hD hS => ?_)
  have hP : va_P (dC, dI) cls [(P, .inr (5, [.ref F, .ref G, .ref T, .ref za, .ref (ia 0), .ref (ia 1), .ref (ia 2), .int 0, .int 0])), (F, .inr (0, [.ref (fa 0), .ref (fa 1), .ref (fa 2), .ref (fa 3), .ref (fa 4), .ref (fa 5), .ref (fa 6), .ref (fa 7), .ref (fa 8), .int 0, .int 0, .int 0]))] H := hP
  have hD : va_D A [(P, .inr (5, [.ref F, .ref G, .ref T, .ref za, .ref (ia 0), .ref (ia 1), .ref (ia 2), .int 0, .int 0])), (F, .inr (0, [.ref (fa 0), .ref (fa 1), .ref (fa 2), .ref (fa 3), .ref (fa 4), .ref (fa 5), .ref (fa 6), .ref (fa 7), .ref (fa 8), .int 0, .int 0, .int 0]))] := hD
  refine lv_lload_n hx hb dX5_digest_170 rfl (lv_at hl 1 rfl) ?_
  refine lv_ldc2 (v := 31) hx hb hown (hts _ (tb_in q_cg_X5_316)) dX5_digest_171 ?_
  refine lv_lmul hx hb dX5_digest_174 ?_
  refine k_sl1 (y := 1534370592850220143) (by decide +kernel) ?_
  refine lv_aload_n hx hb dX5_digest_175 rfl (lv_at hl 2 rfl) ?_
  refine va_get (D := (dC, dI)) (ci := 5) (v := .int 0) (C := RX5) (T := TX5) (N := 9) hx hb hts (fun w h => tb_in (inX5 w h)) hown hK hP 0 rfl rfl 8 (by decide) (hts _ (tb_in q_fl_X5_226)) (fun _ h9 => h9) rfl dX5_digest_176 ?_
  refine lv_i2l (v := 0) hx hb dX5_digest_179 (by decide) ?_
  refine lv_ladd hx hb dX5_digest_180 ?_
  refine k_sl1 (y := 1534370592850220143) (by decide +kernel) ?_
  refine lv_lstore_n (lv' := [(1, .long 1534370592850220143), (3, .int 3), (0, .ref P)]) hx hb dX5_digest_181 rfl hl (by decide) rfl (fun ls hl => ?_)
  refine lv_iinc (v := 4) (lv' := [(3, .int 4), (1, .long 1534370592850220143), (0, .ref P)]) hx hb dX5_digest_182 hl (k := 1) rfl (by decide) (by decide) rfl (fun ls hl => ?_)
  refine lv_goto (tgt := 156) hx hb dX5_digest_185 (by decide) ?_
  refine lv_iload_n hx hb dX5_digest_156 rfl (lv_at hl 0 rfl) ?_
  refine lv_iconst (v := 4) hx hb dX5_digest_157 (by decide) ?_
  refine lv_icmp_ge (tgt := 188) hx hb dX5_digest_158 (by decide) (fun c_17 => ?_) (fun c_17 => ?_)
  rotate_left
  · first | exact absurd c_17 (by decide) | exact absurd (by decide) c_17
  refine lv_lload_n hx hb dX5_digest_188 rfl (lv_at hl 1 rfl) ?_
  refine W.widen (k := 0) (n := 0) (Nat.le_of_ble_eq_true rfl) (Nat.le_of_ble_eq_true rfl) ?_
  have hP := hP.sub (ws' := []) [] rfl
  have hD := hD.sub (ws' := []) [] (by decide) rfl
  have hP9 := hP
  have hD9 := hD
  exact W.lret (v := 1534370592850220143) hx hb hr (fun t9 ht9 hW9 => ⟨⟨_, (), rfl, rfl, by rw [ht9]; exact hP9, va_K.moved hW9.alike hK, hD9⟩, hS.F ht9⟩) hS.2.2 dX5_digest_189
set_option maxHeartbeats 4000000 in
set_option maxRecDepth 100000 in
theorem c_X5_fullness (l : Launch) (dC : Nat → ClassId) (dI : Nat → Nat → Nat) (cI cV cJ cL : ClassId) (P F G T za : Nat) (fa ia : Nat → Nat) (bg ck : Int32)  (sz : Nat) : Met l yX5_fullness (Cond.code yX5_fullness cX5_fullness 5 (some .double) :: TB) ({ frames := 1, cells := 0, slots := 0, locals := 24 } : Room) (PW [.ref P] (dC, dI) [(P, .inr (5, [.ref F, .ref G, .ref T, .ref za, .ref (ia 0), .ref (ia 1), .ref (ia 2), .int 0, .int 0])), (F, .inr (0, [.ref (fa 0), .ref (fa 1), .ref (fa 2), .ref (fa 3), .ref (fa 4), .ref (fa 5), .ref (fa 6), .ref (fa 7), .ref (fa 8), .int 0, .int 0, .int 0]))] (TYP cI cV cJ cL) sz) (va_Qd (fun (r : UInt64) (_ : Unit) => r = FP.dconst0) (QB (dC, dI) (fun (_ : Unit) => []) (TYP cI cV cJ cL) (va_A [(P, .inr (5, [.ref F, .ref G, .ref T, .ref za, .ref (ia 0), .ref (ia 1), .ref (ia 2), .int 0, .int 0])), (F, .inr (0, [.ref (fa 0), .ref (fa 1), .ref (fa 2), .ref (fa 3), .ref (fa 4), .ref (fa 5), .ref (fa 6), .ref (fa 7), .ref (fa 8), .int 0, .int 0, .int 0]))] sz)) (va_A [(P, .inr (5, [.ref F, .ref G, .ref T, .ref za, .ref (ia 0), .ref (ia 1), .ref (ia 2), .int 0, .int 0])), (F, .inr (0, [.ref (fa 0), .ref (fa 1), .ref (fa 2), .ref (fa 3), .ref (fa 4), .ref (fa 5), .ref (fa 6), .ref (fa 7), .ref (fa 8), .int 0, .int 0, .int 0]))] sz)) 0 0 (va_A [(P, .inr (5, [.ref F, .ref G, .ref T, .ref za, .ref (ia 0), .ref (ia 1), .ref (ia 2), .int 0, .int 0])), (F, .inr (0, [.ref (fa 0), .ref (fa 1), .ref (fa 2), .ref (fa 3), .ref (fa 4), .ref (fa 5), .ref (fa 6), .ref (fa 7), .ref (fa 8), .int 0, .int 0, .int 0]))] sz) := by
  refine Met.ofW (cc := cX5_fullness) (maxL := 5) (ret := (some .double)) (by decide) rfl ?_
  intro p e s m args below meth c s₁ B hml hv
  obtain ⟨rfl, hsz, hP, hK, hD0, hN⟩ := hv
  have hx := B.exec
  have hb := B.bytes
  have hr := B.returns
  have hts := atoms_spec (ws := (Cond.code yX5_fullness cX5_fullness 5 (some .double) :: TB)) B.pre
  have hown : s.vm.findClass RX5 = some m.cls := findClass_of_methodNamed B.named
  have hlocks := B.notSynchronized
  subst hsz
  have hD := hD0.self (sz := s.heap.size)
  generalize hAe : va_A [(P, .inr (5, [.ref F, .ref G, .ref T, .ref za, .ref (ia 0), .ref (ia 1), .ref (ia 2), .int 0, .int 0])), (F, .inr (0, [.ref (fa 0), .ref (fa 1), .ref (fa 2), .ref (fa 3), .ref (fa 4), .ref (fa 5), .ref (fa 6), .ref (fa 7), .ref (fa 8), .int 0, .int 0, .int 0]))] s.heap.size = A at hD ⊢
  have hA : ∀ q : Nat, s.heap.size ≤ q → A q := fun q h => by rw [← hAe]; exact Or.inr h
  have hS : va_S A s.heap s.heap [] := va_S.rf
  have hl := lv_entry ([.ref P]) (n := 5) (Nat.le_of_ble_eq_true rfl)
  rw [lg_entry_eq]
  generalize (lg_sl ([.ref P]) ++ List.replicate (5 - (lg_sl ([.ref P])).length) Slot.unset).toArray = ls at hl ⊢
  have hl : lv_has ls 5 [(0, .ref P)] := hl
  refine lv_iconst (v := 0) hx hb dX5_fullness_0 (by decide) ?_
  refine lv_istore_n (lv' := [(1, .int 0), (0, .ref P)]) hx hb dX5_fullness_1 rfl hl (by decide) rfl (fun ls hl => ?_)
  refine lv_iconst (v := 0) hx hb dX5_fullness_2 (by decide) ?_
  refine lv_istore_n (lv' := [(2, .int 0), (1, .int 0), (0, .ref P)]) hx hb dX5_fullness_3 rfl hl (by decide) rfl (fun ls hl => ?_)
  refine lv_iconst (v := 0) hx hb dX5_fullness_4 (by decide) ?_
  refine lv_istore_n (lv' := [(3, .int 0), (2, .int 0), (1, .int 0), (0, .ref P)]) hx hb dX5_fullness_5 rfl hl (by decide) rfl (fun ls hl => ?_)
  refine lv_iload_n hx hb dX5_fullness_6 rfl (lv_at hl 0 rfl) ?_
  refine lv_aload_n hx hb dX5_fullness_7 rfl (lv_at hl 3 rfl) ?_
  refine va_get (D := (dC, dI)) (ci := 5) (v := .int 0) (C := RX5) (T := TX5) (N := 9) hx hb hts (fun w h => tb_in (inX5 w h)) hown hK hP 0 rfl rfl 7 (by decide) (hts _ (tb_in q_fl_X5_86)) (fun _ h9 => h9) rfl dX5_fullness_8 ?_
  refine lv_icmp_ge (tgt := 60) hx hb dX5_fullness_11 (by decide) (fun c_1 => ?_) (fun c_1 => ?_)
  rotate_left
  · first | exact absurd c_1 (by decide) | exact absurd (by decide) c_1
  refine lv_iload_n hx hb dX5_fullness_60 rfl (lv_at hl 1 rfl) ?_
  refine lv_if_ne (tgt := 68) hx hb dX5_fullness_61 (by decide) (fun c_2 => ?_) (fun c_2 => ?_)
  · first | exact absurd c_2 (by decide) | exact absurd (by decide) c_2
  refine lv_dconst0 hx hb dX5_fullness_64 ?_
  refine lv_goto (tgt := 73) hx hb dX5_fullness_65 (by decide) ?_
  refine W.widen (k := 0) (n := 0) (Nat.le_of_ble_eq_true rfl) (Nat.le_of_ble_eq_true rfl) ?_
  have hP := hP.sub (ws' := []) [] rfl
  have hD := hD.sub (ws' := []) [] (by decide) rfl
  have hP9 := hP
  have hD9 := hD
  exact W.dret (v := FP.dconst0) hx hb hr (fun t9 ht9 hW9 => ⟨⟨_, (), rfl, rfl, by rw [ht9]; exact hP9, va_K.moved hW9.alike hK, hD9⟩, hS.F ht9⟩) hS.2.2 dX5_fullness_73
set_option maxHeartbeats 4000000 in
set_option maxRecDepth 100000 in
theorem c_X5_ruin (l : Launch) (hlT : l.stackTraces = false) (dC : Nat → ClassId) (dI : Nat → Nat → Nat) (cI cV cJ cL : ClassId) (P F G T za : Nat) (fa ia : Nat → Nat) (bg ck : Int32) (p0 : Int32) (sz : Nat) : vx_Met l yX5_ruin (Cond.code yX5_ruin cX5_ruin 4 (some .int) :: TB) ({ frames := 12, cells := 1, slots := 6, locals := 500 } : Room) (PXw [.ref P, .int p0] (dC, dI) [(P, .inr (5, [.ref F, .ref G, .ref T, .ref za, .ref (ia 0), .ref (ia 1), .ref (ia 2), .int 0, .int bg])), (F, .inr (0, [.ref (fa 0), .ref (fa 1), .ref (fa 2), .ref (fa 3), .ref (fa 4), .ref (fa 5), .ref (fa 6), .ref (fa 7), .ref (fa 8), .int 0, .int 0, .int 0]))] (TYP cI cV cJ cL) sz) (va_Qi (fun (r : Int32) (_ : Unit) => outF p0 1 9 = false ∧ r = 0) (QB (dC, dI) (fun (_ : Unit) => []) (TYP cI cV cJ cL) (va_A [(P, .inr (5, [.ref F, .ref G, .ref T, .ref za, .ref (ia 0), .ref (ia 1), .ref (ia 2), .int 0, .int bg])), (F, .inr (0, [.ref (fa 0), .ref (fa 1), .ref (fa 2), .ref (fa 3), .ref (fa 4), .ref (fa 5), .ref (fa 6), .ref (fa 7), .ref (fa 8), .int 0, .int 0, .int 0]))] sz)) (va_A [(P, .inr (5, [.ref F, .ref G, .ref T, .ref za, .ref (ia 0), .ref (ia 1), .ref (ia 2), .int 0, .int bg])), (F, .inr (0, [.ref (fa 0), .ref (fa 1), .ref (fa 2), .ref (fa 3), .ref (fa 4), .ref (fa 5), .ref (fa 6), .ref (fa 7), .ref (fa 8), .int 0, .int 0, .int 0]))] sz)) (vx_X (fun (q : String × Unit) => q.1 = "java/lang/IllegalArgumentException" ∧ outF p0 1 9 = true) (fun E (u : String × Unit) t8 => E = u.1 ∧ QB (dC, dI) (fun (_ : Unit) => [(P, .inr (5, [.ref F, .ref G, .ref T, .ref za, .ref (ia 0), .ref (ia 1), .ref (ia 2), .int 0, .int bg])), (F, .inr (0, [.ref (fa 0), .ref (fa 1), .ref (fa 2), .ref (fa 3), .ref (fa 4), .ref (fa 5), .ref (fa 6), .ref (fa 7), .ref (fa 8), .int 0, .int 0, .int 0]))]) (TYP cI cV cJ cL) (va_A [(P, .inr (5, [.ref F, .ref G, .ref T, .ref za, .ref (ia 0), .ref (ia 1), .ref (ia 2), .int 0, .int bg])), (F, .inr (0, [.ref (fa 0), .ref (fa 1), .ref (fa 2), .ref (fa 3), .ref (fa 4), .ref (fa 5), .ref (fa 6), .ref (fa 7), .ref (fa 8), .int 0, .int 0, .int 0]))] sz) u.2 t8) (va_A [(P, .inr (5, [.ref F, .ref G, .ref T, .ref za, .ref (ia 0), .ref (ia 1), .ref (ia 2), .int 0, .int bg])), (F, .inr (0, [.ref (fa 0), .ref (fa 1), .ref (fa 2), .ref (fa 3), .ref (fa 4), .ref (fa 5), .ref (fa 6), .ref (fa 7), .ref (fa 8), .int 0, .int 0, .int 0]))] sz)) 1 6 (va_A [(P, .inr (5, [.ref F, .ref G, .ref T, .ref za, .ref (ia 0), .ref (ia 1), .ref (ia 2), .int 0, .int bg])), (F, .inr (0, [.ref (fa 0), .ref (fa 1), .ref (fa 2), .ref (fa 3), .ref (fa 4), .ref (fa 5), .ref (fa 6), .ref (fa 7), .ref (fa 8), .int 0, .int 0, .int 0]))] sz) := by
  refine vx_ofW (cc := cX5_ruin) (maxL := 4) (ret := (some .int)) (by decide) rfl ?_
  intro p e s m args below meth c s₁ B hml htb hv
  obtain ⟨rfl, hsz, hP, hK, hD0, hN, hXs, hZs⟩ := hv
  have hx := B.exec
  have hb := B.bytes
  have hr := B.returns
  have hts := atoms_spec (ws := (Cond.code yX5_ruin cX5_ruin 4 (some .int) :: TB)) B.pre
  have hown : s.vm.findClass RX5 = some m.cls := findClass_of_methodNamed B.named
  have hlocks := B.notSynchronized
  subst hsz
  have hD := hD0.self (sz := s.heap.size)
  generalize hAe : va_A [(P, .inr (5, [.ref F, .ref G, .ref T, .ref za, .ref (ia 0), .ref (ia 1), .ref (ia 2), .int 0, .int bg])), (F, .inr (0, [.ref (fa 0), .ref (fa 1), .ref (fa 2), .ref (fa 3), .ref (fa 4), .ref (fa 5), .ref (fa 6), .ref (fa 7), .ref (fa 8), .int 0, .int 0, .int 0]))] s.heap.size = A at hD hZs ⊢
  have hA : ∀ q : Nat, s.heap.size ≤ q → A q := fun q h => by rw [← hAe]; exact Or.inr h
  have hS : va_S A s.heap s.heap [] := va_S.rf
  have hl := lv_entry ([.ref P, .int p0]) (n := 4) (Nat.le_of_ble_eq_true rfl)
  rw [lg_entry_eq]
  generalize (lg_sl ([.ref P, .int p0]) ++ List.replicate (4 - (lg_sl ([.ref P, .int p0])).length) Slot.unset).toArray = ls at hl ⊢
  have hl : lv_has ls 4 [(0, .ref P), (1, .int p0)] := hl
  refine lv_iload_n hx hb dX5_ruin_0 rfl (lv_at hl 1 rfl) ?_
  refine lv_iconst (v := 1) hx hb dX5_ruin_1 (by decide) ?_
  refine lv_bipush (v := 9) hx hb dX5_ruin_2 (by decide) ?_
  refine k_Ti [.int p0, .int 1, .int 9] ⟨hx, hb, hml, hown, hts⟩ (c_X5_isOutside l p0 1 9) q_ml_X5_50 q_st_X5_isOutside q_ini_X5 q_co_X5_isOutside (n := 3) (by decide +kernel) rfl ⟨rfl, rfl⟩ ⟨Nat.le_of_ble_eq_true rfl, Nat.le_of_ble_eq_true rfl⟩ hl.1 rfl (Nat.le_of_ble_eq_true rfl) dX5_ruin_4 ⟨Nat.le_of_ble_eq_true rfl, Nat.le_of_ble_eq_true rfl⟩ (fun r_1 hr_1 => ?_)
  subst hr_1
  refine lv_if_eq (tgt := 20) hx hb dX5_ruin_7 (by decide) (fun c_2 => ?_) (fun c_2 => ?_)
  · refine lv_iconst (v := 0) hx hb dX5_ruin_20 (by decide) ?_
    refine lv_istore_n (lv' := [(2, .int 0), (0, .ref P), (1, .int p0)]) hx hb dX5_ruin_21 rfl hl (by decide) rfl (fun ls hl => ?_)
    refine lv_aload_n hx hb dX5_ruin_22 rfl (lv_at hl 1 rfl) ?_
    refine n_Vi (ci := 5) (q0 := 0) (wc := [(P, .inr (5, [.ref F, .ref G, .ref T, .ref za, .ref (ia 0), .ref (ia 1), .ref (ia 2), .int 0, .int bg])), (F, .inr (0, [.ref (fa 0), .ref (fa 1), .ref (fa 2), .ref (fa 3), .ref (fa 4), .ref (fa 5), .ref (fa 6), .ref (fa 7), .ref (fa 8), .int 0, .int 0, .int 0]))]) (wr := []) [] [0, 1] [] ⟨hx, hb, hml, hown, hts⟩ (fun sz => c_X5_dearestJob l dC dI cI cV cJ cL P F G T za fa ia bg 0  sz) q_ml_X5_210 q_im_X5_dearestJob q_se_X5_dearestJob q_ini_X5 q_co_X5_dearestJob (n := 0) (by decide +kernel) rfl ⟨rfl, rfl⟩ ⟨Nat.le_of_ble_eq_true rfl, Nat.le_of_ble_eq_true rfl⟩ hP hD hS hA hK hN rfl rfl (by decide) (by decide) (by decide) rfl rfl rfl hl.1 rfl (Nat.le_of_ble_eq_true rfl) dX5_ruin_23 ⟨Nat.le_of_ble_eq_true rfl, Nat.le_of_ble_eq_true rfl⟩ (fun r_4 u_3 H locs hu_3 hP hD hS => ?_)
    have hP : va_P (dC, dI) cls [(P, .inr (5, [.ref F, .ref G, .ref T, .ref za, .ref (ia 0), .ref (ia 1), .ref (ia 2), .int 0, .int bg])), (F, .inr (0, [.ref (fa 0), .ref (fa 1), .ref (fa 2), .ref (fa 3), .ref (fa 4), .ref (fa 5), .ref (fa 6), .ref (fa 7), .ref (fa 8), .int 0, .int 0, .int 0]))] H := hP
    have hD : va_D A [(P, .inr (5, [.ref F, .ref G, .ref T, .ref za, .ref (ia 0), .ref (ia 1), .ref (ia 2), .int 0, .int bg])), (F, .inr (0, [.ref (fa 0), .ref (fa 1), .ref (fa 2), .ref (fa 3), .ref (fa 4), .ref (fa 5), .ref (fa 6), .ref (fa 7), .ref (fa 8), .int 0, .int 0, .int 0]))] := hD
    obtain rfl := hu_3
    refine lv_istore_n (lv' := [(3, .int ((-1))), (2, .int 0), (0, .ref P), (1, .int p0)]) hx hb dX5_ruin_26 rfl hl (by decide) rfl (fun ls hl => ?_)
    refine lv_iload_n hx hb dX5_ruin_27 rfl (lv_at hl 1 rfl) ?_
    refine lv_iload_n hx hb dX5_ruin_28 rfl (lv_at hl 3 rfl) ?_
    refine lv_icmp_ge (tgt := 53) hx hb dX5_ruin_29 (by decide) (fun c_5 => ?_) (fun c_5 => ?_)
    · refine lv_iload_n hx hb dX5_ruin_53 rfl (lv_at hl 1 rfl) ?_
      refine k_wid (k := 1) (n := 6) (Nat.le_of_ble_eq_true rfl) (Nat.le_of_ble_eq_true rfl) (vx_ret ?_)
      have hP := hP.sub (ws' := []) [] rfl
      have hD := hD.sub (ws' := []) [] (by decide) rfl
      have hP9 := hP
      have hD9 := hD
      exact W.iret (v := 0) hx hb hr (fun t9 ht9 hW9 => ⟨⟨_, (), rfl, ⟨(show outF p0 1 9 = false from cz0 c_2), rfl⟩, by rw [ht9]; exact hP9, va_K.moved hW9.alike hK, hD9⟩, hS.F ht9⟩) hS.2.2 dX5_ruin_54
    · refine lv_iload_n hx hb dX5_ruin_32 rfl (lv_at hl 0 rfl) ?_
      refine lv_iconst (v := (-1)) hx hb dX5_ruin_33 (by decide) ?_
      refine lv_icmp_eq (tgt := 53) hx hb dX5_ruin_34 (by decide) (fun c_6 => ?_) (fun c_6 => ?_)
      rotate_left
      · first | exact absurd c_6 (by decide) | exact absurd (by decide) c_6
      refine lv_iload_n hx hb dX5_ruin_53 rfl (lv_at hl 1 rfl) ?_
      refine k_wid (k := 1) (n := 6) (Nat.le_of_ble_eq_true rfl) (Nat.le_of_ble_eq_true rfl) (vx_ret ?_)
      have hP := hP.sub (ws' := []) [] rfl
      have hD := hD.sub (ws' := []) [] (by decide) rfl
      have hP9 := hP
      have hD9 := hD
      exact W.iret (v := 0) hx hb hr (fun t9 ht9 hW9 => ⟨⟨_, (), rfl, ⟨(show outF p0 1 9 = false from cz0 c_2), rfl⟩, by rw [ht9]; exact hP9, va_K.moved hW9.alike hK, hD9⟩, hS.F ht9⟩) hS.2.2 dX5_ruin_54
  · exact k_tha ⟨hx, hb, hml, hown, hts⟩ hlT hXs hZs hS 208 "many is 1 to 9" (by decide) hl.1 dX5_ruin_10 dX5_ruin_13 dX5_ruin_14 dX5_ruin_16 dX5_ruin_19 htb ⟨by decide, by decide, Nat.le_of_ble_eq_true rfl, Nat.le_of_ble_eq_true rfl⟩ hlocks (fun t8 h0 h1 h2 => ⟨("java/lang/IllegalArgumentException", ()), ⟨rfl, (show outF p0 1 9 = true from cz1 c_2)⟩, ⟨rfl, hP.kept (fun k q hk => h2 q.1 (hP k q hk).lt), va_K.moved h0 hK, hD⟩, ⟨Nat.le_trans hS.1 h1, fun q p1 p2 => (h2 q (Nat.lt_of_lt_of_le p1 hS.1)).trans (hS.2.1 q p1 p2)⟩⟩) hS.2.2 ⟨Nat.le_of_ble_eq_true rfl, Nat.le_of_ble_eq_true rfl⟩
set_option maxHeartbeats 4000000 in
set_option maxRecDepth 100000 in
theorem c_X5_change (l : Launch) (hlT : l.stackTraces = false) (dC : Nat → ClassId) (dI : Nat → Nat → Nat) (cI cV cJ cL : ClassId) (P F G T za : Nat) (fa ia : Nat → Nat) (bg ck : Int32) (p0 : Int32) (sz : Nat) : vx_Met l yX5_change (Cond.code yX5_change cX5_change 2 (some .int) :: TB) ({ frames := 12, cells := 1, slots := 6, locals := 500 } : Room) (PXw [.ref P, .int p0] (dC, dI) [(P, .inr (5, [.ref F, .ref G, .ref T, .ref za, .ref (ia 0), .ref (ia 1), .ref (ia 2), .int 0, .int bg])), (F, .inr (0, [.ref (fa 0), .ref (fa 1), .ref (fa 2), .ref (fa 3), .ref (fa 4), .ref (fa 5), .ref (fa 6), .ref (fa 7), .ref (fa 8), .int 0, .int 0, .int 0]))] (TYP cI cV cJ cL) sz) (va_Qi (fun (r : Int32) (_ : Unit) => outF p0 0 3 = false ∧ r = 0) (QB (dC, dI) (fun (_ : Unit) => []) (TYP cI cV cJ cL) (va_A [(P, .inr (5, [.ref F, .ref G, .ref T, .ref za, .ref (ia 0), .ref (ia 1), .ref (ia 2), .int 0, .int bg])), (F, .inr (0, [.ref (fa 0), .ref (fa 1), .ref (fa 2), .ref (fa 3), .ref (fa 4), .ref (fa 5), .ref (fa 6), .ref (fa 7), .ref (fa 8), .int 0, .int 0, .int 0]))] sz)) (va_A [(P, .inr (5, [.ref F, .ref G, .ref T, .ref za, .ref (ia 0), .ref (ia 1), .ref (ia 2), .int 0, .int bg])), (F, .inr (0, [.ref (fa 0), .ref (fa 1), .ref (fa 2), .ref (fa 3), .ref (fa 4), .ref (fa 5), .ref (fa 6), .ref (fa 7), .ref (fa 8), .int 0, .int 0, .int 0]))] sz)) (vx_X (fun (q : String × Unit) => q.1 = "java/lang/IllegalArgumentException" ∧ outF p0 0 3 = true) (fun E (u : String × Unit) t8 => E = u.1 ∧ QB (dC, dI) (fun (_ : Unit) => [(P, .inr (5, [.ref F, .ref G, .ref T, .ref za, .ref (ia 0), .ref (ia 1), .ref (ia 2), .int 0, .int bg])), (F, .inr (0, [.ref (fa 0), .ref (fa 1), .ref (fa 2), .ref (fa 3), .ref (fa 4), .ref (fa 5), .ref (fa 6), .ref (fa 7), .ref (fa 8), .int 0, .int 0, .int 0]))]) (TYP cI cV cJ cL) (va_A [(P, .inr (5, [.ref F, .ref G, .ref T, .ref za, .ref (ia 0), .ref (ia 1), .ref (ia 2), .int 0, .int bg])), (F, .inr (0, [.ref (fa 0), .ref (fa 1), .ref (fa 2), .ref (fa 3), .ref (fa 4), .ref (fa 5), .ref (fa 6), .ref (fa 7), .ref (fa 8), .int 0, .int 0, .int 0]))] sz) u.2 t8) (va_A [(P, .inr (5, [.ref F, .ref G, .ref T, .ref za, .ref (ia 0), .ref (ia 1), .ref (ia 2), .int 0, .int bg])), (F, .inr (0, [.ref (fa 0), .ref (fa 1), .ref (fa 2), .ref (fa 3), .ref (fa 4), .ref (fa 5), .ref (fa 6), .ref (fa 7), .ref (fa 8), .int 0, .int 0, .int 0]))] sz)) 1 6 (va_A [(P, .inr (5, [.ref F, .ref G, .ref T, .ref za, .ref (ia 0), .ref (ia 1), .ref (ia 2), .int 0, .int bg])), (F, .inr (0, [.ref (fa 0), .ref (fa 1), .ref (fa 2), .ref (fa 3), .ref (fa 4), .ref (fa 5), .ref (fa 6), .ref (fa 7), .ref (fa 8), .int 0, .int 0, .int 0]))] sz) := by
  refine vx_ofW (cc := cX5_change) (maxL := 2) (ret := (some .int)) (by decide) rfl ?_
  intro p e s m args below meth c s₁ B hml htb hv
  obtain ⟨rfl, hsz, hP, hK, hD0, hN, hXs, hZs⟩ := hv
  have hx := B.exec
  have hb := B.bytes
  have hr := B.returns
  have hts := atoms_spec (ws := (Cond.code yX5_change cX5_change 2 (some .int) :: TB)) B.pre
  have hown : s.vm.findClass RX5 = some m.cls := findClass_of_methodNamed B.named
  have hlocks := B.notSynchronized
  subst hsz
  have hD := hD0.self (sz := s.heap.size)
  generalize hAe : va_A [(P, .inr (5, [.ref F, .ref G, .ref T, .ref za, .ref (ia 0), .ref (ia 1), .ref (ia 2), .int 0, .int bg])), (F, .inr (0, [.ref (fa 0), .ref (fa 1), .ref (fa 2), .ref (fa 3), .ref (fa 4), .ref (fa 5), .ref (fa 6), .ref (fa 7), .ref (fa 8), .int 0, .int 0, .int 0]))] s.heap.size = A at hD hZs ⊢
  have hA : ∀ q : Nat, s.heap.size ≤ q → A q := fun q h => by rw [← hAe]; exact Or.inr h
  have hS : va_S A s.heap s.heap [] := va_S.rf
  have hl := lv_entry ([.ref P, .int p0]) (n := 2) (Nat.le_of_ble_eq_true rfl)
  rw [lg_entry_eq]
  generalize (lg_sl ([.ref P, .int p0]) ++ List.replicate (2 - (lg_sl ([.ref P, .int p0])).length) Slot.unset).toArray = ls at hl ⊢
  have hl : lv_has ls 2 [(0, .ref P), (1, .int p0)] := hl
  refine lv_iload_n hx hb dX5_change_0 rfl (lv_at hl 1 rfl) ?_
  refine k_Xs [.int p0] ⟨hx, hb, hml, hown, hts⟩ (fun sz => c_X5_checkKind l hlT dC dI cI cV cJ cL P F G T za fa ia bg 0 p0 sz) q_ml_X5_214 q_st_X5_checkKind q_ini_X5 q_co_X5_checkKind (n := 1) (by decide +kernel) rfl ⟨rfl, rfl⟩ ⟨Nat.le_of_ble_eq_true rfl, Nat.le_of_ble_eq_true rfl⟩ hP hS hA hK hN hXs hZs hl.1 rfl (Nat.le_of_ble_eq_true rfl) dX5_change_1 ⟨Nat.le_of_ble_eq_true rfl, Nat.le_of_ble_eq_true rfl⟩ (fun E ce q9 H locs hpx hP hS hc1 hc2 hc3 => ?_) (fun H locs hpo hP hS => ?_)
  · exact vx_out (fun x h => (htb x h).elim) hlocks hc1 hc2 hc3 (fun t8 ht9 hW9 => ⟨(E, ()), hpx, ⟨rfl, by rw [ht9]; exact hP, va_K.moved hW9 hK, hD⟩, hS.F ht9⟩) hS.2.2 (Nat.le_of_ble_eq_true rfl) (Nat.le_of_ble_eq_true rfl)
  have ho_1 := hpo
  have hP : va_P (dC, dI) cls [(P, .inr (5, [.ref F, .ref G, .ref T, .ref za, .ref (ia 0), .ref (ia 1), .ref (ia 2), .int 0, .int bg])), (F, .inr (0, [.ref (fa 0), .ref (fa 1), .ref (fa 2), .ref (fa 3), .ref (fa 4), .ref (fa 5), .ref (fa 6), .ref (fa 7), .ref (fa 8), .int 0, .int 0, .int 0]))] H := hP
  have hD : va_D A [(P, .inr (5, [.ref F, .ref G, .ref T, .ref za, .ref (ia 0), .ref (ia 1), .ref (ia 2), .int 0, .int bg])), (F, .inr (0, [.ref (fa 0), .ref (fa 1), .ref (fa 2), .ref (fa 3), .ref (fa 4), .ref (fa 5), .ref (fa 6), .ref (fa 7), .ref (fa 8), .int 0, .int 0, .int 0]))] := hD
  refine lv_aload_n hx hb dX5_change_4 rfl (lv_at hl 0 rfl) ?_
  refine n_Vv (ci := 5) (q0 := 0) (wc := [(P, .inr (5, [.ref F, .ref G, .ref T, .ref za, .ref (ia 0), .ref (ia 1), .ref (ia 2), .int 0, .int bg])), (F, .inr (0, [.ref (fa 0), .ref (fa 1), .ref (fa 2), .ref (fa 3), .ref (fa 4), .ref (fa 5), .ref (fa 6), .ref (fa 7), .ref (fa 8), .int 0, .int 0, .int 0]))]) (wr := []) [] [0, 1] [] ⟨hx, hb, hml, hown, hts⟩ (fun sz => c_X5_startSearch l dC dI cI cV cJ cL P F G T za fa ia bg 0  sz) q_ml_X5_217 q_im_X5_startSearch q_se_X5_startSearch q_ini_X5 q_co_X5_startSearch (n := 0) (by decide +kernel) rfl ⟨rfl, rfl⟩ ⟨Nat.le_of_ble_eq_true rfl, Nat.le_of_ble_eq_true rfl⟩ hP hD hS hA hK hN rfl rfl (by decide) (by decide) (by decide) rfl rfl rfl hl.1 rfl (Nat.le_of_ble_eq_true rfl) dX5_change_5 ⟨Nat.le_of_ble_eq_true rfl, Nat.le_of_ble_eq_true rfl⟩ (fun u_2 H locs hu_2 hP hD hS => ?_)
  have hP : va_P (dC, dI) cls [(P, .inr (5, [.ref F, .ref G, .ref T, .ref za, .ref (ia 0), .ref (ia 1), .ref (ia 2), .int 0, .int 0])), (F, .inr (0, [.ref (fa 0), .ref (fa 1), .ref (fa 2), .ref (fa 3), .ref (fa 4), .ref (fa 5), .ref (fa 6), .ref (fa 7), .ref (fa 8), .int 0, .int 0, .int 0]))] H := hP
  have hD : va_D A [(P, .inr (5, [.ref F, .ref G, .ref T, .ref za, .ref (ia 0), .ref (ia 1), .ref (ia 2), .int 0, .int 0])), (F, .inr (0, [.ref (fa 0), .ref (fa 1), .ref (fa 2), .ref (fa 3), .ref (fa 4), .ref (fa 5), .ref (fa 6), .ref (fa 7), .ref (fa 8), .int 0, .int 0, .int 0]))] := hD
  refine lv_aload_n hx hb dX5_change_8 rfl (lv_at hl 0 rfl) ?_
  refine lv_iload_n hx hb dX5_change_9 rfl (lv_at hl 1 rfl) ?_
  refine n_Vv (ci := 5) (q0 := 0) (wc := [(P, .inr (5, [.ref F, .ref G, .ref T, .ref za, .ref (ia 0), .ref (ia 1), .ref (ia 2), .int 0, .int 0])), (F, .inr (0, [.ref (fa 0), .ref (fa 1), .ref (fa 2), .ref (fa 3), .ref (fa 4), .ref (fa 5), .ref (fa 6), .ref (fa 7), .ref (fa 8), .int 0, .int 0, .int 0]))]) (wr := []) [.int p0] [0, 1] [] ⟨hx, hb, hml, hown, hts⟩ (fun sz => c_X5_searchKind l dC dI cI cV cJ cL P F G T za fa ia 0 0 p0 sz) q_ml_X5_220 q_im_X5_searchKind q_se_X5_searchKind q_ini_X5 q_co_X5_searchKind (n := 1) (by decide +kernel) rfl ⟨rfl, rfl⟩ ⟨Nat.le_of_ble_eq_true rfl, Nat.le_of_ble_eq_true rfl⟩ hP hD hS hA hK hN rfl rfl (by decide) (by decide) (by decide) rfl rfl rfl hl.1 rfl (Nat.le_of_ble_eq_true rfl) dX5_change_10 ⟨Nat.le_of_ble_eq_true rfl, Nat.le_of_ble_eq_true rfl⟩ (fun u_3 H locs hu_3 hP hD hS => ?_)
  have hP : va_P (dC, dI) cls [(P, .inr (5, [.ref F, .ref G, .ref T, .ref za, .ref (ia 0), .ref (ia 1), .ref (ia 2), .int 0, .int 0])), (F, .inr (0, [.ref (fa 0), .ref (fa 1), .ref (fa 2), .ref (fa 3), .ref (fa 4), .ref (fa 5), .ref (fa 6), .ref (fa 7), .ref (fa 8), .int 0, .int 0, .int 0]))] H := hP
  have hD : va_D A [(P, .inr (5, [.ref F, .ref G, .ref T, .ref za, .ref (ia 0), .ref (ia 1), .ref (ia 2), .int 0, .int 0])), (F, .inr (0, [.ref (fa 0), .ref (fa 1), .ref (fa 2), .ref (fa 3), .ref (fa 4), .ref (fa 5), .ref (fa 6), .ref (fa 7), .ref (fa 8), .int 0, .int 0, .int 0]))] := hD
  refine lv_aload_n hx hb dX5_change_13 rfl (lv_at hl 0 rfl) ?_
  refine n_Vv (ci := 5) (q0 := 0) (wc := [(P, .inr (5, [.ref F, .ref G, .ref T, .ref za, .ref (ia 0), .ref (ia 1), .ref (ia 2), .int 0, .int 0])), (F, .inr (0, [.ref (fa 0), .ref (fa 1), .ref (fa 2), .ref (fa 3), .ref (fa 4), .ref (fa 5), .ref (fa 6), .ref (fa 7), .ref (fa 8), .int 0, .int 0, .int 0]))]) (wr := []) [] [0, 1] [] ⟨hx, hb, hml, hown, hts⟩ (fun sz => c_X5_makeBestChange l dC dI cI cV cJ cL P F G T za fa ia 0 0  sz) q_ml_X5_223 q_im_X5_makeBestChange q_se_X5_makeBestChange q_ini_X5 q_co_X5_makeBestChange (n := 0) (by decide +kernel) rfl ⟨rfl, rfl⟩ ⟨Nat.le_of_ble_eq_true rfl, Nat.le_of_ble_eq_true rfl⟩ hP hD hS hA hK hN rfl rfl (by decide) (by decide) (by decide) rfl rfl rfl hl.1 rfl (Nat.le_of_ble_eq_true rfl) dX5_change_14 ⟨Nat.le_of_ble_eq_true rfl, Nat.le_of_ble_eq_true rfl⟩ (fun u_4 H locs hu_4 hP hD hS => ?_)
  have hP : va_P (dC, dI) cls [(P, .inr (5, [.ref F, .ref G, .ref T, .ref za, .ref (ia 0), .ref (ia 1), .ref (ia 2), .int 0, .int 0])), (F, .inr (0, [.ref (fa 0), .ref (fa 1), .ref (fa 2), .ref (fa 3), .ref (fa 4), .ref (fa 5), .ref (fa 6), .ref (fa 7), .ref (fa 8), .int 0, .int 0, .int 0]))] H := hP
  have hD : va_D A [(P, .inr (5, [.ref F, .ref G, .ref T, .ref za, .ref (ia 0), .ref (ia 1), .ref (ia 2), .int 0, .int 0])), (F, .inr (0, [.ref (fa 0), .ref (fa 1), .ref (fa 2), .ref (fa 3), .ref (fa 4), .ref (fa 5), .ref (fa 6), .ref (fa 7), .ref (fa 8), .int 0, .int 0, .int 0]))] := hD
  refine lv_aload_n hx hb dX5_change_17 rfl (lv_at hl 0 rfl) ?_
  refine va_get (D := (dC, dI)) (ci := 5) (v := .int 0) (C := RX5) (T := TX5) (N := 9) hx hb hts (fun w h => tb_in (inX5 w h)) hown hK hP 0 rfl rfl 8 (by decide) (hts _ (tb_in q_fl_X5_226)) (fun _ h9 => h9) rfl dX5_change_18 ?_
  refine k_wid (k := 1) (n := 6) (Nat.le_of_ble_eq_true rfl) (Nat.le_of_ble_eq_true rfl) (vx_ret ?_)
  have hP := hP.sub (ws' := []) [] rfl
  have hD := hD.sub (ws' := []) [] (by decide) rfl
  have hP9 := hP
  have hD9 := hD
  exact W.iret (v := 0) hx hb hr (fun t9 ht9 hW9 => ⟨⟨_, (), rfl, ⟨ho_1, rfl⟩, by rw [ht9]; exact hP9, va_K.moved hW9.alike hK, hD9⟩, hS.F ht9⟩) hS.2.2 dX5_change_21
set_option maxHeartbeats 4000000 in
set_option maxRecDepth 100000 in
theorem c_X5_gain (l : Launch) (hlT : l.stackTraces = false) (dC : Nat → ClassId) (dI : Nat → Nat → Nat) (cI cV cJ cL : ClassId) (P F G T za : Nat) (fa ia : Nat → Nat) (bg ck : Int32) (p0 : Int32) (sz : Nat) : vx_Met l yX5_gain (Cond.code yX5_gain cX5_gain 2 (some .int) :: TB) ({ frames := 12, cells := 1, slots := 6, locals := 500 } : Room) (PXw [.ref P, .int p0] (dC, dI) [(P, .inr (5, [.ref F, .ref G, .ref T, .ref za, .ref (ia 0), .ref (ia 1), .ref (ia 2), .int 0, .int bg])), (F, .inr (0, [.ref (fa 0), .ref (fa 1), .ref (fa 2), .ref (fa 3), .ref (fa 4), .ref (fa 5), .ref (fa 6), .ref (fa 7), .ref (fa 8), .int 0, .int 0, .int 0]))] (TYP cI cV cJ cL) sz) (va_Qi (fun (r : Int32) (_ : Unit) => outF p0 0 3 = false ∧ r = 0) (QB (dC, dI) (fun (_ : Unit) => []) (TYP cI cV cJ cL) (va_A [(P, .inr (5, [.ref F, .ref G, .ref T, .ref za, .ref (ia 0), .ref (ia 1), .ref (ia 2), .int 0, .int bg])), (F, .inr (0, [.ref (fa 0), .ref (fa 1), .ref (fa 2), .ref (fa 3), .ref (fa 4), .ref (fa 5), .ref (fa 6), .ref (fa 7), .ref (fa 8), .int 0, .int 0, .int 0]))] sz)) (va_A [(P, .inr (5, [.ref F, .ref G, .ref T, .ref za, .ref (ia 0), .ref (ia 1), .ref (ia 2), .int 0, .int bg])), (F, .inr (0, [.ref (fa 0), .ref (fa 1), .ref (fa 2), .ref (fa 3), .ref (fa 4), .ref (fa 5), .ref (fa 6), .ref (fa 7), .ref (fa 8), .int 0, .int 0, .int 0]))] sz)) (vx_X (fun (q : String × Unit) => q.1 = "java/lang/IllegalArgumentException" ∧ outF p0 0 3 = true) (fun E (u : String × Unit) t8 => E = u.1 ∧ QB (dC, dI) (fun (_ : Unit) => [(P, .inr (5, [.ref F, .ref G, .ref T, .ref za, .ref (ia 0), .ref (ia 1), .ref (ia 2), .int 0, .int bg])), (F, .inr (0, [.ref (fa 0), .ref (fa 1), .ref (fa 2), .ref (fa 3), .ref (fa 4), .ref (fa 5), .ref (fa 6), .ref (fa 7), .ref (fa 8), .int 0, .int 0, .int 0]))]) (TYP cI cV cJ cL) (va_A [(P, .inr (5, [.ref F, .ref G, .ref T, .ref za, .ref (ia 0), .ref (ia 1), .ref (ia 2), .int 0, .int bg])), (F, .inr (0, [.ref (fa 0), .ref (fa 1), .ref (fa 2), .ref (fa 3), .ref (fa 4), .ref (fa 5), .ref (fa 6), .ref (fa 7), .ref (fa 8), .int 0, .int 0, .int 0]))] sz) u.2 t8) (va_A [(P, .inr (5, [.ref F, .ref G, .ref T, .ref za, .ref (ia 0), .ref (ia 1), .ref (ia 2), .int 0, .int bg])), (F, .inr (0, [.ref (fa 0), .ref (fa 1), .ref (fa 2), .ref (fa 3), .ref (fa 4), .ref (fa 5), .ref (fa 6), .ref (fa 7), .ref (fa 8), .int 0, .int 0, .int 0]))] sz)) 1 6 (va_A [(P, .inr (5, [.ref F, .ref G, .ref T, .ref za, .ref (ia 0), .ref (ia 1), .ref (ia 2), .int 0, .int bg])), (F, .inr (0, [.ref (fa 0), .ref (fa 1), .ref (fa 2), .ref (fa 3), .ref (fa 4), .ref (fa 5), .ref (fa 6), .ref (fa 7), .ref (fa 8), .int 0, .int 0, .int 0]))] sz) := by
  refine vx_ofW (cc := cX5_gain) (maxL := 2) (ret := (some .int)) (by decide) rfl ?_
  intro p e s m args below meth c s₁ B hml htb hv
  obtain ⟨rfl, hsz, hP, hK, hD0, hN, hXs, hZs⟩ := hv
  have hx := B.exec
  have hb := B.bytes
  have hr := B.returns
  have hts := atoms_spec (ws := (Cond.code yX5_gain cX5_gain 2 (some .int) :: TB)) B.pre
  have hown : s.vm.findClass RX5 = some m.cls := findClass_of_methodNamed B.named
  have hlocks := B.notSynchronized
  subst hsz
  have hD := hD0.self (sz := s.heap.size)
  generalize hAe : va_A [(P, .inr (5, [.ref F, .ref G, .ref T, .ref za, .ref (ia 0), .ref (ia 1), .ref (ia 2), .int 0, .int bg])), (F, .inr (0, [.ref (fa 0), .ref (fa 1), .ref (fa 2), .ref (fa 3), .ref (fa 4), .ref (fa 5), .ref (fa 6), .ref (fa 7), .ref (fa 8), .int 0, .int 0, .int 0]))] s.heap.size = A at hD hZs ⊢
  have hA : ∀ q : Nat, s.heap.size ≤ q → A q := fun q h => by rw [← hAe]; exact Or.inr h
  have hS : va_S A s.heap s.heap [] := va_S.rf
  have hl := lv_entry ([.ref P, .int p0]) (n := 2) (Nat.le_of_ble_eq_true rfl)
  rw [lg_entry_eq]
  generalize (lg_sl ([.ref P, .int p0]) ++ List.replicate (2 - (lg_sl ([.ref P, .int p0])).length) Slot.unset).toArray = ls at hl ⊢
  have hl : lv_has ls 2 [(0, .ref P), (1, .int p0)] := hl
  refine lv_iload_n hx hb dX5_gain_0 rfl (lv_at hl 1 rfl) ?_
  refine k_Xs [.int p0] ⟨hx, hb, hml, hown, hts⟩ (fun sz => c_X5_checkKind l hlT dC dI cI cV cJ cL P F G T za fa ia bg 0 p0 sz) q_ml_X5_214 q_st_X5_checkKind q_ini_X5 q_co_X5_checkKind (n := 1) (by decide +kernel) rfl ⟨rfl, rfl⟩ ⟨Nat.le_of_ble_eq_true rfl, Nat.le_of_ble_eq_true rfl⟩ hP hS hA hK hN hXs hZs hl.1 rfl (Nat.le_of_ble_eq_true rfl) dX5_gain_1 ⟨Nat.le_of_ble_eq_true rfl, Nat.le_of_ble_eq_true rfl⟩ (fun E ce q9 H locs hpx hP hS hc1 hc2 hc3 => ?_) (fun H locs hpo hP hS => ?_)
  · exact vx_out (fun x h => (htb x h).elim) hlocks hc1 hc2 hc3 (fun t8 ht9 hW9 => ⟨(E, ()), hpx, ⟨rfl, by rw [ht9]; exact hP, va_K.moved hW9 hK, hD⟩, hS.F ht9⟩) hS.2.2 (Nat.le_of_ble_eq_true rfl) (Nat.le_of_ble_eq_true rfl)
  have ho_1 := hpo
  have hP : va_P (dC, dI) cls [(P, .inr (5, [.ref F, .ref G, .ref T, .ref za, .ref (ia 0), .ref (ia 1), .ref (ia 2), .int 0, .int bg])), (F, .inr (0, [.ref (fa 0), .ref (fa 1), .ref (fa 2), .ref (fa 3), .ref (fa 4), .ref (fa 5), .ref (fa 6), .ref (fa 7), .ref (fa 8), .int 0, .int 0, .int 0]))] H := hP
  have hD : va_D A [(P, .inr (5, [.ref F, .ref G, .ref T, .ref za, .ref (ia 0), .ref (ia 1), .ref (ia 2), .int 0, .int bg])), (F, .inr (0, [.ref (fa 0), .ref (fa 1), .ref (fa 2), .ref (fa 3), .ref (fa 4), .ref (fa 5), .ref (fa 6), .ref (fa 7), .ref (fa 8), .int 0, .int 0, .int 0]))] := hD
  refine lv_aload_n hx hb dX5_gain_4 rfl (lv_at hl 0 rfl) ?_
  refine n_Vv (ci := 5) (q0 := 0) (wc := [(P, .inr (5, [.ref F, .ref G, .ref T, .ref za, .ref (ia 0), .ref (ia 1), .ref (ia 2), .int 0, .int bg])), (F, .inr (0, [.ref (fa 0), .ref (fa 1), .ref (fa 2), .ref (fa 3), .ref (fa 4), .ref (fa 5), .ref (fa 6), .ref (fa 7), .ref (fa 8), .int 0, .int 0, .int 0]))]) (wr := []) [] [0, 1] [] ⟨hx, hb, hml, hown, hts⟩ (fun sz => c_X5_startSearch l dC dI cI cV cJ cL P F G T za fa ia bg 0  sz) q_ml_X5_217 q_im_X5_startSearch q_se_X5_startSearch q_ini_X5 q_co_X5_startSearch (n := 0) (by decide +kernel) rfl ⟨rfl, rfl⟩ ⟨Nat.le_of_ble_eq_true rfl, Nat.le_of_ble_eq_true rfl⟩ hP hD hS hA hK hN rfl rfl (by decide) (by decide) (by decide) rfl rfl rfl hl.1 rfl (Nat.le_of_ble_eq_true rfl) dX5_gain_5 ⟨Nat.le_of_ble_eq_true rfl, Nat.le_of_ble_eq_true rfl⟩ (fun u_2 H locs hu_2 hP hD hS => ?_)
  have hP : va_P (dC, dI) cls [(P, .inr (5, [.ref F, .ref G, .ref T, .ref za, .ref (ia 0), .ref (ia 1), .ref (ia 2), .int 0, .int 0])), (F, .inr (0, [.ref (fa 0), .ref (fa 1), .ref (fa 2), .ref (fa 3), .ref (fa 4), .ref (fa 5), .ref (fa 6), .ref (fa 7), .ref (fa 8), .int 0, .int 0, .int 0]))] H := hP
  have hD : va_D A [(P, .inr (5, [.ref F, .ref G, .ref T, .ref za, .ref (ia 0), .ref (ia 1), .ref (ia 2), .int 0, .int 0])), (F, .inr (0, [.ref (fa 0), .ref (fa 1), .ref (fa 2), .ref (fa 3), .ref (fa 4), .ref (fa 5), .ref (fa 6), .ref (fa 7), .ref (fa 8), .int 0, .int 0, .int 0]))] := hD
  refine lv_aload_n hx hb dX5_gain_8 rfl (lv_at hl 0 rfl) ?_
  refine lv_iload_n hx hb dX5_gain_9 rfl (lv_at hl 1 rfl) ?_
  refine n_Vv (ci := 5) (q0 := 0) (wc := [(P, .inr (5, [.ref F, .ref G, .ref T, .ref za, .ref (ia 0), .ref (ia 1), .ref (ia 2), .int 0, .int 0])), (F, .inr (0, [.ref (fa 0), .ref (fa 1), .ref (fa 2), .ref (fa 3), .ref (fa 4), .ref (fa 5), .ref (fa 6), .ref (fa 7), .ref (fa 8), .int 0, .int 0, .int 0]))]) (wr := []) [.int p0] [0, 1] [] ⟨hx, hb, hml, hown, hts⟩ (fun sz => c_X5_searchKind l dC dI cI cV cJ cL P F G T za fa ia 0 0 p0 sz) q_ml_X5_220 q_im_X5_searchKind q_se_X5_searchKind q_ini_X5 q_co_X5_searchKind (n := 1) (by decide +kernel) rfl ⟨rfl, rfl⟩ ⟨Nat.le_of_ble_eq_true rfl, Nat.le_of_ble_eq_true rfl⟩ hP hD hS hA hK hN rfl rfl (by decide) (by decide) (by decide) rfl rfl rfl hl.1 rfl (Nat.le_of_ble_eq_true rfl) dX5_gain_10 ⟨Nat.le_of_ble_eq_true rfl, Nat.le_of_ble_eq_true rfl⟩ (fun u_3 H locs hu_3 hP hD hS => ?_)
  have hP : va_P (dC, dI) cls [(P, .inr (5, [.ref F, .ref G, .ref T, .ref za, .ref (ia 0), .ref (ia 1), .ref (ia 2), .int 0, .int 0])), (F, .inr (0, [.ref (fa 0), .ref (fa 1), .ref (fa 2), .ref (fa 3), .ref (fa 4), .ref (fa 5), .ref (fa 6), .ref (fa 7), .ref (fa 8), .int 0, .int 0, .int 0]))] H := hP
  have hD : va_D A [(P, .inr (5, [.ref F, .ref G, .ref T, .ref za, .ref (ia 0), .ref (ia 1), .ref (ia 2), .int 0, .int 0])), (F, .inr (0, [.ref (fa 0), .ref (fa 1), .ref (fa 2), .ref (fa 3), .ref (fa 4), .ref (fa 5), .ref (fa 6), .ref (fa 7), .ref (fa 8), .int 0, .int 0, .int 0]))] := hD
  refine lv_aload_n hx hb dX5_gain_13 rfl (lv_at hl 0 rfl) ?_
  refine va_get (D := (dC, dI)) (ci := 5) (v := .int 0) (C := RX5) (T := TX5) (N := 9) hx hb hts (fun w h => tb_in (inX5 w h)) hown hK hP 0 rfl rfl 8 (by decide) (hts _ (tb_in q_fl_X5_226)) (fun _ h9 => h9) rfl dX5_gain_14 ?_
  refine k_wid (k := 1) (n := 6) (Nat.le_of_ble_eq_true rfl) (Nat.le_of_ble_eq_true rfl) (vx_ret ?_)
  have hP := hP.sub (ws' := []) [] rfl
  have hD := hD.sub (ws' := []) [] (by decide) rfl
  have hP9 := hP
  have hD9 := hD
  exact W.iret (v := 0) hx hb hr (fun t9 ht9 hW9 => ⟨⟨_, (), rfl, ⟨ho_1, rfl⟩, by rw [ht9]; exact hP9, va_K.moved hW9.alike hK, hD9⟩, hS.F ht9⟩) hS.2.2 dX5_gain_17
set_option maxHeartbeats 4000000 in
set_option maxRecDepth 100000 in
theorem c_X5_improve (l : Launch) (hlT : l.stackTraces = false) (dC : Nat → ClassId) (dI : Nat → Nat → Nat) (cI cV cJ cL : ClassId) (P F G T za : Nat) (fa ia : Nat → Nat) (bg ck : Int32) (p0 : Int32) (sz : Nat) : vx_Met l yX5_improve (Cond.code yX5_improve cX5_improve 5 (some .int) :: TB) ({ frames := 12, cells := 1, slots := 6, locals := 500 } : Room) (PXw [.ref P, .int p0] (dC, dI) [(P, .inr (5, [.ref F, .ref G, .ref T, .ref za, .ref (ia 0), .ref (ia 1), .ref (ia 2), .int 0, .int bg])), (F, .inr (0, [.ref (fa 0), .ref (fa 1), .ref (fa 2), .ref (fa 3), .ref (fa 4), .ref (fa 5), .ref (fa 6), .ref (fa 7), .ref (fa 8), .int 0, .int 0, .int 0]))] (TYP cI cV cJ cL) sz) (va_Qi (fun (r : Int32) (_ : Unit) => outF p0 1 10 = false ∧ r = 0) (QB (dC, dI) (fun (_ : Unit) => []) (TYP cI cV cJ cL) (va_A [(P, .inr (5, [.ref F, .ref G, .ref T, .ref za, .ref (ia 0), .ref (ia 1), .ref (ia 2), .int 0, .int bg])), (F, .inr (0, [.ref (fa 0), .ref (fa 1), .ref (fa 2), .ref (fa 3), .ref (fa 4), .ref (fa 5), .ref (fa 6), .ref (fa 7), .ref (fa 8), .int 0, .int 0, .int 0]))] sz)) (va_A [(P, .inr (5, [.ref F, .ref G, .ref T, .ref za, .ref (ia 0), .ref (ia 1), .ref (ia 2), .int 0, .int bg])), (F, .inr (0, [.ref (fa 0), .ref (fa 1), .ref (fa 2), .ref (fa 3), .ref (fa 4), .ref (fa 5), .ref (fa 6), .ref (fa 7), .ref (fa 8), .int 0, .int 0, .int 0]))] sz)) (vx_X (fun (q : String × Unit) => q.1 = "java/lang/IllegalArgumentException" ∧ outF p0 1 10 = true) (fun E (u : String × Unit) t8 => E = u.1 ∧ QB (dC, dI) (fun (_ : Unit) => [(P, .inr (5, [.ref F, .ref G, .ref T, .ref za, .ref (ia 0), .ref (ia 1), .ref (ia 2), .int 0, .int bg])), (F, .inr (0, [.ref (fa 0), .ref (fa 1), .ref (fa 2), .ref (fa 3), .ref (fa 4), .ref (fa 5), .ref (fa 6), .ref (fa 7), .ref (fa 8), .int 0, .int 0, .int 0]))]) (TYP cI cV cJ cL) (va_A [(P, .inr (5, [.ref F, .ref G, .ref T, .ref za, .ref (ia 0), .ref (ia 1), .ref (ia 2), .int 0, .int bg])), (F, .inr (0, [.ref (fa 0), .ref (fa 1), .ref (fa 2), .ref (fa 3), .ref (fa 4), .ref (fa 5), .ref (fa 6), .ref (fa 7), .ref (fa 8), .int 0, .int 0, .int 0]))] sz) u.2 t8) (va_A [(P, .inr (5, [.ref F, .ref G, .ref T, .ref za, .ref (ia 0), .ref (ia 1), .ref (ia 2), .int 0, .int bg])), (F, .inr (0, [.ref (fa 0), .ref (fa 1), .ref (fa 2), .ref (fa 3), .ref (fa 4), .ref (fa 5), .ref (fa 6), .ref (fa 7), .ref (fa 8), .int 0, .int 0, .int 0]))] sz)) 1 6 (va_A [(P, .inr (5, [.ref F, .ref G, .ref T, .ref za, .ref (ia 0), .ref (ia 1), .ref (ia 2), .int 0, .int bg])), (F, .inr (0, [.ref (fa 0), .ref (fa 1), .ref (fa 2), .ref (fa 3), .ref (fa 4), .ref (fa 5), .ref (fa 6), .ref (fa 7), .ref (fa 8), .int 0, .int 0, .int 0]))] sz) := by
  refine vx_ofW (cc := cX5_improve) (maxL := 5) (ret := (some .int)) (by decide) rfl ?_
  intro p e s m args below meth c s₁ B hml htb hv
  obtain ⟨rfl, hsz, hP, hK, hD0, hN, hXs, hZs⟩ := hv
  have hx := B.exec
  have hb := B.bytes
  have hr := B.returns
  have hts := atoms_spec (ws := (Cond.code yX5_improve cX5_improve 5 (some .int) :: TB)) B.pre
  have hown : s.vm.findClass RX5 = some m.cls := findClass_of_methodNamed B.named
  have hlocks := B.notSynchronized
  subst hsz
  have hD := hD0.self (sz := s.heap.size)
  generalize hAe : va_A [(P, .inr (5, [.ref F, .ref G, .ref T, .ref za, .ref (ia 0), .ref (ia 1), .ref (ia 2), .int 0, .int bg])), (F, .inr (0, [.ref (fa 0), .ref (fa 1), .ref (fa 2), .ref (fa 3), .ref (fa 4), .ref (fa 5), .ref (fa 6), .ref (fa 7), .ref (fa 8), .int 0, .int 0, .int 0]))] s.heap.size = A at hD hZs ⊢
  have hA : ∀ q : Nat, s.heap.size ≤ q → A q := fun q h => by rw [← hAe]; exact Or.inr h
  have hS : va_S A s.heap s.heap [] := va_S.rf
  have hl := lv_entry ([.ref P, .int p0]) (n := 5) (Nat.le_of_ble_eq_true rfl)
  rw [lg_entry_eq]
  generalize (lg_sl ([.ref P, .int p0]) ++ List.replicate (5 - (lg_sl ([.ref P, .int p0])).length) Slot.unset).toArray = ls at hl ⊢
  have hl : lv_has ls 5 [(0, .ref P), (1, .int p0)] := hl
  refine lv_iload_n hx hb dX5_improve_0 rfl (lv_at hl 1 rfl) ?_
  refine lv_iconst (v := 1) hx hb dX5_improve_1 (by decide) ?_
  refine lv_bipush (v := 10) hx hb dX5_improve_2 (by decide) ?_
  refine k_Ti [.int p0, .int 1, .int 10] ⟨hx, hb, hml, hown, hts⟩ (c_X5_isOutside l p0 1 10) q_ml_X5_50 q_st_X5_isOutside q_ini_X5 q_co_X5_isOutside (n := 3) (by decide +kernel) rfl ⟨rfl, rfl⟩ ⟨Nat.le_of_ble_eq_true rfl, Nat.le_of_ble_eq_true rfl⟩ hl.1 rfl (Nat.le_of_ble_eq_true rfl) dX5_improve_4 ⟨Nat.le_of_ble_eq_true rfl, Nat.le_of_ble_eq_true rfl⟩ (fun r_1 hr_1 => ?_)
  subst hr_1
  refine lv_if_eq (tgt := 20) hx hb dX5_improve_7 (by decide) (fun c_2 => ?_) (fun c_2 => ?_)
  · refine lv_iconst (v := 0) hx hb dX5_improve_20 (by decide) ?_
    refine lv_istore_n (lv' := [(2, .int 0), (0, .ref P), (1, .int p0)]) hx hb dX5_improve_21 rfl hl (by decide) rfl (fun ls hl => ?_)
    refine lv_iconst (v := 0) hx hb dX5_improve_22 (by decide) ?_
    refine lv_istore_n (lv' := [(3, .int 0), (2, .int 0), (0, .ref P), (1, .int p0)]) hx hb dX5_improve_23 rfl hl (by decide) rfl (fun ls hl => ?_)
    refine lv_iload_n hx hb dX5_improve_24 rfl (lv_at hl 0 rfl) ?_
    refine lv_iload_n hx hb dX5_improve_25 rfl (lv_at hl 3 rfl) ?_
    refine lv_icmp_ge (tgt := 81) hx hb dX5_improve_26 (by decide) (fun c_3 => ?_) (fun c_3 => ?_)
    · refine lv_iload_n hx hb dX5_improve_81 rfl (lv_at hl 1 rfl) ?_
      refine k_wid (k := 1) (n := 6) (Nat.le_of_ble_eq_true rfl) (Nat.le_of_ble_eq_true rfl) (vx_ret ?_)
      have hP := hP.sub (ws' := []) [] rfl
      have hD := hD.sub (ws' := []) [] (by decide) rfl
      have hP9 := hP
      have hD9 := hD
      exact W.iret (v := 0) hx hb hr (fun t9 ht9 hW9 => ⟨⟨_, (), rfl, ⟨(show outF p0 1 10 = false from cz0 c_2), rfl⟩, by rw [ht9]; exact hP9, va_K.moved hW9.alike hK, hD9⟩, hS.F ht9⟩) hS.2.2 dX5_improve_82
    · refine lv_aload_n hx hb dX5_improve_29 rfl (lv_at hl 2 rfl) ?_
      refine n_Vv (ci := 5) (q0 := 0) (wc := [(P, .inr (5, [.ref F, .ref G, .ref T, .ref za, .ref (ia 0), .ref (ia 1), .ref (ia 2), .int 0, .int bg])), (F, .inr (0, [.ref (fa 0), .ref (fa 1), .ref (fa 2), .ref (fa 3), .ref (fa 4), .ref (fa 5), .ref (fa 6), .ref (fa 7), .ref (fa 8), .int 0, .int 0, .int 0]))]) (wr := []) [] [0, 1] [] ⟨hx, hb, hml, hown, hts⟩ (fun sz => c_X5_startSearch l dC dI cI cV cJ cL P F G T za fa ia bg 0  sz) q_ml_X5_217 q_im_X5_startSearch q_se_X5_startSearch q_ini_X5 q_co_X5_startSearch (n := 0) (by decide +kernel) rfl ⟨rfl, rfl⟩ ⟨Nat.le_of_ble_eq_true rfl, Nat.le_of_ble_eq_true rfl⟩ hP hD hS hA hK hN rfl rfl (by decide) (by decide) (by decide) rfl rfl rfl hl.1 rfl (Nat.le_of_ble_eq_true rfl) dX5_improve_30 ⟨Nat.le_of_ble_eq_true rfl, Nat.le_of_ble_eq_true rfl⟩ (fun u_4 H locs hu_4 hP hD hS => ?_)
      have hP : va_P (dC, dI) cls [(P, .inr (5, [.ref F, .ref G, .ref T, .ref za, .ref (ia 0), .ref (ia 1), .ref (ia 2), .int 0, .int 0])), (F, .inr (0, [.ref (fa 0), .ref (fa 1), .ref (fa 2), .ref (fa 3), .ref (fa 4), .ref (fa 5), .ref (fa 6), .ref (fa 7), .ref (fa 8), .int 0, .int 0, .int 0]))] H := hP
      have hD : va_D A [(P, .inr (5, [.ref F, .ref G, .ref T, .ref za, .ref (ia 0), .ref (ia 1), .ref (ia 2), .int 0, .int 0])), (F, .inr (0, [.ref (fa 0), .ref (fa 1), .ref (fa 2), .ref (fa 3), .ref (fa 4), .ref (fa 5), .ref (fa 6), .ref (fa 7), .ref (fa 8), .int 0, .int 0, .int 0]))] := hD
      refine lv_iconst (v := 0) hx hb dX5_improve_33 (by decide) ?_
      refine lv_istore (lv' := [(4, .int 0), (3, .int 0), (2, .int 0), (0, .ref P), (1, .int p0)]) hx hb dX5_improve_34 hl (by decide) rfl (fun ls hl => ?_)
      refine lv_iload hx hb dX5_improve_36 (lv_at hl 0 rfl) ?_
      refine lv_iconst (v := 4) hx hb dX5_improve_38 (by decide) ?_
      refine lv_icmp_ge (tgt := 54) hx hb dX5_improve_39 (by decide) (fun c_5 => ?_) (fun c_5 => ?_)
      · first | exact absurd c_5 (by decide) | exact absurd (by decide) c_5
      refine lv_aload_n hx hb dX5_improve_42 rfl (lv_at hl 3 rfl) ?_
      refine lv_iload hx hb dX5_improve_43 (lv_at hl 0 rfl) ?_
      refine n_Vv (ci := 5) (q0 := 0) (wc := [(P, .inr (5, [.ref F, .ref G, .ref T, .ref za, .ref (ia 0), .ref (ia 1), .ref (ia 2), .int 0, .int 0])), (F, .inr (0, [.ref (fa 0), .ref (fa 1), .ref (fa 2), .ref (fa 3), .ref (fa 4), .ref (fa 5), .ref (fa 6), .ref (fa 7), .ref (fa 8), .int 0, .int 0, .int 0]))]) (wr := []) [.int 0] [0, 1] [] ⟨hx, hb, hml, hown, hts⟩ (fun sz => c_X5_searchKind l dC dI cI cV cJ cL P F G T za fa ia 0 0 0 sz) q_ml_X5_220 q_im_X5_searchKind q_se_X5_searchKind q_ini_X5 q_co_X5_searchKind (n := 1) (by decide +kernel) rfl ⟨rfl, rfl⟩ ⟨Nat.le_of_ble_eq_true rfl, Nat.le_of_ble_eq_true rfl⟩ hP hD hS hA hK hN rfl rfl (by decide) (by decide) (by decide) rfl rfl rfl hl.1 rfl (Nat.le_of_ble_eq_true rfl) dX5_improve_45 ⟨Nat.le_of_ble_eq_true rfl, Nat.le_of_ble_eq_true rfl⟩ (fun u_6 H locs hu_6 hP hD hS => ?_)
      have hP : va_P (dC, dI) cls [(P, .inr (5, [.ref F, .ref G, .ref T, .ref za, .ref (ia 0), .ref (ia 1), .ref (ia 2), .int 0, .int 0])), (F, .inr (0, [.ref (fa 0), .ref (fa 1), .ref (fa 2), .ref (fa 3), .ref (fa 4), .ref (fa 5), .ref (fa 6), .ref (fa 7), .ref (fa 8), .int 0, .int 0, .int 0]))] H := hP
      have hD : va_D A [(P, .inr (5, [.ref F, .ref G, .ref T, .ref za, .ref (ia 0), .ref (ia 1), .ref (ia 2), .int 0, .int 0])), (F, .inr (0, [.ref (fa 0), .ref (fa 1), .ref (fa 2), .ref (fa 3), .ref (fa 4), .ref (fa 5), .ref (fa 6), .ref (fa 7), .ref (fa 8), .int 0, .int 0, .int 0]))] := hD
      refine lv_iinc (v := 1) (lv' := [(4, .int 1), (3, .int 0), (2, .int 0), (0, .ref P), (1, .int p0)]) hx hb dX5_improve_48 hl (k := 0) rfl (by decide) (by decide) rfl (fun ls hl => ?_)
      refine lv_goto (tgt := 36) hx hb dX5_improve_51 (by decide) ?_
      refine lv_iload hx hb dX5_improve_36 (lv_at hl 0 rfl) ?_
      refine lv_iconst (v := 4) hx hb dX5_improve_38 (by decide) ?_
      refine lv_icmp_ge (tgt := 54) hx hb dX5_improve_39 (by decide) (fun c_7 => ?_) (fun c_7 => ?_)
      · first | exact absurd c_7 (by decide) | exact absurd (by decide) c_7
      refine lv_aload_n hx hb dX5_improve_42 rfl (lv_at hl 3 rfl) ?_
      refine lv_iload hx hb dX5_improve_43 (lv_at hl 0 rfl) ?_
      refine n_Vv (ci := 5) (q0 := 0) (wc := [(P, .inr (5, [.ref F, .ref G, .ref T, .ref za, .ref (ia 0), .ref (ia 1), .ref (ia 2), .int 0, .int 0])), (F, .inr (0, [.ref (fa 0), .ref (fa 1), .ref (fa 2), .ref (fa 3), .ref (fa 4), .ref (fa 5), .ref (fa 6), .ref (fa 7), .ref (fa 8), .int 0, .int 0, .int 0]))]) (wr := []) [.int 1] [0, 1] [] ⟨hx, hb, hml, hown, hts⟩ (fun sz => c_X5_searchKind l dC dI cI cV cJ cL P F G T za fa ia 0 0 1 sz) q_ml_X5_220 q_im_X5_searchKind q_se_X5_searchKind q_ini_X5 q_co_X5_searchKind (n := 1) (by decide +kernel) rfl ⟨rfl, rfl⟩ ⟨Nat.le_of_ble_eq_true rfl, Nat.le_of_ble_eq_true rfl⟩ hP hD hS hA hK hN rfl rfl (by decide) (by decide) (by decide) rfl rfl rfl hl.1 rfl (Nat.le_of_ble_eq_true rfl) dX5_improve_45 ⟨Nat.le_of_ble_eq_true rfl, Nat.le_of_ble_eq_true rfl⟩ (fun u_8 H locs hu_8 hP hD hS => ?_)
      have hP : va_P (dC, dI) cls [(P, .inr (5, [.ref F, .ref G, .ref T, .ref za, .ref (ia 0), .ref (ia 1), .ref (ia 2), .int 0, .int 0])), (F, .inr (0, [.ref (fa 0), .ref (fa 1), .ref (fa 2), .ref (fa 3), .ref (fa 4), .ref (fa 5), .ref (fa 6), .ref (fa 7), .ref (fa 8), .int 0, .int 0, .int 0]))] H := hP
      have hD : va_D A [(P, .inr (5, [.ref F, .ref G, .ref T, .ref za, .ref (ia 0), .ref (ia 1), .ref (ia 2), .int 0, .int 0])), (F, .inr (0, [.ref (fa 0), .ref (fa 1), .ref (fa 2), .ref (fa 3), .ref (fa 4), .ref (fa 5), .ref (fa 6), .ref (fa 7), .ref (fa 8), .int 0, .int 0, .int 0]))] := hD
      refine lv_iinc (v := 2) (lv' := [(4, .int 2), (3, .int 0), (2, .int 0), (0, .ref P), (1, .int p0)]) hx hb dX5_improve_48 hl (k := 0) rfl (by decide) (by decide) rfl (fun ls hl => ?_)
      refine lv_goto (tgt := 36) hx hb dX5_improve_51 (by decide) ?_
      refine lv_iload hx hb dX5_improve_36 (lv_at hl 0 rfl) ?_
      refine lv_iconst (v := 4) hx hb dX5_improve_38 (by decide) ?_
      refine lv_icmp_ge (tgt := 54) hx hb dX5_improve_39 (by decide) (fun c_9 => ?_) (fun c_9 => ?_)
      · first | exact absurd c_9 (by decide) | exact absurd (by decide) c_9
      refine lv_aload_n hx hb dX5_improve_42 rfl (lv_at hl 3 rfl) ?_
      refine lv_iload hx hb dX5_improve_43 (lv_at hl 0 rfl) ?_
      refine n_Vv (ci := 5) (q0 := 0) (wc := [(P, .inr (5, [.ref F, .ref G, .ref T, .ref za, .ref (ia 0), .ref (ia 1), .ref (ia 2), .int 0, .int 0])), (F, .inr (0, [.ref (fa 0), .ref (fa 1), .ref (fa 2), .ref (fa 3), .ref (fa 4), .ref (fa 5), .ref (fa 6), .ref (fa 7), .ref (fa 8), .int 0, .int 0, .int 0]))]) (wr := []) [.int 2] [0, 1] [] ⟨hx, hb, hml, hown, hts⟩ (fun sz => c_X5_searchKind l dC dI cI cV cJ cL P F G T za fa ia 0 0 2 sz) q_ml_X5_220 q_im_X5_searchKind q_se_X5_searchKind q_ini_X5 q_co_X5_searchKind (n := 1) (by decide +kernel) rfl ⟨rfl, rfl⟩ ⟨Nat.le_of_ble_eq_true rfl, Nat.le_of_ble_eq_true rfl⟩ hP hD hS hA hK hN rfl rfl (by decide) (by decide) (by decide) rfl rfl rfl hl.1 rfl (Nat.le_of_ble_eq_true rfl) dX5_improve_45 ⟨Nat.le_of_ble_eq_true rfl, Nat.le_of_ble_eq_true rfl⟩ (fun u_10 H locs hu_10 hP hD hS => ?_)
      have hP : va_P (dC, dI) cls [(P, .inr (5, [.ref F, .ref G, .ref T, .ref za, .ref (ia 0), .ref (ia 1), .ref (ia 2), .int 0, .int 0])), (F, .inr (0, [.ref (fa 0), .ref (fa 1), .ref (fa 2), .ref (fa 3), .ref (fa 4), .ref (fa 5), .ref (fa 6), .ref (fa 7), .ref (fa 8), .int 0, .int 0, .int 0]))] H := hP
      have hD : va_D A [(P, .inr (5, [.ref F, .ref G, .ref T, .ref za, .ref (ia 0), .ref (ia 1), .ref (ia 2), .int 0, .int 0])), (F, .inr (0, [.ref (fa 0), .ref (fa 1), .ref (fa 2), .ref (fa 3), .ref (fa 4), .ref (fa 5), .ref (fa 6), .ref (fa 7), .ref (fa 8), .int 0, .int 0, .int 0]))] := hD
      refine lv_iinc (v := 3) (lv' := [(4, .int 3), (3, .int 0), (2, .int 0), (0, .ref P), (1, .int p0)]) hx hb dX5_improve_48 hl (k := 0) rfl (by decide) (by decide) rfl (fun ls hl => ?_)
      refine lv_goto (tgt := 36) hx hb dX5_improve_51 (by decide) ?_
      refine lv_iload hx hb dX5_improve_36 (lv_at hl 0 rfl) ?_
      refine lv_iconst (v := 4) hx hb dX5_improve_38 (by decide) ?_
      refine lv_icmp_ge (tgt := 54) hx hb dX5_improve_39 (by decide) (fun c_11 => ?_) (fun c_11 => ?_)
      · first | exact absurd c_11 (by decide) | exact absurd (by decide) c_11
      refine lv_aload_n hx hb dX5_improve_42 rfl (lv_at hl 3 rfl) ?_
      refine lv_iload hx hb dX5_improve_43 (lv_at hl 0 rfl) ?_
      refine n_Vv (ci := 5) (q0 := 0) (wc := [(P, .inr (5, [.ref F, .ref G, .ref T, .ref za, .ref (ia 0), .ref (ia 1), .ref (ia 2), .int 0, .int 0])), (F, .inr (0, [.ref (fa 0), .ref (fa 1), .ref (fa 2), .ref (fa 3), .ref (fa 4), .ref (fa 5), .ref (fa 6), .ref (fa 7), .ref (fa 8), .int 0, .int 0, .int 0]))]) (wr := []) [.int 3] [0, 1] [] ⟨hx, hb, hml, hown, hts⟩ (fun sz => c_X5_searchKind l dC dI cI cV cJ cL P F G T za fa ia 0 0 3 sz) q_ml_X5_220 q_im_X5_searchKind q_se_X5_searchKind q_ini_X5 q_co_X5_searchKind (n := 1) (by decide +kernel) rfl ⟨rfl, rfl⟩ ⟨Nat.le_of_ble_eq_true rfl, Nat.le_of_ble_eq_true rfl⟩ hP hD hS hA hK hN rfl rfl (by decide) (by decide) (by decide) rfl rfl rfl hl.1 rfl (Nat.le_of_ble_eq_true rfl) dX5_improve_45 ⟨Nat.le_of_ble_eq_true rfl, Nat.le_of_ble_eq_true rfl⟩ (fun u_12 H locs hu_12 hP hD hS => ?_)
      have hP : va_P (dC, dI) cls [(P, .inr (5, [.ref F, .ref G, .ref T, .ref za, .ref (ia 0), .ref (ia 1), .ref (ia 2), .int 0, .int 0])), (F, .inr (0, [.ref (fa 0), .ref (fa 1), .ref (fa 2), .ref (fa 3), .ref (fa 4), .ref (fa 5), .ref (fa 6), .ref (fa 7), .ref (fa 8), .int 0, .int 0, .int 0]))] H := hP
      have hD : va_D A [(P, .inr (5, [.ref F, .ref G, .ref T, .ref za, .ref (ia 0), .ref (ia 1), .ref (ia 2), .int 0, .int 0])), (F, .inr (0, [.ref (fa 0), .ref (fa 1), .ref (fa 2), .ref (fa 3), .ref (fa 4), .ref (fa 5), .ref (fa 6), .ref (fa 7), .ref (fa 8), .int 0, .int 0, .int 0]))] := hD
      refine lv_iinc (v := 4) (lv' := [(4, .int 4), (3, .int 0), (2, .int 0), (0, .ref P), (1, .int p0)]) hx hb dX5_improve_48 hl (k := 0) rfl (by decide) (by decide) rfl (fun ls hl => ?_)
      refine lv_goto (tgt := 36) hx hb dX5_improve_51 (by decide) ?_
      refine lv_iload hx hb dX5_improve_36 (lv_at hl 0 rfl) ?_
      refine lv_iconst (v := 4) hx hb dX5_improve_38 (by decide) ?_
      refine lv_icmp_ge (tgt := 54) hx hb dX5_improve_39 (by decide) (fun c_13 => ?_) (fun c_13 => ?_)
      rotate_left
      · first | exact absurd c_13 (by decide) | exact absurd (by decide) c_13
      refine lv_aload_n hx hb dX5_improve_54 rfl (lv_at hl 3 rfl) ?_
      refine va_get (D := (dC, dI)) (ci := 5) (v := .int 0) (C := RX5) (T := TX5) (N := 9) hx hb hts (fun w h => tb_in (inX5 w h)) hown hK hP 0 rfl rfl 8 (by decide) (hts _ (tb_in q_fl_X5_226)) (fun _ h9 => h9) rfl dX5_improve_55 ?_
      refine lv_if_ne (tgt := 64) hx hb dX5_improve_58 (by decide) (fun c_14 => ?_) (fun c_14 => ?_)
      · first | exact absurd c_14 (by decide) | exact absurd (by decide) c_14
      refine lv_goto (tgt := 81) hx hb dX5_improve_61 (by decide) ?_
      refine lv_iload_n hx hb dX5_improve_81 rfl (lv_at hl 2 rfl) ?_
      refine k_wid (k := 1) (n := 6) (Nat.le_of_ble_eq_true rfl) (Nat.le_of_ble_eq_true rfl) (vx_ret ?_)
      have hP := hP.sub (ws' := []) [] rfl
      have hD := hD.sub (ws' := []) [] (by decide) rfl
      have hP9 := hP
      have hD9 := hD
      exact W.iret (v := 0) hx hb hr (fun t9 ht9 hW9 => ⟨⟨_, (), rfl, ⟨(show outF p0 1 10 = false from cz0 c_2), rfl⟩, by rw [ht9]; exact hP9, va_K.moved hW9.alike hK, hD9⟩, hS.F ht9⟩) hS.2.2 dX5_improve_82
  · exact k_tha ⟨hx, hb, hml, hown, hts⟩ hlT hXs hZs hS 229 "most is 1 to 10" (by decide) hl.1 dX5_improve_10 dX5_improve_13 dX5_improve_14 dX5_improve_16 dX5_improve_19 htb ⟨by decide, by decide, Nat.le_of_ble_eq_true rfl, Nat.le_of_ble_eq_true rfl⟩ hlocks (fun t8 h0 h1 h2 => ⟨("java/lang/IllegalArgumentException", ()), ⟨rfl, (show outF p0 1 10 = true from cz1 c_2)⟩, ⟨rfl, hP.kept (fun k q hk => h2 q.1 (hP k q hk).lt), va_K.moved h0 hK, hD⟩, ⟨Nat.le_trans hS.1 h1, fun q p1 p2 => (h2 q (Nat.lt_of_lt_of_le p1 hS.1)).trans (hS.2.1 q p1 p2)⟩⟩) hS.2.2 ⟨Nat.le_of_ble_eq_true rfl, Nat.le_of_ble_eq_true rfl⟩
set_option maxHeartbeats 4000000 in
set_option maxRecDepth 100000 in
theorem c_X5_advance (l : Launch) (hlT : l.stackTraces = false) (dC : Nat → ClassId) (dI : Nat → Nat → Nat) (cI cV cJ cL : ClassId) (P F G T za : Nat) (fa ia : Nat → Nat) (bg ck : Int32) (p0 : Int32) (sz : Nat) : vx_Met l yX5_advance (Cond.code yX5_advance cX5_advance 5 (some .int) :: TB) ({ frames := 12, cells := 1, slots := 6, locals := 500 } : Room) (PXw [.ref P, .int p0] (dC, dI) [(P, .inr (5, [.ref F, .ref G, .ref T, .ref za, .ref (ia 0), .ref (ia 1), .ref (ia 2), .int 0, .int bg])), (F, .inr (0, [.ref (fa 0), .ref (fa 1), .ref (fa 2), .ref (fa 3), .ref (fa 4), .ref (fa 5), .ref (fa 6), .ref (fa 7), .ref (fa 8), .int 0, .int 0, .int 0]))] (TYP cI cV cJ cL) sz) (va_Qi (fun (r : Int32) (_ : Unit) => outF p0 1 1440 = false ∧ r = 0) (QB (dC, dI) (fun (_ : Unit) => []) (TYP cI cV cJ cL) (va_A [(P, .inr (5, [.ref F, .ref G, .ref T, .ref za, .ref (ia 0), .ref (ia 1), .ref (ia 2), .int 0, .int bg])), (F, .inr (0, [.ref (fa 0), .ref (fa 1), .ref (fa 2), .ref (fa 3), .ref (fa 4), .ref (fa 5), .ref (fa 6), .ref (fa 7), .ref (fa 8), .int 0, .int 0, .int 0]))] sz)) (va_A [(P, .inr (5, [.ref F, .ref G, .ref T, .ref za, .ref (ia 0), .ref (ia 1), .ref (ia 2), .int 0, .int bg])), (F, .inr (0, [.ref (fa 0), .ref (fa 1), .ref (fa 2), .ref (fa 3), .ref (fa 4), .ref (fa 5), .ref (fa 6), .ref (fa 7), .ref (fa 8), .int 0, .int 0, .int 0]))] sz)) (vx_X (fun (q : String × Unit) => q.1 = "java/lang/IllegalArgumentException" ∧ outF p0 1 1440 = true) (fun E (u : String × Unit) t8 => E = u.1 ∧ QB (dC, dI) (fun (_ : Unit) => [(P, .inr (5, [.ref F, .ref G, .ref T, .ref za, .ref (ia 0), .ref (ia 1), .ref (ia 2), .int 0, .int bg])), (F, .inr (0, [.ref (fa 0), .ref (fa 1), .ref (fa 2), .ref (fa 3), .ref (fa 4), .ref (fa 5), .ref (fa 6), .ref (fa 7), .ref (fa 8), .int 0, .int 0, .int 0]))]) (TYP cI cV cJ cL) (va_A [(P, .inr (5, [.ref F, .ref G, .ref T, .ref za, .ref (ia 0), .ref (ia 1), .ref (ia 2), .int 0, .int bg])), (F, .inr (0, [.ref (fa 0), .ref (fa 1), .ref (fa 2), .ref (fa 3), .ref (fa 4), .ref (fa 5), .ref (fa 6), .ref (fa 7), .ref (fa 8), .int 0, .int 0, .int 0]))] sz) u.2 t8) (va_A [(P, .inr (5, [.ref F, .ref G, .ref T, .ref za, .ref (ia 0), .ref (ia 1), .ref (ia 2), .int 0, .int bg])), (F, .inr (0, [.ref (fa 0), .ref (fa 1), .ref (fa 2), .ref (fa 3), .ref (fa 4), .ref (fa 5), .ref (fa 6), .ref (fa 7), .ref (fa 8), .int 0, .int 0, .int 0]))] sz)) 1 6 (va_A [(P, .inr (5, [.ref F, .ref G, .ref T, .ref za, .ref (ia 0), .ref (ia 1), .ref (ia 2), .int 0, .int bg])), (F, .inr (0, [.ref (fa 0), .ref (fa 1), .ref (fa 2), .ref (fa 3), .ref (fa 4), .ref (fa 5), .ref (fa 6), .ref (fa 7), .ref (fa 8), .int 0, .int 0, .int 0]))] sz) := by
  refine vx_ofW (cc := cX5_advance) (maxL := 5) (ret := (some .int)) (by decide) rfl ?_
  intro p e s m args below meth c s₁ B hml htb hv
  obtain ⟨rfl, hsz, hP, hK, hD0, hN, hXs, hZs⟩ := hv
  have hx := B.exec
  have hb := B.bytes
  have hr := B.returns
  have hts := atoms_spec (ws := (Cond.code yX5_advance cX5_advance 5 (some .int) :: TB)) B.pre
  have hown : s.vm.findClass RX5 = some m.cls := findClass_of_methodNamed B.named
  have hlocks := B.notSynchronized
  subst hsz
  have hD := hD0.self (sz := s.heap.size)
  generalize hAe : va_A [(P, .inr (5, [.ref F, .ref G, .ref T, .ref za, .ref (ia 0), .ref (ia 1), .ref (ia 2), .int 0, .int bg])), (F, .inr (0, [.ref (fa 0), .ref (fa 1), .ref (fa 2), .ref (fa 3), .ref (fa 4), .ref (fa 5), .ref (fa 6), .ref (fa 7), .ref (fa 8), .int 0, .int 0, .int 0]))] s.heap.size = A at hD hZs ⊢
  have hA : ∀ q : Nat, s.heap.size ≤ q → A q := fun q h => by rw [← hAe]; exact Or.inr h
  have hS : va_S A s.heap s.heap [] := va_S.rf
  have hl := lv_entry ([.ref P, .int p0]) (n := 5) (Nat.le_of_ble_eq_true rfl)
  rw [lg_entry_eq]
  generalize (lg_sl ([.ref P, .int p0]) ++ List.replicate (5 - (lg_sl ([.ref P, .int p0])).length) Slot.unset).toArray = ls at hl ⊢
  have hl : lv_has ls 5 [(0, .ref P), (1, .int p0)] := hl
  refine lv_iload_n hx hb dX5_advance_0 rfl (lv_at hl 1 rfl) ?_
  refine lv_iconst (v := 1) hx hb dX5_advance_1 (by decide) ?_
  refine lv_sipush (v := 1440) hx hb dX5_advance_2 (by decide) ?_
  refine k_Ti [.int p0, .int 1, .int 1440] ⟨hx, hb, hml, hown, hts⟩ (c_X5_isOutside l p0 1 1440) q_ml_X5_50 q_st_X5_isOutside q_ini_X5 q_co_X5_isOutside (n := 3) (by decide +kernel) rfl ⟨rfl, rfl⟩ ⟨Nat.le_of_ble_eq_true rfl, Nat.le_of_ble_eq_true rfl⟩ hl.1 rfl (Nat.le_of_ble_eq_true rfl) dX5_advance_5 ⟨Nat.le_of_ble_eq_true rfl, Nat.le_of_ble_eq_true rfl⟩ (fun r_1 hr_1 => ?_)
  subst hr_1
  refine lv_if_eq (tgt := 21) hx hb dX5_advance_8 (by decide) (fun c_2 => ?_) (fun c_2 => ?_)
  · refine lv_aload_n hx hb dX5_advance_21 rfl (lv_at hl 0 rfl) ?_
    refine va_get (D := (dC, dI)) (ci := 5) (v := .ref F) (C := RX5) (T := TX5) (N := 9) hx hb hts (fun w h => tb_in (inX5 w h)) hown hK hP 0 rfl rfl 0 (by decide) (hts _ (tb_in q_fl_X5_12)) (fun _ h9 => h9) rfl dX5_advance_22 ?_
    refine va_get (D := (dC, dI)) (ci := 0) (v := .int 0) (C := RX0) (T := TX0) (N := 12) hx hb hts (fun w h => tb_in (inX0 w h)) hown hK hP 1 rfl rfl 11 (by decide) (hts _ (tb_in q_fl_X5_241)) (fun _ h9 => h9) rfl dX5_advance_25 ?_
    refine lv_iload_n hx hb dX5_advance_28 rfl (lv_at hl 1 rfl) ?_
    refine lv_iadd hx hb dX5_advance_29 ?_
    refine k_st1 (y := p0) (Int32.zero_add p0) ?_
    refine lv_sipush (v := 1440) hx hb dX5_advance_30 (by decide) ?_
    refine lv_icmp_gt (tgt := 43) hx hb dX5_advance_33 (by decide) (fun c_3 => ?_) (fun c_3 => ?_)
    · exact absurd c_3 (z_top (show outF p0 1 1440 = false from cz0 c_2))
    · refine lv_aload_n hx hb dX5_advance_36 rfl (lv_at hl 0 rfl) ?_
      refine n_Vz (ci := 5) (q0 := 0) (wc := [(P, .inr (5, [.ref F, .ref G, .ref T, .ref za, .ref (ia 0), .ref (ia 1), .ref (ia 2), .int 0, .int bg])), (F, .inr (0, [.ref (fa 0), .ref (fa 1), .ref (fa 2), .ref (fa 3), .ref (fa 4), .ref (fa 5), .ref (fa 6), .ref (fa 7), .ref (fa 8), .int 0, .int 0, .int 0]))]) (wr := []) [] [0, 1] [] ⟨hx, hb, hml, hown, hts⟩ (fun sz => c_X5_areAllRight l dC dI cI cV cJ cL P F G T za fa ia bg 0  sz) q_ml_X5_140 q_im_X5_areAllRight q_se_X5_areAllRight q_ini_X5 q_co_X5_areAllRight (n := 0) (by decide +kernel) rfl ⟨rfl, rfl⟩ ⟨Nat.le_of_ble_eq_true rfl, Nat.le_of_ble_eq_true rfl⟩ hP hD hS hA hK hN rfl rfl (by decide) (by decide) (by decide) rfl rfl rfl hl.1 rfl (Nat.le_of_ble_eq_true rfl) dX5_advance_37 ⟨Nat.le_of_ble_eq_true rfl, Nat.le_of_ble_eq_true rfl⟩ (fun r_5 u_4 H locs hu_4 hP hD hS => ?_)
      have hP : va_P (dC, dI) cls [(P, .inr (5, [.ref F, .ref G, .ref T, .ref za, .ref (ia 0), .ref (ia 1), .ref (ia 2), .int 0, .int bg])), (F, .inr (0, [.ref (fa 0), .ref (fa 1), .ref (fa 2), .ref (fa 3), .ref (fa 4), .ref (fa 5), .ref (fa 6), .ref (fa 7), .ref (fa 8), .int 0, .int 0, .int 0]))] H := hP
      have hD : va_D A [(P, .inr (5, [.ref F, .ref G, .ref T, .ref za, .ref (ia 0), .ref (ia 1), .ref (ia 2), .int 0, .int bg])), (F, .inr (0, [.ref (fa 0), .ref (fa 1), .ref (fa 2), .ref (fa 3), .ref (fa 4), .ref (fa 5), .ref (fa 6), .ref (fa 7), .ref (fa 8), .int 0, .int 0, .int 0]))] := hD
      obtain rfl := hu_4
      refine lv_if_ne (tgt := 53) hx hb dX5_advance_40 (by decide) (fun c_6 => ?_) (fun c_6 => ?_)
      rotate_left
      · first | exact absurd c_6 (by decide) | exact absurd (by decide) c_6
      refine lv_aload_n hx hb dX5_advance_53 rfl (lv_at hl 0 rfl) ?_
      refine va_get (D := (dC, dI)) (ci := 5) (v := .ref F) (C := RX5) (T := TX5) (N := 9) hx hb hts (fun w h => tb_in (inX5 w h)) hown hK hP 0 rfl rfl 0 (by decide) (hts _ (tb_in q_fl_X5_12)) (fun _ h9 => h9) rfl dX5_advance_54 ?_
      refine lv_dup hx hb dX5_advance_57 rfl ?_
      refine va_get (D := (dC, dI)) (ci := 0) (v := .int 0) (C := RX0) (T := TX0) (N := 12) hx hb hts (fun w h => tb_in (inX0 w h)) hown hK hP 1 rfl rfl 11 (by decide) (hts _ (tb_in q_fl_X5_241)) (fun _ h9 => h9) rfl dX5_advance_58 ?_
      refine lv_iload_n hx hb dX5_advance_61 rfl (lv_at hl 1 rfl) ?_
      refine lv_iadd hx hb dX5_advance_62 ?_
      refine k_st1 (y := p0) (Int32.zero_add p0) ?_
      refine va_put (D := (dC, dI)) (ci := 0) (v := .int p0) (ty := .int) (C := RX0) (T := TX0) (N := 12) hx hb hts (fun w h => tb_in (inX0 w h)) tyX0 tyX0_ok nmX0 hown hK hP hD hS 1 rfl rfl 11 (by decide) (hts _ (tb_in q_fl_X5_241)) (fun _ h9 => h9) rfl (by decide +kernel) rfl rfl (Nat.le_of_ble_eq_true rfl) dX5_advance_63 (fun H locs hP hD hS => ?_)
      have hP : va_P (dC, dI) cls [(P, .inr (5, [.ref F, .ref G, .ref T, .ref za, .ref (ia 0), .ref (ia 1), .ref (ia 2), .int 0, .int bg])), (F, .inr (0, [.ref (fa 0), .ref (fa 1), .ref (fa 2), .ref (fa 3), .ref (fa 4), .ref (fa 5), .ref (fa 6), .ref (fa 7), .ref (fa 8), .int 0, .int 0, .int p0]))] H := hP
      have hD : va_D A [(P, .inr (5, [.ref F, .ref G, .ref T, .ref za, .ref (ia 0), .ref (ia 1), .ref (ia 2), .int 0, .int bg])), (F, .inr (0, [.ref (fa 0), .ref (fa 1), .ref (fa 2), .ref (fa 3), .ref (fa 4), .ref (fa 5), .ref (fa 6), .ref (fa 7), .ref (fa 8), .int 0, .int 0, .int p0]))] := hD
      refine lv_iconst (v := 0) hx hb dX5_advance_66 (by decide) ?_
      refine lv_istore_n (lv' := [(2, .int 0), (0, .ref P), (1, .int p0)]) hx hb dX5_advance_67 rfl hl (by decide) rfl (fun ls hl => ?_)
      refine lv_iconst (v := 0) hx hb dX5_advance_68 (by decide) ?_
      refine lv_istore_n (lv' := [(3, .int 0), (2, .int 0), (0, .ref P), (1, .int p0)]) hx hb dX5_advance_69 rfl hl (by decide) rfl (fun ls hl => ?_)
      refine lv_iload_n hx hb dX5_advance_70 rfl (lv_at hl 0 rfl) ?_
      refine lv_aload_n hx hb dX5_advance_71 rfl (lv_at hl 2 rfl) ?_
      refine va_get (D := (dC, dI)) (ci := 5) (v := .int 0) (C := RX5) (T := TX5) (N := 9) hx hb hts (fun w h => tb_in (inX5 w h)) hown hK hP 0 rfl rfl 7 (by decide) (hts _ (tb_in q_fl_X5_86)) (fun _ h9 => h9) rfl dX5_advance_72 ?_
      refine lv_icmp_ge (tgt := 139) hx hb dX5_advance_75 (by decide) (fun c_7 => ?_) (fun c_7 => ?_)
      rotate_left
      · first | exact absurd c_7 (by decide) | exact absurd (by decide) c_7
      refine lv_iload_n hx hb dX5_advance_139 rfl (lv_at hl 1 rfl) ?_
      refine k_wid (k := 1) (n := 6) (Nat.le_of_ble_eq_true rfl) (Nat.le_of_ble_eq_true rfl) (vx_ret ?_)
      have hP := hP.sub (ws' := []) [] rfl
      have hD := hD.sub (ws' := []) [] (by decide) rfl
      have hP9 := hP
      have hD9 := hD
      exact W.iret (v := 0) hx hb hr (fun t9 ht9 hW9 => ⟨⟨_, (), rfl, ⟨(show outF p0 1 1440 = false from cz0 c_2), rfl⟩, by rw [ht9]; exact hP9, va_K.moved hW9.alike hK, hD9⟩, hS.F ht9⟩) hS.2.2 dX5_advance_140
  · exact k_tha ⟨hx, hb, hml, hown, hts⟩ hlT hXs hZs hS 239 "minutes is 1 to 1440" (by decide) hl.1 dX5_advance_11 dX5_advance_14 dX5_advance_15 dX5_advance_17 dX5_advance_20 htb ⟨by decide, by decide, Nat.le_of_ble_eq_true rfl, Nat.le_of_ble_eq_true rfl⟩ hlocks (fun t8 h0 h1 h2 => ⟨("java/lang/IllegalArgumentException", ()), ⟨rfl, (show outF p0 1 1440 = true from cz1 c_2)⟩, ⟨rfl, hP.kept (fun k q hk => h2 q.1 (hP k q hk).lt), va_K.moved h0 hK, hD⟩, ⟨Nat.le_trans hS.1 h1, fun q p1 p2 => (h2 q (Nat.lt_of_lt_of_le p1 hS.1)).trans (hS.2.1 q p1 p2)⟩⟩) hS.2.2 ⟨Nat.le_of_ble_eq_true rfl, Nat.le_of_ble_eq_true rfl⟩
