set_option maxHeartbeats 4000000 in
set_option maxRecDepth 100000 in
theorem h_addVehicle (l : Launch) (hlT : l.stackTraces = false) (dC : Nat → ClassId) (dI : Nat → Nat → Nat) (cI cV cJ cL : ClassId) (P F G T za : Nat) (fa ia : Nat → Nat) (O : Nat) (g : Nat → Int64) (p0 p1 p2 p3 p4 p5 : Int32) (sz : Nat) : vx_Met l yL_addVehicle (Cond.codeWith yL_addVehicle cL_addVehicle 9 (some .int) [(0, 18, 21, 21), (0, 18, 25, 13), (0, 18, 29, 15)] :: TB) ({ frames := 24, cells := 1, slots := 6, locals := 1200 } : Room) (PXw [.ref P, .int p0, .int p1, .int p2, .int p3, .int p4, .int p5, .ref O] (dC, dI) [(P, .inr (5, [.ref F, .ref G, .ref T, .ref za, .ref (ia 0), .ref (ia 1), .ref (ia 2), .int 0, .int 0])), (F, .inr (0, [.ref (fa 0), .ref (fa 1), .ref (fa 2), .ref (fa 3), .ref (fa 4), .ref (fa 5), .ref (fa 6), .ref (fa 7), .ref (fa 8), .int 0, .int 0, .int 0])), (O, .inl (cL, 1, .inr (.inl g)))] (TYP cI cV cJ cL) sz) (va_Qi (fun (r : Int32) (g : Nat → Int64) => r = 1 ∧ (1 = 0 → g 0 = 0)) (QB (dC, dI) (fun (g : Nat → Int64) => [(O, .inl (cL, 1, .inr (.inl g)))]) (TYP cI cV cJ cL) (va_A [(P, .inr (5, [.ref F, .ref G, .ref T, .ref za, .ref (ia 0), .ref (ia 1), .ref (ia 2), .int 0, .int 0])), (F, .inr (0, [.ref (fa 0), .ref (fa 1), .ref (fa 2), .ref (fa 3), .ref (fa 4), .ref (fa 5), .ref (fa 6), .ref (fa 7), .ref (fa 8), .int 0, .int 0, .int 0])), (O, .inl (cL, 1, .inr (.inl g)))] sz)) (va_A [(P, .inr (5, [.ref F, .ref G, .ref T, .ref za, .ref (ia 0), .ref (ia 1), .ref (ia 2), .int 0, .int 0])), (F, .inr (0, [.ref (fa 0), .ref (fa 1), .ref (fa 2), .ref (fa 3), .ref (fa 4), .ref (fa 5), .ref (fa 6), .ref (fa 7), .ref (fa 8), .int 0, .int 0, .int 0])), (O, .inl (cL, 1, .inr (.inl g)))] sz)) (vx_X (fun _ : Unit => False) (fun _ _ _ => True) (va_A [(P, .inr (5, [.ref F, .ref G, .ref T, .ref za, .ref (ia 0), .ref (ia 1), .ref (ia 2), .int 0, .int 0])), (F, .inr (0, [.ref (fa 0), .ref (fa 1), .ref (fa 2), .ref (fa 3), .ref (fa 4), .ref (fa 5), .ref (fa 6), .ref (fa 7), .ref (fa 8), .int 0, .int 0, .int 0])), (O, .inl (cL, 1, .inr (.inl g)))] sz)) 1 6 (va_A [(P, .inr (5, [.ref F, .ref G, .ref T, .ref za, .ref (ia 0), .ref (ia 1), .ref (ia 2), .int 0, .int 0])), (F, .inr (0, [.ref (fa 0), .ref (fa 1), .ref (fa 2), .ref (fa 3), .ref (fa 4), .ref (fa 5), .ref (fa 6), .ref (fa 7), .ref (fa 8), .int 0, .int 0, .int 0])), (O, .inl (cL, 1, .inr (.inl g)))] sz) := by
  refine vx_ofWH (cc := cL_addVehicle) (maxL := 9) (ret := (some .int)) (hh := [(0, 18, 21, 21), (0, 18, 25, 13), (0, 18, 29, 15)]) (by decide) rfl ?_
  intro p e s m args below meth c s₁ B hml hv
  obtain ⟨rfl, hsz, hP, hK, hD0, hN, hXs, hZs⟩ := hv
  have hx := B.exec
  have hb := B.bytes
  have hr := B.returns
  have hts := atoms_spec (ws := (Cond.codeWith yL_addVehicle cL_addVehicle 9 (some .int) [(0, 18, 21, 21), (0, 18, 25, 13), (0, 18, 29, 15)] :: TB)) B.pre
  have hown : s.vm.findClass RL = some m.cls := findClass_of_methodNamed B.named
  have hlocks := B.notSynchronized
  have ht9 := vx_table (x := yL_addVehicle) B (hts _ List.mem_cons_self)
  subst hsz
  have hD := hD0.self (sz := s.heap.size)
  generalize hAe : va_A [(P, .inr (5, [.ref F, .ref G, .ref T, .ref za, .ref (ia 0), .ref (ia 1), .ref (ia 2), .int 0, .int 0])), (F, .inr (0, [.ref (fa 0), .ref (fa 1), .ref (fa 2), .ref (fa 3), .ref (fa 4), .ref (fa 5), .ref (fa 6), .ref (fa 7), .ref (fa 8), .int 0, .int 0, .int 0])), (O, .inl (cL, 1, .inr (.inl g)))] s.heap.size = A at hD hZs ⊢
  have hA : ∀ q : Nat, s.heap.size ≤ q → A q := fun q h => by rw [← hAe]; exact Or.inr h
  have hS : va_S A s.heap s.heap [] := va_S.rf
  have hl := lv_entry ([.ref P, .int p0, .int p1, .int p2, .int p3, .int p4, .int p5, .ref O]) (n := 9) (Nat.le_of_ble_eq_true rfl)
  rw [lg_entry_eq]
  generalize (lg_sl ([.ref P, .int p0, .int p1, .int p2, .int p3, .int p4, .int p5, .ref O]) ++ List.replicate (9 - (lg_sl ([.ref P, .int p0, .int p1, .int p2, .int p3, .int p4, .int p5, .ref O])).length) Slot.unset).toArray = ls at hl ⊢
  have hl : lv_has ls 9 [(0, .ref P), (1, .int p0), (2, .int p1), (3, .int p2), (4, .int p3), (5, .int p4), (6, .int p5), (7, .ref O)] := hl
  refine lv_aload hx hb dL_addVehicle_0 (lv_at hl 7 rfl) ?_
  refine lv_iconst (v := 0) hx hb dL_addVehicle_2 (by decide) ?_
  refine lv_aload_n hx hb dL_addVehicle_3 rfl (lv_at hl 0 rfl) ?_
  refine lv_iload_n hx hb dL_addVehicle_4 rfl (lv_at hl 1 rfl) ?_
  refine lv_iload_n hx hb dL_addVehicle_5 rfl (lv_at hl 2 rfl) ?_
  refine lv_iload_n hx hb dL_addVehicle_6 rfl (lv_at hl 3 rfl) ?_
  refine lv_iload hx hb dL_addVehicle_7 (lv_at hl 4 rfl) ?_
  refine lv_iload hx hb dL_addVehicle_9 (lv_at hl 5 rfl) ?_
  refine lv_iload hx hb dL_addVehicle_11 (lv_at hl 6 rfl) ?_
  refine x_Vi (ci := 5) (q0 := 0) (wc := [(P, .inr (5, [.ref F, .ref G, .ref T, .ref za, .ref (ia 0), .ref (ia 1), .ref (ia 2), .int 0, .int 0])), (F, .inr (0, [.ref (fa 0), .ref (fa 1), .ref (fa 2), .ref (fa 3), .ref (fa 4), .ref (fa 5), .ref (fa 6), .ref (fa 7), .ref (fa 8), .int 0, .int 0, .int 0]))]) (wr := [(O, .inl (cL, 1, .inr (.inl g)))]) [.int p0, .int p1, .int p2, .int p3, .int p4, .int p5] [0, 1] [2] ⟨hx, hb, hml, hown, hts⟩ (fun sz => c_X5_addVehicle l hlT dC dI cI cV cJ cL P F G T za fa ia 0 0 p0 p1 p2 p3 p4 p5 sz) q_ml_L_17 q_im_X5_addVehicle q_se_X5_addVehicle q_ini_X5 q_co_X5_addVehicle (n := 6) (by decide +kernel) rfl ⟨rfl, rfl⟩ ⟨Nat.le_of_ble_eq_true rfl, Nat.le_of_ble_eq_true rfl⟩ hP hD hS hA hK hN hXs hZs rfl rfl (by decide) (by decide) (by decide) rfl rfl rfl hl.1 rfl (Nat.le_of_ble_eq_true rfl) dL_addVehicle_13 ⟨Nat.le_of_ble_eq_true rfl, Nat.le_of_ble_eq_true rfl⟩ (fun E ce q9 H locs hpx hP hD hS hc1 hc2 hc3 => ?_) (fun r u9 H locs hpo hP hD hS => ?_)
  · obtain ⟨u9, hpx⟩ := hpx
    obtain rfl : E = "java/lang/IndexOutOfBoundsException" := hpx
    have hP : va_P (dC, dI) cls [(O, .inl (cL, 1, .inr (.inl g)))] H := hP
    have hD : va_D A [(O, .inl (cL, 1, .inr (.inl g)))] := hD
    refine vx_catch (name := "java/lang/IndexOutOfBoundsException") hown [] _ _ (ht9.trans rfl) (fun z hz => by cases hz) rfl (by decide) (hts _ (tb_in q_cl_L_21)) (va_Nw.use rfl hXs.1.2.2.2.2.2) hc1 hc2 hc3 ?_
    refine lv_astore (lv' := [(8, .ref q9), (0, .ref P), (1, .int p0), (2, .int p1), (3, .int p2), (4, .int p3), (5, .int p4), (6, .int p5), (7, .ref O)]) hx hb dL_addVehicle_21 hl (by decide) rfl (fun ls hl => ?_)
    refine lv_iconst (v := 1) hx hb dL_addVehicle_23 (by decide) ?_
    refine k_wid (k := 1) (n := 6) (Nat.le_of_ble_eq_true rfl) (Nat.le_of_ble_eq_true rfl) (vx_ret ?_)
    have hP9 := hP
    have hD9 := hD
    exact W.iret (v := 1) hx hb hr (fun t9 ht9 hW9 => ⟨⟨_, g, rfl, ⟨rfl, fun h => absurd h (by decide)⟩, by rw [ht9]; exact hP9, va_K.moved hW9.alike hK, hD9⟩, hS.F ht9⟩) hS.2.2 dL_addVehicle_24
  exact hpo.elim
set_option maxHeartbeats 4000000 in
set_option maxRecDepth 100000 in
theorem h_addJob (l : Launch) (hlT : l.stackTraces = false) (dC : Nat → ClassId) (dI : Nat → Nat → Nat) (cI cV cJ cL : ClassId) (P F G T za : Nat) (fa ia : Nat → Nat) (O : Nat) (g : Nat → Int64) (p0 p1 p2 p3 p4 : Int32) (sz : Nat) : vx_Met l yL_addJob (Cond.codeWith yL_addJob cL_addJob 8 (some .int) [(0, 16, 19, 21), (0, 16, 23, 13), (0, 16, 27, 15)] :: TB) ({ frames := 24, cells := 1, slots := 6, locals := 1200 } : Room) (PXw [.ref P, .int p0, .int p1, .int p2, .int p3, .int p4, .ref O] (dC, dI) [(P, .inr (5, [.ref F, .ref G, .ref T, .ref za, .ref (ia 0), .ref (ia 1), .ref (ia 2), .int 0, .int 0])), (F, .inr (0, [.ref (fa 0), .ref (fa 1), .ref (fa 2), .ref (fa 3), .ref (fa 4), .ref (fa 5), .ref (fa 6), .ref (fa 7), .ref (fa 8), .int 0, .int 0, .int 0])), (O, .inl (cL, 1, .inr (.inl g)))] (TYP cI cV cJ cL) sz) (va_Qi (fun (r : Int32) (g : Nat → Int64) => r = 1 ∧ (1 = 0 → g 0 = 0)) (QB (dC, dI) (fun (g : Nat → Int64) => [(O, .inl (cL, 1, .inr (.inl g)))]) (TYP cI cV cJ cL) (va_A [(P, .inr (5, [.ref F, .ref G, .ref T, .ref za, .ref (ia 0), .ref (ia 1), .ref (ia 2), .int 0, .int 0])), (F, .inr (0, [.ref (fa 0), .ref (fa 1), .ref (fa 2), .ref (fa 3), .ref (fa 4), .ref (fa 5), .ref (fa 6), .ref (fa 7), .ref (fa 8), .int 0, .int 0, .int 0])), (O, .inl (cL, 1, .inr (.inl g)))] sz)) (va_A [(P, .inr (5, [.ref F, .ref G, .ref T, .ref za, .ref (ia 0), .ref (ia 1), .ref (ia 2), .int 0, .int 0])), (F, .inr (0, [.ref (fa 0), .ref (fa 1), .ref (fa 2), .ref (fa 3), .ref (fa 4), .ref (fa 5), .ref (fa 6), .ref (fa 7), .ref (fa 8), .int 0, .int 0, .int 0])), (O, .inl (cL, 1, .inr (.inl g)))] sz)) (vx_X (fun _ : Unit => False) (fun _ _ _ => True) (va_A [(P, .inr (5, [.ref F, .ref G, .ref T, .ref za, .ref (ia 0), .ref (ia 1), .ref (ia 2), .int 0, .int 0])), (F, .inr (0, [.ref (fa 0), .ref (fa 1), .ref (fa 2), .ref (fa 3), .ref (fa 4), .ref (fa 5), .ref (fa 6), .ref (fa 7), .ref (fa 8), .int 0, .int 0, .int 0])), (O, .inl (cL, 1, .inr (.inl g)))] sz)) 1 6 (va_A [(P, .inr (5, [.ref F, .ref G, .ref T, .ref za, .ref (ia 0), .ref (ia 1), .ref (ia 2), .int 0, .int 0])), (F, .inr (0, [.ref (fa 0), .ref (fa 1), .ref (fa 2), .ref (fa 3), .ref (fa 4), .ref (fa 5), .ref (fa 6), .ref (fa 7), .ref (fa 8), .int 0, .int 0, .int 0])), (O, .inl (cL, 1, .inr (.inl g)))] sz) := by
  refine vx_ofWH (cc := cL_addJob) (maxL := 8) (ret := (some .int)) (hh := [(0, 16, 19, 21), (0, 16, 23, 13), (0, 16, 27, 15)]) (by decide) rfl ?_
  intro p e s m args below meth c s₁ B hml hv
  obtain ⟨rfl, hsz, hP, hK, hD0, hN, hXs, hZs⟩ := hv
  have hx := B.exec
  have hb := B.bytes
  have hr := B.returns
  have hts := atoms_spec (ws := (Cond.codeWith yL_addJob cL_addJob 8 (some .int) [(0, 16, 19, 21), (0, 16, 23, 13), (0, 16, 27, 15)] :: TB)) B.pre
  have hown : s.vm.findClass RL = some m.cls := findClass_of_methodNamed B.named
  have hlocks := B.notSynchronized
  have ht9 := vx_table (x := yL_addJob) B (hts _ List.mem_cons_self)
  subst hsz
  have hD := hD0.self (sz := s.heap.size)
  generalize hAe : va_A [(P, .inr (5, [.ref F, .ref G, .ref T, .ref za, .ref (ia 0), .ref (ia 1), .ref (ia 2), .int 0, .int 0])), (F, .inr (0, [.ref (fa 0), .ref (fa 1), .ref (fa 2), .ref (fa 3), .ref (fa 4), .ref (fa 5), .ref (fa 6), .ref (fa 7), .ref (fa 8), .int 0, .int 0, .int 0])), (O, .inl (cL, 1, .inr (.inl g)))] s.heap.size = A at hD hZs ⊢
  have hA : ∀ q : Nat, s.heap.size ≤ q → A q := fun q h => by rw [← hAe]; exact Or.inr h
  have hS : va_S A s.heap s.heap [] := va_S.rf
  have hl := lv_entry ([.ref P, .int p0, .int p1, .int p2, .int p3, .int p4, .ref O]) (n := 8) (Nat.le_of_ble_eq_true rfl)
  rw [lg_entry_eq]
  generalize (lg_sl ([.ref P, .int p0, .int p1, .int p2, .int p3, .int p4, .ref O]) ++ List.replicate (8 - (lg_sl ([.ref P, .int p0, .int p1, .int p2, .int p3, .int p4, .ref O])).length) Slot.unset).toArray = ls at hl ⊢
  have hl : lv_has ls 8 [(0, .ref P), (1, .int p0), (2, .int p1), (3, .int p2), (4, .int p3), (5, .int p4), (6, .ref O)] := hl
  refine lv_aload hx hb dL_addJob_0 (lv_at hl 6 rfl) ?_
  refine lv_iconst (v := 0) hx hb dL_addJob_2 (by decide) ?_
  refine lv_aload_n hx hb dL_addJob_3 rfl (lv_at hl 0 rfl) ?_
  refine lv_iload_n hx hb dL_addJob_4 rfl (lv_at hl 1 rfl) ?_
  refine lv_iload_n hx hb dL_addJob_5 rfl (lv_at hl 2 rfl) ?_
  refine lv_iload_n hx hb dL_addJob_6 rfl (lv_at hl 3 rfl) ?_
  refine lv_iload hx hb dL_addJob_7 (lv_at hl 4 rfl) ?_
  refine lv_iload hx hb dL_addJob_9 (lv_at hl 5 rfl) ?_
  refine x_Vi (ci := 5) (q0 := 0) (wc := [(P, .inr (5, [.ref F, .ref G, .ref T, .ref za, .ref (ia 0), .ref (ia 1), .ref (ia 2), .int 0, .int 0])), (F, .inr (0, [.ref (fa 0), .ref (fa 1), .ref (fa 2), .ref (fa 3), .ref (fa 4), .ref (fa 5), .ref (fa 6), .ref (fa 7), .ref (fa 8), .int 0, .int 0, .int 0]))]) (wr := [(O, .inl (cL, 1, .inr (.inl g)))]) [.int p0, .int p1, .int p2, .int p3, .int p4] [0, 1] [2] ⟨hx, hb, hml, hown, hts⟩ (fun sz => c_X5_addJob l hlT dC dI cI cV cJ cL P F G T za fa ia 0 0 p0 p1 p2 p3 p4 sz) q_ml_L_23 q_im_X5_addJob q_se_X5_addJob q_ini_X5 q_co_X5_addJob (n := 5) (by decide +kernel) rfl ⟨rfl, rfl⟩ ⟨Nat.le_of_ble_eq_true rfl, Nat.le_of_ble_eq_true rfl⟩ hP hD hS hA hK hN hXs hZs rfl rfl (by decide) (by decide) (by decide) rfl rfl rfl hl.1 rfl (Nat.le_of_ble_eq_true rfl) dL_addJob_11 ⟨Nat.le_of_ble_eq_true rfl, Nat.le_of_ble_eq_true rfl⟩ (fun E ce q9 H locs hpx hP hD hS hc1 hc2 hc3 => ?_) (fun r u9 H locs hpo hP hD hS => ?_)
  · obtain ⟨u9, hpx⟩ := hpx
    obtain rfl : E = "java/lang/IndexOutOfBoundsException" := hpx
    have hP : va_P (dC, dI) cls [(O, .inl (cL, 1, .inr (.inl g)))] H := hP
    have hD : va_D A [(O, .inl (cL, 1, .inr (.inl g)))] := hD
    refine vx_catch (name := "java/lang/IndexOutOfBoundsException") hown [] _ _ (ht9.trans rfl) (fun z hz => by cases hz) rfl (by decide) (hts _ (tb_in q_cl_L_21)) (va_Nw.use rfl hXs.1.2.2.2.2.2) hc1 hc2 hc3 ?_
    refine lv_astore (lv' := [(7, .ref q9), (0, .ref P), (1, .int p0), (2, .int p1), (3, .int p2), (4, .int p3), (5, .int p4), (6, .ref O)]) hx hb dL_addJob_19 hl (by decide) rfl (fun ls hl => ?_)
    refine lv_iconst (v := 1) hx hb dL_addJob_21 (by decide) ?_
    refine k_wid (k := 1) (n := 6) (Nat.le_of_ble_eq_true rfl) (Nat.le_of_ble_eq_true rfl) (vx_ret ?_)
    have hP9 := hP
    have hD9 := hD
    exact W.iret (v := 1) hx hb hr (fun t9 ht9 hW9 => ⟨⟨_, g, rfl, ⟨rfl, fun h => absurd h (by decide)⟩, by rw [ht9]; exact hP9, va_K.moved hW9.alike hK, hD9⟩, hS.F ht9⟩) hS.2.2 dL_addJob_22
  exact hpo.elim
set_option maxHeartbeats 4000000 in
set_option maxRecDepth 100000 in
theorem h_way (l : Launch) (hlT : l.stackTraces = false) (dC : Nat → ClassId) (dI : Nat → Nat → Nat) (cI cV cJ cL : ClassId) (P F G T za : Nat) (fa ia : Nat → Nat) (O : Nat) (g : Nat → Int64) (p0 p1 : Int32) (sz : Nat) : vx_Met l yL_way (Cond.codeWith yL_way cL_way 5 (some .int) [(0, 10, 13, 21)] :: TB) ({ frames := 24, cells := 1, slots := 6, locals := 1200 } : Room) (PXw [.ref P, .int p0, .int p1, .ref O] (dC, dI) [(P, .inr (5, [.ref F, .ref G, .ref T, .ref za, .ref (ia 0), .ref (ia 1), .ref (ia 2), .int 0, .int 0])), (F, .inr (0, [.ref (fa 0), .ref (fa 1), .ref (fa 2), .ref (fa 3), .ref (fa 4), .ref (fa 5), .ref (fa 6), .ref (fa 7), .ref (fa 8), .int 0, .int 0, .int 0])), (O, .inl (cL, 1, .inr (.inl g)))] (TYP cI cV cJ cL) sz) (va_Qi (fun (r : Int32) (g : Nat → Int64) => r = 1 ∧ (1 = 0 → g 0 = 0)) (QB (dC, dI) (fun (g : Nat → Int64) => [(O, .inl (cL, 1, .inr (.inl g)))]) (TYP cI cV cJ cL) (va_A [(P, .inr (5, [.ref F, .ref G, .ref T, .ref za, .ref (ia 0), .ref (ia 1), .ref (ia 2), .int 0, .int 0])), (F, .inr (0, [.ref (fa 0), .ref (fa 1), .ref (fa 2), .ref (fa 3), .ref (fa 4), .ref (fa 5), .ref (fa 6), .ref (fa 7), .ref (fa 8), .int 0, .int 0, .int 0])), (O, .inl (cL, 1, .inr (.inl g)))] sz)) (va_A [(P, .inr (5, [.ref F, .ref G, .ref T, .ref za, .ref (ia 0), .ref (ia 1), .ref (ia 2), .int 0, .int 0])), (F, .inr (0, [.ref (fa 0), .ref (fa 1), .ref (fa 2), .ref (fa 3), .ref (fa 4), .ref (fa 5), .ref (fa 6), .ref (fa 7), .ref (fa 8), .int 0, .int 0, .int 0])), (O, .inl (cL, 1, .inr (.inl g)))] sz)) (vx_X (fun _ : Unit => False) (fun _ _ _ => True) (va_A [(P, .inr (5, [.ref F, .ref G, .ref T, .ref za, .ref (ia 0), .ref (ia 1), .ref (ia 2), .int 0, .int 0])), (F, .inr (0, [.ref (fa 0), .ref (fa 1), .ref (fa 2), .ref (fa 3), .ref (fa 4), .ref (fa 5), .ref (fa 6), .ref (fa 7), .ref (fa 8), .int 0, .int 0, .int 0])), (O, .inl (cL, 1, .inr (.inl g)))] sz)) 1 6 (va_A [(P, .inr (5, [.ref F, .ref G, .ref T, .ref za, .ref (ia 0), .ref (ia 1), .ref (ia 2), .int 0, .int 0])), (F, .inr (0, [.ref (fa 0), .ref (fa 1), .ref (fa 2), .ref (fa 3), .ref (fa 4), .ref (fa 5), .ref (fa 6), .ref (fa 7), .ref (fa 8), .int 0, .int 0, .int 0])), (O, .inl (cL, 1, .inr (.inl g)))] sz) := by
  refine vx_ofWH (cc := cL_way) (maxL := 5) (ret := (some .int)) (hh := [(0, 10, 13, 21)]) (by decide) rfl ?_
  intro p e s m args below meth c s₁ B hml hv
  obtain ⟨rfl, hsz, hP, hK, hD0, hN, hXs, hZs⟩ := hv
  have hx := B.exec
  have hb := B.bytes
  have hr := B.returns
  have hts := atoms_spec (ws := (Cond.codeWith yL_way cL_way 5 (some .int) [(0, 10, 13, 21)] :: TB)) B.pre
  have hown : s.vm.findClass RL = some m.cls := findClass_of_methodNamed B.named
  have hlocks := B.notSynchronized
  have ht9 := vx_table (x := yL_way) B (hts _ List.mem_cons_self)
  subst hsz
  have hD := hD0.self (sz := s.heap.size)
  generalize hAe : va_A [(P, .inr (5, [.ref F, .ref G, .ref T, .ref za, .ref (ia 0), .ref (ia 1), .ref (ia 2), .int 0, .int 0])), (F, .inr (0, [.ref (fa 0), .ref (fa 1), .ref (fa 2), .ref (fa 3), .ref (fa 4), .ref (fa 5), .ref (fa 6), .ref (fa 7), .ref (fa 8), .int 0, .int 0, .int 0])), (O, .inl (cL, 1, .inr (.inl g)))] s.heap.size = A at hD hZs ⊢
  have hA : ∀ q : Nat, s.heap.size ≤ q → A q := fun q h => by rw [← hAe]; exact Or.inr h
  have hS : va_S A s.heap s.heap [] := va_S.rf
  have hl := lv_entry ([.ref P, .int p0, .int p1, .ref O]) (n := 5) (Nat.le_of_ble_eq_true rfl)
  rw [lg_entry_eq]
  generalize (lg_sl ([.ref P, .int p0, .int p1, .ref O]) ++ List.replicate (5 - (lg_sl ([.ref P, .int p0, .int p1, .ref O])).length) Slot.unset).toArray = ls at hl ⊢
  have hl : lv_has ls 5 [(0, .ref P), (1, .int p0), (2, .int p1), (3, .ref O)] := hl
  refine lv_aload_n hx hb dL_way_0 rfl (lv_at hl 3 rfl) ?_
  refine lv_iconst (v := 0) hx hb dL_way_1 (by decide) ?_
  refine lv_aload_n hx hb dL_way_2 rfl (lv_at hl 0 rfl) ?_
  refine lv_iload_n hx hb dL_way_3 rfl (lv_at hl 1 rfl) ?_
  refine lv_iload_n hx hb dL_way_4 rfl (lv_at hl 2 rfl) ?_
  refine x_Vi (ci := 5) (q0 := 0) (wc := [(P, .inr (5, [.ref F, .ref G, .ref T, .ref za, .ref (ia 0), .ref (ia 1), .ref (ia 2), .int 0, .int 0])), (F, .inr (0, [.ref (fa 0), .ref (fa 1), .ref (fa 2), .ref (fa 3), .ref (fa 4), .ref (fa 5), .ref (fa 6), .ref (fa 7), .ref (fa 8), .int 0, .int 0, .int 0]))]) (wr := [(O, .inl (cL, 1, .inr (.inl g)))]) [.int p0, .int p1] [0, 1] [2] ⟨hx, hb, hml, hown, hts⟩ (fun sz => c_X5_way l hlT dC dI cI cV cJ cL P F G T za fa ia 0 0 p0 p1 sz) q_ml_L_57 q_im_X5_way q_se_X5_way q_ini_X5 q_co_X5_way (n := 2) (by decide +kernel) rfl ⟨rfl, rfl⟩ ⟨Nat.le_of_ble_eq_true rfl, Nat.le_of_ble_eq_true rfl⟩ hP hD hS hA hK hN hXs hZs rfl rfl (by decide) (by decide) (by decide) rfl rfl rfl hl.1 rfl (Nat.le_of_ble_eq_true rfl) dL_way_5 ⟨Nat.le_of_ble_eq_true rfl, Nat.le_of_ble_eq_true rfl⟩ (fun E ce q9 H locs hpx hP hD hS hc1 hc2 hc3 => ?_) (fun r u9 H locs hpo hP hD hS => ?_)
  · obtain ⟨u9, hpx⟩ := hpx
    obtain rfl : E = "java/lang/IndexOutOfBoundsException" := hpx
    have hP : va_P (dC, dI) cls [(O, .inl (cL, 1, .inr (.inl g)))] H := hP
    have hD : va_D A [(O, .inl (cL, 1, .inr (.inl g)))] := hD
    refine vx_catch (name := "java/lang/IndexOutOfBoundsException") hown [] _ _ (ht9.trans rfl) (fun z hz => by cases hz) rfl (by decide) (hts _ (tb_in q_cl_L_21)) (va_Nw.use rfl hXs.1.2.2.2.2.2) hc1 hc2 hc3 ?_
    refine lv_astore (lv' := [(4, .ref q9), (0, .ref P), (1, .int p0), (2, .int p1), (3, .ref O)]) hx hb dL_way_13 hl (by decide) rfl (fun ls hl => ?_)
    refine lv_iconst (v := 1) hx hb dL_way_15 (by decide) ?_
    refine k_wid (k := 1) (n := 6) (Nat.le_of_ble_eq_true rfl) (Nat.le_of_ble_eq_true rfl) (vx_ret ?_)
    have hP9 := hP
    have hD9 := hD
    exact W.iret (v := 1) hx hb hr (fun t9 ht9 hW9 => ⟨⟨_, g, rfl, ⟨rfl, fun h => absurd h (by decide)⟩, by rw [ht9]; exact hP9, va_K.moved hW9.alike hK, hD9⟩, hS.F ht9⟩) hS.2.2 dL_way_16
  exact hpo.elim
set_option maxHeartbeats 4000000 in
set_option maxRecDepth 100000 in
theorem h_setHours (l : Launch) (hlT : l.stackTraces = false) (dC : Nat → ClassId) (dI : Nat → Nat → Nat) (cI cV cJ cL : ClassId) (P F G T za : Nat) (fa ia : Nat → Nat) (O : Nat) (g : Nat → Int64) (p0 p1 p2 p3 : Int32) (sz : Nat) : vx_Met l yL_setHours (Cond.codeWith yL_setHours cL_setHours 7 (some .int) [(0, 21, 24, 21), (0, 21, 28, 13), (0, 21, 32, 15)] :: TB) ({ frames := 24, cells := 1, slots := 6, locals := 1200 } : Room) (PXw [.ref P, .int p0, .int p1, .int p2, .int p3, .ref O] (dC, dI) [(P, .inr (5, [.ref F, .ref G, .ref T, .ref za, .ref (ia 0), .ref (ia 1), .ref (ia 2), .int 0, .int 0])), (F, .inr (0, [.ref (fa 0), .ref (fa 1), .ref (fa 2), .ref (fa 3), .ref (fa 4), .ref (fa 5), .ref (fa 6), .ref (fa 7), .ref (fa 8), .int 0, .int 0, .int 0])), (O, .inl (cL, 1, .inr (.inl g)))] (TYP cI cV cJ cL) sz) (va_Qi (fun (r : Int32) (g : Nat → Int64) => r = 1 ∧ (1 = 0 → g 0 = 0)) (QB (dC, dI) (fun (g : Nat → Int64) => [(O, .inl (cL, 1, .inr (.inl g)))]) (TYP cI cV cJ cL) (va_A [(P, .inr (5, [.ref F, .ref G, .ref T, .ref za, .ref (ia 0), .ref (ia 1), .ref (ia 2), .int 0, .int 0])), (F, .inr (0, [.ref (fa 0), .ref (fa 1), .ref (fa 2), .ref (fa 3), .ref (fa 4), .ref (fa 5), .ref (fa 6), .ref (fa 7), .ref (fa 8), .int 0, .int 0, .int 0])), (O, .inl (cL, 1, .inr (.inl g)))] sz)) (va_A [(P, .inr (5, [.ref F, .ref G, .ref T, .ref za, .ref (ia 0), .ref (ia 1), .ref (ia 2), .int 0, .int 0])), (F, .inr (0, [.ref (fa 0), .ref (fa 1), .ref (fa 2), .ref (fa 3), .ref (fa 4), .ref (fa 5), .ref (fa 6), .ref (fa 7), .ref (fa 8), .int 0, .int 0, .int 0])), (O, .inl (cL, 1, .inr (.inl g)))] sz)) (vx_X (fun _ : Unit => False) (fun _ _ _ => True) (va_A [(P, .inr (5, [.ref F, .ref G, .ref T, .ref za, .ref (ia 0), .ref (ia 1), .ref (ia 2), .int 0, .int 0])), (F, .inr (0, [.ref (fa 0), .ref (fa 1), .ref (fa 2), .ref (fa 3), .ref (fa 4), .ref (fa 5), .ref (fa 6), .ref (fa 7), .ref (fa 8), .int 0, .int 0, .int 0])), (O, .inl (cL, 1, .inr (.inl g)))] sz)) 1 6 (va_A [(P, .inr (5, [.ref F, .ref G, .ref T, .ref za, .ref (ia 0), .ref (ia 1), .ref (ia 2), .int 0, .int 0])), (F, .inr (0, [.ref (fa 0), .ref (fa 1), .ref (fa 2), .ref (fa 3), .ref (fa 4), .ref (fa 5), .ref (fa 6), .ref (fa 7), .ref (fa 8), .int 0, .int 0, .int 0])), (O, .inl (cL, 1, .inr (.inl g)))] sz) := by
  refine vx_ofWH (cc := cL_setHours) (maxL := 7) (ret := (some .int)) (hh := [(0, 21, 24, 21), (0, 21, 28, 13), (0, 21, 32, 15)]) (by decide) rfl ?_
  intro p e s m args below meth c s₁ B hml hv
  obtain ⟨rfl, hsz, hP, hK, hD0, hN, hXs, hZs⟩ := hv
  have hx := B.exec
  have hb := B.bytes
  have hr := B.returns
  have hts := atoms_spec (ws := (Cond.codeWith yL_setHours cL_setHours 7 (some .int) [(0, 21, 24, 21), (0, 21, 28, 13), (0, 21, 32, 15)] :: TB)) B.pre
  have hown : s.vm.findClass RL = some m.cls := findClass_of_methodNamed B.named
  have hlocks := B.notSynchronized
  have ht9 := vx_table (x := yL_setHours) B (hts _ List.mem_cons_self)
  subst hsz
  have hD := hD0.self (sz := s.heap.size)
  generalize hAe : va_A [(P, .inr (5, [.ref F, .ref G, .ref T, .ref za, .ref (ia 0), .ref (ia 1), .ref (ia 2), .int 0, .int 0])), (F, .inr (0, [.ref (fa 0), .ref (fa 1), .ref (fa 2), .ref (fa 3), .ref (fa 4), .ref (fa 5), .ref (fa 6), .ref (fa 7), .ref (fa 8), .int 0, .int 0, .int 0])), (O, .inl (cL, 1, .inr (.inl g)))] s.heap.size = A at hD hZs ⊢
  have hA : ∀ q : Nat, s.heap.size ≤ q → A q := fun q h => by rw [← hAe]; exact Or.inr h
  have hS : va_S A s.heap s.heap [] := va_S.rf
  have hl := lv_entry ([.ref P, .int p0, .int p1, .int p2, .int p3, .ref O]) (n := 7) (Nat.le_of_ble_eq_true rfl)
  rw [lg_entry_eq]
  generalize (lg_sl ([.ref P, .int p0, .int p1, .int p2, .int p3, .ref O]) ++ List.replicate (7 - (lg_sl ([.ref P, .int p0, .int p1, .int p2, .int p3, .ref O])).length) Slot.unset).toArray = ls at hl ⊢
  have hl : lv_has ls 7 [(0, .ref P), (1, .int p0), (2, .int p1), (3, .int p2), (4, .int p3), (5, .ref O)] := hl
  refine lv_aload hx hb dL_setHours_0 (lv_at hl 5 rfl) ?_
  refine lv_iconst (v := 0) hx hb dL_setHours_2 (by decide) ?_
  refine lv_aload_n hx hb dL_setHours_3 rfl (lv_at hl 0 rfl) ?_
  refine lv_iload_n hx hb dL_setHours_4 rfl (lv_at hl 1 rfl) ?_
  refine lv_iload_n hx hb dL_setHours_5 rfl (lv_at hl 2 rfl) ?_
  refine lv_iload_n hx hb dL_setHours_6 rfl (lv_at hl 3 rfl) ?_
  refine lv_iload hx hb dL_setHours_7 (lv_at hl 4 rfl) ?_
  refine x_Vi (ci := 5) (q0 := 0) (wc := [(P, .inr (5, [.ref F, .ref G, .ref T, .ref za, .ref (ia 0), .ref (ia 1), .ref (ia 2), .int 0, .int 0])), (F, .inr (0, [.ref (fa 0), .ref (fa 1), .ref (fa 2), .ref (fa 3), .ref (fa 4), .ref (fa 5), .ref (fa 6), .ref (fa 7), .ref (fa 8), .int 0, .int 0, .int 0]))]) (wr := [(O, .inl (cL, 1, .inr (.inl g)))]) [.int p0, .int p1, .int p2, .int p3] [0, 1] [2] ⟨hx, hb, hml, hown, hts⟩ (fun sz => c_X5_setHours l hlT dC dI cI cV cJ cL P F G T za fa ia 0 0 p0 p1 p2 p3 sz) q_ml_L_27 q_im_X5_setHours q_se_X5_setHours q_ini_X5 q_co_X5_setHours (n := 4) (by decide +kernel) rfl ⟨rfl, rfl⟩ ⟨Nat.le_of_ble_eq_true rfl, Nat.le_of_ble_eq_true rfl⟩ hP hD hS hA hK hN hXs hZs rfl rfl (by decide) (by decide) (by decide) rfl rfl rfl hl.1 rfl (Nat.le_of_ble_eq_true rfl) dL_setHours_9 ⟨Nat.le_of_ble_eq_true rfl, Nat.le_of_ble_eq_true rfl⟩ (fun E ce q9 H locs hpx hP hD hS hc1 hc2 hc3 => ?_) (fun r u9 H locs hpo hP hD hS => ?_)
  · obtain ⟨u9, hpx⟩ := hpx
    obtain rfl : E = "java/lang/IndexOutOfBoundsException" := hpx
    have hP : va_P (dC, dI) cls [(O, .inl (cL, 1, .inr (.inl g)))] H := hP
    have hD : va_D A [(O, .inl (cL, 1, .inr (.inl g)))] := hD
    refine vx_catch (name := "java/lang/IndexOutOfBoundsException") hown [] _ _ (ht9.trans rfl) (fun z hz => by cases hz) rfl (by decide) (hts _ (tb_in q_cl_L_21)) (va_Nw.use rfl hXs.1.2.2.2.2.2) hc1 hc2 hc3 ?_
    refine lv_astore (lv' := [(6, .ref q9), (0, .ref P), (1, .int p0), (2, .int p1), (3, .int p2), (4, .int p3), (5, .ref O)]) hx hb dL_setHours_24 hl (by decide) rfl (fun ls hl => ?_)
    refine lv_iconst (v := 1) hx hb dL_setHours_26 (by decide) ?_
    refine k_wid (k := 1) (n := 6) (Nat.le_of_ble_eq_true rfl) (Nat.le_of_ble_eq_true rfl) (vx_ret ?_)
    have hP9 := hP
    have hD9 := hD
    exact W.iret (v := 1) hx hb hr (fun t9 ht9 hW9 => ⟨⟨_, g, rfl, ⟨rfl, fun h => absurd h (by decide)⟩, by rw [ht9]; exact hP9, va_K.moved hW9.alike hK, hD9⟩, hS.F ht9⟩) hS.2.2 dL_setHours_27
  exact hpo.elim
set_option maxHeartbeats 4000000 in
set_option maxRecDepth 100000 in
theorem h_insert (l : Launch) (hlT : l.stackTraces = false) (dC : Nat → ClassId) (dI : Nat → Nat → Nat) (cI cV cJ cL : ClassId) (P F G T za : Nat) (fa ia : Nat → Nat) (O : Nat) (g : Nat → Int64) (p0 : Int32) (sz : Nat) : vx_Met l yL_insert (Cond.codeWith yL_insert cL_insert 4 (some .int) [(0, 9, 12, 21), (0, 9, 15, 15)] :: TB) ({ frames := 24, cells := 1, slots := 6, locals := 1200 } : Room) (PXw [.ref P, .int p0, .ref O] (dC, dI) [(P, .inr (5, [.ref F, .ref G, .ref T, .ref za, .ref (ia 0), .ref (ia 1), .ref (ia 2), .int 0, .int 0])), (F, .inr (0, [.ref (fa 0), .ref (fa 1), .ref (fa 2), .ref (fa 3), .ref (fa 4), .ref (fa 5), .ref (fa 6), .ref (fa 7), .ref (fa 8), .int 0, .int 0, .int 0])), (O, .inl (cL, 1, .inr (.inl g)))] (TYP cI cV cJ cL) sz) (va_Qi (fun (r : Int32) (g : Nat → Int64) => r = 1 ∧ (1 = 0 → g 0 = 0)) (QB (dC, dI) (fun (g : Nat → Int64) => [(O, .inl (cL, 1, .inr (.inl g)))]) (TYP cI cV cJ cL) (va_A [(P, .inr (5, [.ref F, .ref G, .ref T, .ref za, .ref (ia 0), .ref (ia 1), .ref (ia 2), .int 0, .int 0])), (F, .inr (0, [.ref (fa 0), .ref (fa 1), .ref (fa 2), .ref (fa 3), .ref (fa 4), .ref (fa 5), .ref (fa 6), .ref (fa 7), .ref (fa 8), .int 0, .int 0, .int 0])), (O, .inl (cL, 1, .inr (.inl g)))] sz)) (va_A [(P, .inr (5, [.ref F, .ref G, .ref T, .ref za, .ref (ia 0), .ref (ia 1), .ref (ia 2), .int 0, .int 0])), (F, .inr (0, [.ref (fa 0), .ref (fa 1), .ref (fa 2), .ref (fa 3), .ref (fa 4), .ref (fa 5), .ref (fa 6), .ref (fa 7), .ref (fa 8), .int 0, .int 0, .int 0])), (O, .inl (cL, 1, .inr (.inl g)))] sz)) (vx_X (fun _ : Unit => False) (fun _ _ _ => True) (va_A [(P, .inr (5, [.ref F, .ref G, .ref T, .ref za, .ref (ia 0), .ref (ia 1), .ref (ia 2), .int 0, .int 0])), (F, .inr (0, [.ref (fa 0), .ref (fa 1), .ref (fa 2), .ref (fa 3), .ref (fa 4), .ref (fa 5), .ref (fa 6), .ref (fa 7), .ref (fa 8), .int 0, .int 0, .int 0])), (O, .inl (cL, 1, .inr (.inl g)))] sz)) 1 6 (va_A [(P, .inr (5, [.ref F, .ref G, .ref T, .ref za, .ref (ia 0), .ref (ia 1), .ref (ia 2), .int 0, .int 0])), (F, .inr (0, [.ref (fa 0), .ref (fa 1), .ref (fa 2), .ref (fa 3), .ref (fa 4), .ref (fa 5), .ref (fa 6), .ref (fa 7), .ref (fa 8), .int 0, .int 0, .int 0])), (O, .inl (cL, 1, .inr (.inl g)))] sz) := by
  refine vx_ofWH (cc := cL_insert) (maxL := 4) (ret := (some .int)) (hh := [(0, 9, 12, 21), (0, 9, 15, 15)]) (by decide) rfl ?_
  intro p e s m args below meth c s₁ B hml hv
  obtain ⟨rfl, hsz, hP, hK, hD0, hN, hXs, hZs⟩ := hv
  have hx := B.exec
  have hb := B.bytes
  have hr := B.returns
  have hts := atoms_spec (ws := (Cond.codeWith yL_insert cL_insert 4 (some .int) [(0, 9, 12, 21), (0, 9, 15, 15)] :: TB)) B.pre
  have hown : s.vm.findClass RL = some m.cls := findClass_of_methodNamed B.named
  have hlocks := B.notSynchronized
  have ht9 := vx_table (x := yL_insert) B (hts _ List.mem_cons_self)
  subst hsz
  have hD := hD0.self (sz := s.heap.size)
  generalize hAe : va_A [(P, .inr (5, [.ref F, .ref G, .ref T, .ref za, .ref (ia 0), .ref (ia 1), .ref (ia 2), .int 0, .int 0])), (F, .inr (0, [.ref (fa 0), .ref (fa 1), .ref (fa 2), .ref (fa 3), .ref (fa 4), .ref (fa 5), .ref (fa 6), .ref (fa 7), .ref (fa 8), .int 0, .int 0, .int 0])), (O, .inl (cL, 1, .inr (.inl g)))] s.heap.size = A at hD hZs ⊢
  have hA : ∀ q : Nat, s.heap.size ≤ q → A q := fun q h => by rw [← hAe]; exact Or.inr h
  have hS : va_S A s.heap s.heap [] := va_S.rf
  have hl := lv_entry ([.ref P, .int p0, .ref O]) (n := 4) (Nat.le_of_ble_eq_true rfl)
  rw [lg_entry_eq]
  generalize (lg_sl ([.ref P, .int p0, .ref O]) ++ List.replicate (4 - (lg_sl ([.ref P, .int p0, .ref O])).length) Slot.unset).toArray = ls at hl ⊢
  have hl : lv_has ls 4 [(0, .ref P), (1, .int p0), (2, .ref O)] := hl
  refine lv_aload_n hx hb dL_insert_0 rfl (lv_at hl 2 rfl) ?_
  refine lv_iconst (v := 0) hx hb dL_insert_1 (by decide) ?_
  refine lv_aload_n hx hb dL_insert_2 rfl (lv_at hl 0 rfl) ?_
  refine lv_iload_n hx hb dL_insert_3 rfl (lv_at hl 1 rfl) ?_
  refine x_Vi (ci := 5) (q0 := 0) (wc := [(P, .inr (5, [.ref F, .ref G, .ref T, .ref za, .ref (ia 0), .ref (ia 1), .ref (ia 2), .int 0, .int 0])), (F, .inr (0, [.ref (fa 0), .ref (fa 1), .ref (fa 2), .ref (fa 3), .ref (fa 4), .ref (fa 5), .ref (fa 6), .ref (fa 7), .ref (fa 8), .int 0, .int 0, .int 0]))]) (wr := [(O, .inl (cL, 1, .inr (.inl g)))]) [.int p0] [0, 1] [2] ⟨hx, hb, hml, hown, hts⟩ (fun sz => c_X5_insert l hlT dC dI cI cV cJ cL P F G T za fa ia 0 0 p0 sz) q_ml_L_31 q_im_X5_insert q_se_X5_insert q_ini_X5 q_co_X5_insert (n := 1) (by decide +kernel) rfl ⟨rfl, rfl⟩ ⟨Nat.le_of_ble_eq_true rfl, Nat.le_of_ble_eq_true rfl⟩ hP hD hS hA hK hN hXs hZs rfl rfl (by decide) (by decide) (by decide) rfl rfl rfl hl.1 rfl (Nat.le_of_ble_eq_true rfl) dL_insert_4 ⟨Nat.le_of_ble_eq_true rfl, Nat.le_of_ble_eq_true rfl⟩ (fun E ce q9 H locs hpx hP hD hS hc1 hc2 hc3 => ?_) (fun r u9 H locs hpo hP hD hS => ?_)
  · obtain ⟨u9, hpx⟩ := hpx
    obtain rfl : E = "java/lang/IndexOutOfBoundsException" := hpx
    have hP : va_P (dC, dI) cls [(O, .inl (cL, 1, .inr (.inl g)))] H := hP
    have hD : va_D A [(O, .inl (cL, 1, .inr (.inl g)))] := hD
    refine vx_catch (name := "java/lang/IndexOutOfBoundsException") hown [] _ _ (ht9.trans rfl) (fun z hz => by cases hz) rfl (by decide) (hts _ (tb_in q_cl_L_21)) (va_Nw.use rfl hXs.1.2.2.2.2.2) hc1 hc2 hc3 ?_
    refine lv_astore_n (lv' := [(3, .ref q9), (0, .ref P), (1, .int p0), (2, .ref O)]) hx hb dL_insert_12 rfl hl (by decide) rfl (fun ls hl => ?_)
    refine lv_iconst (v := 1) hx hb dL_insert_13 (by decide) ?_
    refine k_wid (k := 1) (n := 6) (Nat.le_of_ble_eq_true rfl) (Nat.le_of_ble_eq_true rfl) (vx_ret ?_)
    have hP9 := hP
    have hD9 := hD
    exact W.iret (v := 1) hx hb hr (fun t9 ht9 hW9 => ⟨⟨_, g, rfl, ⟨rfl, fun h => absurd h (by decide)⟩, by rw [ht9]; exact hP9, va_K.moved hW9.alike hK, hD9⟩, hS.F ht9⟩) hS.2.2 dL_insert_14
  exact hpo.elim
set_option maxHeartbeats 4000000 in
set_option maxRecDepth 100000 in
theorem h_insertAt (l : Launch) (hlT : l.stackTraces = false) (dC : Nat → ClassId) (dI : Nat → Nat → Nat) (cI cV cJ cL : ClassId) (P F G T za : Nat) (fa ia : Nat → Nat) (O : Nat) (g : Nat → Int64) (p0 p1 p2 p3 : Int32) (sz : Nat) : vx_Met l yL_insertAt (Cond.codeWith yL_insertAt cL_insertAt 7 (some .int) [(0, 14, 17, 21), (0, 14, 21, 13), (0, 14, 25, 15)] :: TB) ({ frames := 24, cells := 1, slots := 6, locals := 1200 } : Room) (PXw [.ref P, .int p0, .int p1, .int p2, .int p3, .ref O] (dC, dI) [(P, .inr (5, [.ref F, .ref G, .ref T, .ref za, .ref (ia 0), .ref (ia 1), .ref (ia 2), .int 0, .int 0])), (F, .inr (0, [.ref (fa 0), .ref (fa 1), .ref (fa 2), .ref (fa 3), .ref (fa 4), .ref (fa 5), .ref (fa 6), .ref (fa 7), .ref (fa 8), .int 0, .int 0, .int 0])), (O, .inl (cL, 1, .inr (.inl g)))] (TYP cI cV cJ cL) sz) (va_Qi (fun (r : Int32) (g : Nat → Int64) => r = 1 ∧ (1 = 0 → g 0 = 0)) (QB (dC, dI) (fun (g : Nat → Int64) => [(O, .inl (cL, 1, .inr (.inl g)))]) (TYP cI cV cJ cL) (va_A [(P, .inr (5, [.ref F, .ref G, .ref T, .ref za, .ref (ia 0), .ref (ia 1), .ref (ia 2), .int 0, .int 0])), (F, .inr (0, [.ref (fa 0), .ref (fa 1), .ref (fa 2), .ref (fa 3), .ref (fa 4), .ref (fa 5), .ref (fa 6), .ref (fa 7), .ref (fa 8), .int 0, .int 0, .int 0])), (O, .inl (cL, 1, .inr (.inl g)))] sz)) (va_A [(P, .inr (5, [.ref F, .ref G, .ref T, .ref za, .ref (ia 0), .ref (ia 1), .ref (ia 2), .int 0, .int 0])), (F, .inr (0, [.ref (fa 0), .ref (fa 1), .ref (fa 2), .ref (fa 3), .ref (fa 4), .ref (fa 5), .ref (fa 6), .ref (fa 7), .ref (fa 8), .int 0, .int 0, .int 0])), (O, .inl (cL, 1, .inr (.inl g)))] sz)) (vx_X (fun _ : Unit => False) (fun _ _ _ => True) (va_A [(P, .inr (5, [.ref F, .ref G, .ref T, .ref za, .ref (ia 0), .ref (ia 1), .ref (ia 2), .int 0, .int 0])), (F, .inr (0, [.ref (fa 0), .ref (fa 1), .ref (fa 2), .ref (fa 3), .ref (fa 4), .ref (fa 5), .ref (fa 6), .ref (fa 7), .ref (fa 8), .int 0, .int 0, .int 0])), (O, .inl (cL, 1, .inr (.inl g)))] sz)) 1 6 (va_A [(P, .inr (5, [.ref F, .ref G, .ref T, .ref za, .ref (ia 0), .ref (ia 1), .ref (ia 2), .int 0, .int 0])), (F, .inr (0, [.ref (fa 0), .ref (fa 1), .ref (fa 2), .ref (fa 3), .ref (fa 4), .ref (fa 5), .ref (fa 6), .ref (fa 7), .ref (fa 8), .int 0, .int 0, .int 0])), (O, .inl (cL, 1, .inr (.inl g)))] sz) := by
  refine vx_ofWH (cc := cL_insertAt) (maxL := 7) (ret := (some .int)) (hh := [(0, 14, 17, 21), (0, 14, 21, 13), (0, 14, 25, 15)]) (by decide) rfl ?_
  intro p e s m args below meth c s₁ B hml hv
  obtain ⟨rfl, hsz, hP, hK, hD0, hN, hXs, hZs⟩ := hv
  have hx := B.exec
  have hb := B.bytes
  have hr := B.returns
  have hts := atoms_spec (ws := (Cond.codeWith yL_insertAt cL_insertAt 7 (some .int) [(0, 14, 17, 21), (0, 14, 21, 13), (0, 14, 25, 15)] :: TB)) B.pre
  have hown : s.vm.findClass RL = some m.cls := findClass_of_methodNamed B.named
  have hlocks := B.notSynchronized
  have ht9 := vx_table (x := yL_insertAt) B (hts _ List.mem_cons_self)
  subst hsz
  have hD := hD0.self (sz := s.heap.size)
  generalize hAe : va_A [(P, .inr (5, [.ref F, .ref G, .ref T, .ref za, .ref (ia 0), .ref (ia 1), .ref (ia 2), .int 0, .int 0])), (F, .inr (0, [.ref (fa 0), .ref (fa 1), .ref (fa 2), .ref (fa 3), .ref (fa 4), .ref (fa 5), .ref (fa 6), .ref (fa 7), .ref (fa 8), .int 0, .int 0, .int 0])), (O, .inl (cL, 1, .inr (.inl g)))] s.heap.size = A at hD hZs ⊢
  have hA : ∀ q : Nat, s.heap.size ≤ q → A q := fun q h => by rw [← hAe]; exact Or.inr h
  have hS : va_S A s.heap s.heap [] := va_S.rf
  have hl := lv_entry ([.ref P, .int p0, .int p1, .int p2, .int p3, .ref O]) (n := 7) (Nat.le_of_ble_eq_true rfl)
  rw [lg_entry_eq]
  generalize (lg_sl ([.ref P, .int p0, .int p1, .int p2, .int p3, .ref O]) ++ List.replicate (7 - (lg_sl ([.ref P, .int p0, .int p1, .int p2, .int p3, .ref O])).length) Slot.unset).toArray = ls at hl ⊢
  have hl : lv_has ls 7 [(0, .ref P), (1, .int p0), (2, .int p1), (3, .int p2), (4, .int p3), (5, .ref O)] := hl
  refine lv_aload hx hb dL_insertAt_0 (lv_at hl 5 rfl) ?_
  refine lv_iconst (v := 0) hx hb dL_insertAt_2 (by decide) ?_
  refine lv_aload_n hx hb dL_insertAt_3 rfl (lv_at hl 0 rfl) ?_
  refine lv_iload_n hx hb dL_insertAt_4 rfl (lv_at hl 1 rfl) ?_
  refine lv_iload_n hx hb dL_insertAt_5 rfl (lv_at hl 2 rfl) ?_
  refine lv_iload_n hx hb dL_insertAt_6 rfl (lv_at hl 3 rfl) ?_
  refine lv_iload hx hb dL_insertAt_7 (lv_at hl 4 rfl) ?_
  refine x_Vi (ci := 5) (q0 := 0) (wc := [(P, .inr (5, [.ref F, .ref G, .ref T, .ref za, .ref (ia 0), .ref (ia 1), .ref (ia 2), .int 0, .int 0])), (F, .inr (0, [.ref (fa 0), .ref (fa 1), .ref (fa 2), .ref (fa 3), .ref (fa 4), .ref (fa 5), .ref (fa 6), .ref (fa 7), .ref (fa 8), .int 0, .int 0, .int 0]))]) (wr := [(O, .inl (cL, 1, .inr (.inl g)))]) [.int p0, .int p1, .int p2, .int p3] [0, 1] [2] ⟨hx, hb, hml, hown, hts⟩ (fun sz => c_X5_insertAt l hlT dC dI cI cV cJ cL P F G T za fa ia 0 0 p0 p1 p2 p3 sz) q_ml_L_35 q_im_X5_insertAt q_se_X5_insertAt q_ini_X5 q_co_X5_insertAt (n := 4) (by decide +kernel) rfl ⟨rfl, rfl⟩ ⟨Nat.le_of_ble_eq_true rfl, Nat.le_of_ble_eq_true rfl⟩ hP hD hS hA hK hN hXs hZs rfl rfl (by decide) (by decide) (by decide) rfl rfl rfl hl.1 rfl (Nat.le_of_ble_eq_true rfl) dL_insertAt_9 ⟨Nat.le_of_ble_eq_true rfl, Nat.le_of_ble_eq_true rfl⟩ (fun E ce q9 H locs hpx hP hD hS hc1 hc2 hc3 => ?_) (fun r u9 H locs hpo hP hD hS => ?_)
  · obtain ⟨u9, hpx⟩ := hpx
    obtain rfl : E = "java/lang/IndexOutOfBoundsException" := hpx
    have hP : va_P (dC, dI) cls [(O, .inl (cL, 1, .inr (.inl g)))] H := hP
    have hD : va_D A [(O, .inl (cL, 1, .inr (.inl g)))] := hD
    refine vx_catch (name := "java/lang/IndexOutOfBoundsException") hown [] _ _ (ht9.trans rfl) (fun z hz => by cases hz) rfl (by decide) (hts _ (tb_in q_cl_L_21)) (va_Nw.use rfl hXs.1.2.2.2.2.2) hc1 hc2 hc3 ?_
    refine lv_astore (lv' := [(6, .ref q9), (0, .ref P), (1, .int p0), (2, .int p1), (3, .int p2), (4, .int p3), (5, .ref O)]) hx hb dL_insertAt_17 hl (by decide) rfl (fun ls hl => ?_)
    refine lv_iconst (v := 1) hx hb dL_insertAt_19 (by decide) ?_
    refine k_wid (k := 1) (n := 6) (Nat.le_of_ble_eq_true rfl) (Nat.le_of_ble_eq_true rfl) (vx_ret ?_)
    have hP9 := hP
    have hD9 := hD
    exact W.iret (v := 1) hx hb hr (fun t9 ht9 hW9 => ⟨⟨_, g, rfl, ⟨rfl, fun h => absurd h (by decide)⟩, by rw [ht9]; exact hP9, va_K.moved hW9.alike hK, hD9⟩, hS.F ht9⟩) hS.2.2 dL_insertAt_20
  exact hpo.elim
set_option maxHeartbeats 4000000 in
set_option maxRecDepth 100000 in
theorem h_take (l : Launch) (hlT : l.stackTraces = false) (dC : Nat → ClassId) (dI : Nat → Nat → Nat) (cI cV cJ cL : ClassId) (P F G T za : Nat) (fa ia : Nat → Nat) (O : Nat) (g : Nat → Int64) (p0 : Int32) (sz : Nat) : vx_Met l yL_take (Cond.codeWith yL_take cL_take 4 (some .int) [(0, 9, 12, 21), (0, 9, 15, 15)] :: TB) ({ frames := 24, cells := 1, slots := 6, locals := 1200 } : Room) (PXw [.ref P, .int p0, .ref O] (dC, dI) [(P, .inr (5, [.ref F, .ref G, .ref T, .ref za, .ref (ia 0), .ref (ia 1), .ref (ia 2), .int 0, .int 0])), (F, .inr (0, [.ref (fa 0), .ref (fa 1), .ref (fa 2), .ref (fa 3), .ref (fa 4), .ref (fa 5), .ref (fa 6), .ref (fa 7), .ref (fa 8), .int 0, .int 0, .int 0])), (O, .inl (cL, 1, .inr (.inl g)))] (TYP cI cV cJ cL) sz) (va_Qi (fun (r : Int32) (g : Nat → Int64) => r = 1 ∧ (1 = 0 → g 0 = 0)) (QB (dC, dI) (fun (g : Nat → Int64) => [(O, .inl (cL, 1, .inr (.inl g)))]) (TYP cI cV cJ cL) (va_A [(P, .inr (5, [.ref F, .ref G, .ref T, .ref za, .ref (ia 0), .ref (ia 1), .ref (ia 2), .int 0, .int 0])), (F, .inr (0, [.ref (fa 0), .ref (fa 1), .ref (fa 2), .ref (fa 3), .ref (fa 4), .ref (fa 5), .ref (fa 6), .ref (fa 7), .ref (fa 8), .int 0, .int 0, .int 0])), (O, .inl (cL, 1, .inr (.inl g)))] sz)) (va_A [(P, .inr (5, [.ref F, .ref G, .ref T, .ref za, .ref (ia 0), .ref (ia 1), .ref (ia 2), .int 0, .int 0])), (F, .inr (0, [.ref (fa 0), .ref (fa 1), .ref (fa 2), .ref (fa 3), .ref (fa 4), .ref (fa 5), .ref (fa 6), .ref (fa 7), .ref (fa 8), .int 0, .int 0, .int 0])), (O, .inl (cL, 1, .inr (.inl g)))] sz)) (vx_X (fun _ : Unit => False) (fun _ _ _ => True) (va_A [(P, .inr (5, [.ref F, .ref G, .ref T, .ref za, .ref (ia 0), .ref (ia 1), .ref (ia 2), .int 0, .int 0])), (F, .inr (0, [.ref (fa 0), .ref (fa 1), .ref (fa 2), .ref (fa 3), .ref (fa 4), .ref (fa 5), .ref (fa 6), .ref (fa 7), .ref (fa 8), .int 0, .int 0, .int 0])), (O, .inl (cL, 1, .inr (.inl g)))] sz)) 1 6 (va_A [(P, .inr (5, [.ref F, .ref G, .ref T, .ref za, .ref (ia 0), .ref (ia 1), .ref (ia 2), .int 0, .int 0])), (F, .inr (0, [.ref (fa 0), .ref (fa 1), .ref (fa 2), .ref (fa 3), .ref (fa 4), .ref (fa 5), .ref (fa 6), .ref (fa 7), .ref (fa 8), .int 0, .int 0, .int 0])), (O, .inl (cL, 1, .inr (.inl g)))] sz) := by
  refine vx_ofWH (cc := cL_take) (maxL := 4) (ret := (some .int)) (hh := [(0, 9, 12, 21), (0, 9, 15, 15)]) (by decide) rfl ?_
  intro p e s m args below meth c s₁ B hml hv
  obtain ⟨rfl, hsz, hP, hK, hD0, hN, hXs, hZs⟩ := hv
  have hx := B.exec
  have hb := B.bytes
  have hr := B.returns
  have hts := atoms_spec (ws := (Cond.codeWith yL_take cL_take 4 (some .int) [(0, 9, 12, 21), (0, 9, 15, 15)] :: TB)) B.pre
  have hown : s.vm.findClass RL = some m.cls := findClass_of_methodNamed B.named
  have hlocks := B.notSynchronized
  have ht9 := vx_table (x := yL_take) B (hts _ List.mem_cons_self)
  subst hsz
  have hD := hD0.self (sz := s.heap.size)
  generalize hAe : va_A [(P, .inr (5, [.ref F, .ref G, .ref T, .ref za, .ref (ia 0), .ref (ia 1), .ref (ia 2), .int 0, .int 0])), (F, .inr (0, [.ref (fa 0), .ref (fa 1), .ref (fa 2), .ref (fa 3), .ref (fa 4), .ref (fa 5), .ref (fa 6), .ref (fa 7), .ref (fa 8), .int 0, .int 0, .int 0])), (O, .inl (cL, 1, .inr (.inl g)))] s.heap.size = A at hD hZs ⊢
  have hA : ∀ q : Nat, s.heap.size ≤ q → A q := fun q h => by rw [← hAe]; exact Or.inr h
  have hS : va_S A s.heap s.heap [] := va_S.rf
  have hl := lv_entry ([.ref P, .int p0, .ref O]) (n := 4) (Nat.le_of_ble_eq_true rfl)
  rw [lg_entry_eq]
  generalize (lg_sl ([.ref P, .int p0, .ref O]) ++ List.replicate (4 - (lg_sl ([.ref P, .int p0, .ref O])).length) Slot.unset).toArray = ls at hl ⊢
  have hl : lv_has ls 4 [(0, .ref P), (1, .int p0), (2, .ref O)] := hl
  refine lv_aload_n hx hb dL_take_0 rfl (lv_at hl 2 rfl) ?_
  refine lv_iconst (v := 0) hx hb dL_take_1 (by decide) ?_
  refine lv_aload_n hx hb dL_take_2 rfl (lv_at hl 0 rfl) ?_
  refine lv_iload_n hx hb dL_take_3 rfl (lv_at hl 1 rfl) ?_
  refine x_Vi (ci := 5) (q0 := 0) (wc := [(P, .inr (5, [.ref F, .ref G, .ref T, .ref za, .ref (ia 0), .ref (ia 1), .ref (ia 2), .int 0, .int 0])), (F, .inr (0, [.ref (fa 0), .ref (fa 1), .ref (fa 2), .ref (fa 3), .ref (fa 4), .ref (fa 5), .ref (fa 6), .ref (fa 7), .ref (fa 8), .int 0, .int 0, .int 0]))]) (wr := [(O, .inl (cL, 1, .inr (.inl g)))]) [.int p0] [0, 1] [2] ⟨hx, hb, hml, hown, hts⟩ (fun sz => c_X5_take l hlT dC dI cI cV cJ cL P F G T za fa ia 0 0 p0 sz) q_ml_L_39 q_im_X5_take q_se_X5_take q_ini_X5 q_co_X5_take (n := 1) (by decide +kernel) rfl ⟨rfl, rfl⟩ ⟨Nat.le_of_ble_eq_true rfl, Nat.le_of_ble_eq_true rfl⟩ hP hD hS hA hK hN hXs hZs rfl rfl (by decide) (by decide) (by decide) rfl rfl rfl hl.1 rfl (Nat.le_of_ble_eq_true rfl) dL_take_4 ⟨Nat.le_of_ble_eq_true rfl, Nat.le_of_ble_eq_true rfl⟩ (fun E ce q9 H locs hpx hP hD hS hc1 hc2 hc3 => ?_) (fun r u9 H locs hpo hP hD hS => ?_)
  · obtain ⟨u9, hpx⟩ := hpx
    obtain rfl : E = "java/lang/IndexOutOfBoundsException" := hpx
    have hP : va_P (dC, dI) cls [(O, .inl (cL, 1, .inr (.inl g)))] H := hP
    have hD : va_D A [(O, .inl (cL, 1, .inr (.inl g)))] := hD
    refine vx_catch (name := "java/lang/IndexOutOfBoundsException") hown [] _ _ (ht9.trans rfl) (fun z hz => by cases hz) rfl (by decide) (hts _ (tb_in q_cl_L_21)) (va_Nw.use rfl hXs.1.2.2.2.2.2) hc1 hc2 hc3 ?_
    refine lv_astore_n (lv' := [(3, .ref q9), (0, .ref P), (1, .int p0), (2, .ref O)]) hx hb dL_take_12 rfl hl (by decide) rfl (fun ls hl => ?_)
    refine lv_iconst (v := 1) hx hb dL_take_13 (by decide) ?_
    refine k_wid (k := 1) (n := 6) (Nat.le_of_ble_eq_true rfl) (Nat.le_of_ble_eq_true rfl) (vx_ret ?_)
    have hP9 := hP
    have hD9 := hD
    exact W.iret (v := 1) hx hb hr (fun t9 ht9 hW9 => ⟨⟨_, g, rfl, ⟨rfl, fun h => absurd h (by decide)⟩, by rw [ht9]; exact hP9, va_K.moved hW9.alike hK, hD9⟩, hS.F ht9⟩) hS.2.2 dL_take_14
  exact hpo.elim
set_option maxHeartbeats 4000000 in
set_option maxRecDepth 100000 in
theorem h_vehicleOf (l : Launch) (hlT : l.stackTraces = false) (dC : Nat → ClassId) (dI : Nat → Nat → Nat) (cI cV cJ cL : ClassId) (P F G T za : Nat) (fa ia : Nat → Nat) (O : Nat) (g : Nat → Int64) (p0 : Int32) (sz : Nat) : vx_Met l yL_vehicleOf (Cond.codeWith yL_vehicleOf cL_vehicleOf 4 (some .int) [(0, 9, 12, 21)] :: TB) ({ frames := 24, cells := 1, slots := 6, locals := 1200 } : Room) (PXw [.ref P, .int p0, .ref O] (dC, dI) [(P, .inr (5, [.ref F, .ref G, .ref T, .ref za, .ref (ia 0), .ref (ia 1), .ref (ia 2), .int 0, .int 0])), (F, .inr (0, [.ref (fa 0), .ref (fa 1), .ref (fa 2), .ref (fa 3), .ref (fa 4), .ref (fa 5), .ref (fa 6), .ref (fa 7), .ref (fa 8), .int 0, .int 0, .int 0])), (O, .inl (cL, 1, .inr (.inl g)))] (TYP cI cV cJ cL) sz) (va_Qi (fun (r : Int32) (g : Nat → Int64) => r = 1 ∧ (1 = 0 → g 0 = 0)) (QB (dC, dI) (fun (g : Nat → Int64) => [(O, .inl (cL, 1, .inr (.inl g)))]) (TYP cI cV cJ cL) (va_A [(P, .inr (5, [.ref F, .ref G, .ref T, .ref za, .ref (ia 0), .ref (ia 1), .ref (ia 2), .int 0, .int 0])), (F, .inr (0, [.ref (fa 0), .ref (fa 1), .ref (fa 2), .ref (fa 3), .ref (fa 4), .ref (fa 5), .ref (fa 6), .ref (fa 7), .ref (fa 8), .int 0, .int 0, .int 0])), (O, .inl (cL, 1, .inr (.inl g)))] sz)) (va_A [(P, .inr (5, [.ref F, .ref G, .ref T, .ref za, .ref (ia 0), .ref (ia 1), .ref (ia 2), .int 0, .int 0])), (F, .inr (0, [.ref (fa 0), .ref (fa 1), .ref (fa 2), .ref (fa 3), .ref (fa 4), .ref (fa 5), .ref (fa 6), .ref (fa 7), .ref (fa 8), .int 0, .int 0, .int 0])), (O, .inl (cL, 1, .inr (.inl g)))] sz)) (vx_X (fun _ : Unit => False) (fun _ _ _ => True) (va_A [(P, .inr (5, [.ref F, .ref G, .ref T, .ref za, .ref (ia 0), .ref (ia 1), .ref (ia 2), .int 0, .int 0])), (F, .inr (0, [.ref (fa 0), .ref (fa 1), .ref (fa 2), .ref (fa 3), .ref (fa 4), .ref (fa 5), .ref (fa 6), .ref (fa 7), .ref (fa 8), .int 0, .int 0, .int 0])), (O, .inl (cL, 1, .inr (.inl g)))] sz)) 1 6 (va_A [(P, .inr (5, [.ref F, .ref G, .ref T, .ref za, .ref (ia 0), .ref (ia 1), .ref (ia 2), .int 0, .int 0])), (F, .inr (0, [.ref (fa 0), .ref (fa 1), .ref (fa 2), .ref (fa 3), .ref (fa 4), .ref (fa 5), .ref (fa 6), .ref (fa 7), .ref (fa 8), .int 0, .int 0, .int 0])), (O, .inl (cL, 1, .inr (.inl g)))] sz) := by
  refine vx_ofWH (cc := cL_vehicleOf) (maxL := 4) (ret := (some .int)) (hh := [(0, 9, 12, 21)]) (by decide) rfl ?_
  intro p e s m args below meth c s₁ B hml hv
  obtain ⟨rfl, hsz, hP, hK, hD0, hN, hXs, hZs⟩ := hv
  have hx := B.exec
  have hb := B.bytes
  have hr := B.returns
  have hts := atoms_spec (ws := (Cond.codeWith yL_vehicleOf cL_vehicleOf 4 (some .int) [(0, 9, 12, 21)] :: TB)) B.pre
  have hown : s.vm.findClass RL = some m.cls := findClass_of_methodNamed B.named
  have hlocks := B.notSynchronized
  have ht9 := vx_table (x := yL_vehicleOf) B (hts _ List.mem_cons_self)
  subst hsz
  have hD := hD0.self (sz := s.heap.size)
  generalize hAe : va_A [(P, .inr (5, [.ref F, .ref G, .ref T, .ref za, .ref (ia 0), .ref (ia 1), .ref (ia 2), .int 0, .int 0])), (F, .inr (0, [.ref (fa 0), .ref (fa 1), .ref (fa 2), .ref (fa 3), .ref (fa 4), .ref (fa 5), .ref (fa 6), .ref (fa 7), .ref (fa 8), .int 0, .int 0, .int 0])), (O, .inl (cL, 1, .inr (.inl g)))] s.heap.size = A at hD hZs ⊢
  have hA : ∀ q : Nat, s.heap.size ≤ q → A q := fun q h => by rw [← hAe]; exact Or.inr h
  have hS : va_S A s.heap s.heap [] := va_S.rf
  have hl := lv_entry ([.ref P, .int p0, .ref O]) (n := 4) (Nat.le_of_ble_eq_true rfl)
  rw [lg_entry_eq]
  generalize (lg_sl ([.ref P, .int p0, .ref O]) ++ List.replicate (4 - (lg_sl ([.ref P, .int p0, .ref O])).length) Slot.unset).toArray = ls at hl ⊢
  have hl : lv_has ls 4 [(0, .ref P), (1, .int p0), (2, .ref O)] := hl
  refine lv_aload_n hx hb dL_vehicleOf_0 rfl (lv_at hl 2 rfl) ?_
  refine lv_iconst (v := 0) hx hb dL_vehicleOf_1 (by decide) ?_
  refine lv_aload_n hx hb dL_vehicleOf_2 rfl (lv_at hl 0 rfl) ?_
  refine lv_iload_n hx hb dL_vehicleOf_3 rfl (lv_at hl 1 rfl) ?_
  refine x_Vi (ci := 5) (q0 := 0) (wc := [(P, .inr (5, [.ref F, .ref G, .ref T, .ref za, .ref (ia 0), .ref (ia 1), .ref (ia 2), .int 0, .int 0])), (F, .inr (0, [.ref (fa 0), .ref (fa 1), .ref (fa 2), .ref (fa 3), .ref (fa 4), .ref (fa 5), .ref (fa 6), .ref (fa 7), .ref (fa 8), .int 0, .int 0, .int 0]))]) (wr := [(O, .inl (cL, 1, .inr (.inl g)))]) [.int p0] [0, 1] [2] ⟨hx, hb, hml, hown, hts⟩ (fun sz => c_X5_vehicleOf l hlT dC dI cI cV cJ cL P F G T za fa ia 0 0 p0 sz) q_ml_L_60 q_im_X5_vehicleOf q_se_X5_vehicleOf q_ini_X5 q_co_X5_vehicleOf (n := 1) (by decide +kernel) rfl ⟨rfl, rfl⟩ ⟨Nat.le_of_ble_eq_true rfl, Nat.le_of_ble_eq_true rfl⟩ hP hD hS hA hK hN hXs hZs rfl rfl (by decide) (by decide) (by decide) rfl rfl rfl hl.1 rfl (Nat.le_of_ble_eq_true rfl) dL_vehicleOf_4 ⟨Nat.le_of_ble_eq_true rfl, Nat.le_of_ble_eq_true rfl⟩ (fun E ce q9 H locs hpx hP hD hS hc1 hc2 hc3 => ?_) (fun r u9 H locs hpo hP hD hS => ?_)
  · obtain ⟨u9, hpx⟩ := hpx
    obtain rfl : E = "java/lang/IndexOutOfBoundsException" := hpx
    have hP : va_P (dC, dI) cls [(O, .inl (cL, 1, .inr (.inl g)))] H := hP
    have hD : va_D A [(O, .inl (cL, 1, .inr (.inl g)))] := hD
    refine vx_catch (name := "java/lang/IndexOutOfBoundsException") hown [] _ _ (ht9.trans rfl) (fun z hz => by cases hz) rfl (by decide) (hts _ (tb_in q_cl_L_21)) (va_Nw.use rfl hXs.1.2.2.2.2.2) hc1 hc2 hc3 ?_
    refine lv_astore_n (lv' := [(3, .ref q9), (0, .ref P), (1, .int p0), (2, .ref O)]) hx hb dL_vehicleOf_12 rfl hl (by decide) rfl (fun ls hl => ?_)
    refine lv_iconst (v := 1) hx hb dL_vehicleOf_13 (by decide) ?_
    refine k_wid (k := 1) (n := 6) (Nat.le_of_ble_eq_true rfl) (Nat.le_of_ble_eq_true rfl) (vx_ret ?_)
    have hP9 := hP
    have hD9 := hD
    exact W.iret (v := 1) hx hb hr (fun t9 ht9 hW9 => ⟨⟨_, g, rfl, ⟨rfl, fun h => absurd h (by decide)⟩, by rw [ht9]; exact hP9, va_K.moved hW9.alike hK, hD9⟩, hS.F ht9⟩) hS.2.2 dL_vehicleOf_14
  exact hpo.elim
set_option maxHeartbeats 4000000 in
set_option maxRecDepth 100000 in
theorem h_isSet (l : Launch) (hlT : l.stackTraces = false) (dC : Nat → ClassId) (dI : Nat → Nat → Nat) (cI cV cJ cL : ClassId) (P F G T za : Nat) (fa ia : Nat → Nat) (O : Nat) (g : Nat → Int64) (p0 : Int32) (sz : Nat) : vx_Met l yL_isSet (Cond.codeWith yL_isSet cL_isSet 4 (some .int) [(0, 16, 19, 21)] :: TB) ({ frames := 24, cells := 1, slots := 6, locals := 1200 } : Room) (PXw [.ref P, .int p0, .ref O] (dC, dI) [(P, .inr (5, [.ref F, .ref G, .ref T, .ref za, .ref (ia 0), .ref (ia 1), .ref (ia 2), .int 0, .int 0])), (F, .inr (0, [.ref (fa 0), .ref (fa 1), .ref (fa 2), .ref (fa 3), .ref (fa 4), .ref (fa 5), .ref (fa 6), .ref (fa 7), .ref (fa 8), .int 0, .int 0, .int 0])), (O, .inl (cL, 1, .inr (.inl g)))] (TYP cI cV cJ cL) sz) (va_Qi (fun (r : Int32) (g : Nat → Int64) => r = 1 ∧ (1 = 0 → g 0 = 0)) (QB (dC, dI) (fun (g : Nat → Int64) => [(O, .inl (cL, 1, .inr (.inl g)))]) (TYP cI cV cJ cL) (va_A [(P, .inr (5, [.ref F, .ref G, .ref T, .ref za, .ref (ia 0), .ref (ia 1), .ref (ia 2), .int 0, .int 0])), (F, .inr (0, [.ref (fa 0), .ref (fa 1), .ref (fa 2), .ref (fa 3), .ref (fa 4), .ref (fa 5), .ref (fa 6), .ref (fa 7), .ref (fa 8), .int 0, .int 0, .int 0])), (O, .inl (cL, 1, .inr (.inl g)))] sz)) (va_A [(P, .inr (5, [.ref F, .ref G, .ref T, .ref za, .ref (ia 0), .ref (ia 1), .ref (ia 2), .int 0, .int 0])), (F, .inr (0, [.ref (fa 0), .ref (fa 1), .ref (fa 2), .ref (fa 3), .ref (fa 4), .ref (fa 5), .ref (fa 6), .ref (fa 7), .ref (fa 8), .int 0, .int 0, .int 0])), (O, .inl (cL, 1, .inr (.inl g)))] sz)) (vx_X (fun _ : Unit => False) (fun _ _ _ => True) (va_A [(P, .inr (5, [.ref F, .ref G, .ref T, .ref za, .ref (ia 0), .ref (ia 1), .ref (ia 2), .int 0, .int 0])), (F, .inr (0, [.ref (fa 0), .ref (fa 1), .ref (fa 2), .ref (fa 3), .ref (fa 4), .ref (fa 5), .ref (fa 6), .ref (fa 7), .ref (fa 8), .int 0, .int 0, .int 0])), (O, .inl (cL, 1, .inr (.inl g)))] sz)) 1 6 (va_A [(P, .inr (5, [.ref F, .ref G, .ref T, .ref za, .ref (ia 0), .ref (ia 1), .ref (ia 2), .int 0, .int 0])), (F, .inr (0, [.ref (fa 0), .ref (fa 1), .ref (fa 2), .ref (fa 3), .ref (fa 4), .ref (fa 5), .ref (fa 6), .ref (fa 7), .ref (fa 8), .int 0, .int 0, .int 0])), (O, .inl (cL, 1, .inr (.inl g)))] sz) := by
  refine vx_ofWH (cc := cL_isSet) (maxL := 4) (ret := (some .int)) (hh := [(0, 16, 19, 21)]) (by decide) rfl ?_
  intro p e s m args below meth c s₁ B hml hv
  obtain ⟨rfl, hsz, hP, hK, hD0, hN, hXs, hZs⟩ := hv
  have hx := B.exec
  have hb := B.bytes
  have hr := B.returns
  have hts := atoms_spec (ws := (Cond.codeWith yL_isSet cL_isSet 4 (some .int) [(0, 16, 19, 21)] :: TB)) B.pre
  have hown : s.vm.findClass RL = some m.cls := findClass_of_methodNamed B.named
  have hlocks := B.notSynchronized
  have ht9 := vx_table (x := yL_isSet) B (hts _ List.mem_cons_self)
  subst hsz
  have hD := hD0.self (sz := s.heap.size)
  generalize hAe : va_A [(P, .inr (5, [.ref F, .ref G, .ref T, .ref za, .ref (ia 0), .ref (ia 1), .ref (ia 2), .int 0, .int 0])), (F, .inr (0, [.ref (fa 0), .ref (fa 1), .ref (fa 2), .ref (fa 3), .ref (fa 4), .ref (fa 5), .ref (fa 6), .ref (fa 7), .ref (fa 8), .int 0, .int 0, .int 0])), (O, .inl (cL, 1, .inr (.inl g)))] s.heap.size = A at hD hZs ⊢
  have hA : ∀ q : Nat, s.heap.size ≤ q → A q := fun q h => by rw [← hAe]; exact Or.inr h
  have hS : va_S A s.heap s.heap [] := va_S.rf
  have hl := lv_entry ([.ref P, .int p0, .ref O]) (n := 4) (Nat.le_of_ble_eq_true rfl)
  rw [lg_entry_eq]
  generalize (lg_sl ([.ref P, .int p0, .ref O]) ++ List.replicate (4 - (lg_sl ([.ref P, .int p0, .ref O])).length) Slot.unset).toArray = ls at hl ⊢
  have hl : lv_has ls 4 [(0, .ref P), (1, .int p0), (2, .ref O)] := hl
  refine lv_aload_n hx hb dL_isSet_0 rfl (lv_at hl 2 rfl) ?_
  refine lv_iconst (v := 0) hx hb dL_isSet_1 (by decide) ?_
  refine lv_aload_n hx hb dL_isSet_2 rfl (lv_at hl 0 rfl) ?_
  refine lv_iload_n hx hb dL_isSet_3 rfl (lv_at hl 1 rfl) ?_
  refine x_Vi (ci := 5) (q0 := 0) (wc := [(P, .inr (5, [.ref F, .ref G, .ref T, .ref za, .ref (ia 0), .ref (ia 1), .ref (ia 2), .int 0, .int 0])), (F, .inr (0, [.ref (fa 0), .ref (fa 1), .ref (fa 2), .ref (fa 3), .ref (fa 4), .ref (fa 5), .ref (fa 6), .ref (fa 7), .ref (fa 8), .int 0, .int 0, .int 0]))]) (wr := [(O, .inl (cL, 1, .inr (.inl g)))]) [.int p0] [0, 1] [2] ⟨hx, hb, hml, hown, hts⟩ (fun sz => c_X5_isSet l hlT dC dI cI cV cJ cL P F G T za fa ia 0 0 p0 sz) q_ml_L_63 q_im_X5_isSet q_se_X5_isSet q_ini_X5 q_co_X5_isSet (n := 1) (by decide +kernel) rfl ⟨rfl, rfl⟩ ⟨Nat.le_of_ble_eq_true rfl, Nat.le_of_ble_eq_true rfl⟩ hP hD hS hA hK hN hXs hZs rfl rfl (by decide) (by decide) (by decide) rfl rfl rfl hl.1 rfl (Nat.le_of_ble_eq_true rfl) dL_isSet_4 ⟨Nat.le_of_ble_eq_true rfl, Nat.le_of_ble_eq_true rfl⟩ (fun E ce q9 H locs hpx hP hD hS hc1 hc2 hc3 => ?_) (fun r u9 H locs hpo hP hD hS => ?_)
  · obtain ⟨u9, hpx⟩ := hpx
    obtain rfl : E = "java/lang/IndexOutOfBoundsException" := hpx
    have hP : va_P (dC, dI) cls [(O, .inl (cL, 1, .inr (.inl g)))] H := hP
    have hD : va_D A [(O, .inl (cL, 1, .inr (.inl g)))] := hD
    refine vx_catch (name := "java/lang/IndexOutOfBoundsException") hown [] _ _ (ht9.trans rfl) (fun z hz => by cases hz) rfl (by decide) (hts _ (tb_in q_cl_L_21)) (va_Nw.use rfl hXs.1.2.2.2.2.2) hc1 hc2 hc3 ?_
    refine lv_astore_n (lv' := [(3, .ref q9), (0, .ref P), (1, .int p0), (2, .ref O)]) hx hb dL_isSet_19 rfl hl (by decide) rfl (fun ls hl => ?_)
    refine lv_iconst (v := 1) hx hb dL_isSet_20 (by decide) ?_
    refine k_wid (k := 1) (n := 6) (Nat.le_of_ble_eq_true rfl) (Nat.le_of_ble_eq_true rfl) (vx_ret ?_)
    have hP9 := hP
    have hD9 := hD
    exact W.iret (v := 1) hx hb hr (fun t9 ht9 hW9 => ⟨⟨_, g, rfl, ⟨rfl, fun h => absurd h (by decide)⟩, by rw [ht9]; exact hP9, va_K.moved hW9.alike hK, hD9⟩, hS.F ht9⟩) hS.2.2 dL_isSet_21
  exact hpo.elim
set_option maxHeartbeats 4000000 in
set_option maxRecDepth 100000 in
theorem h_wouldAdd (l : Launch) (hlT : l.stackTraces = false) (dC : Nat → ClassId) (dI : Nat → Nat → Nat) (cI cV cJ cL : ClassId) (P F G T za : Nat) (fa ia : Nat → Nat) (O : Nat) (g : Nat → Int64) (p0 p1 : Int32) (sz : Nat) : vx_Met l yL_wouldAdd (Cond.codeWith yL_wouldAdd cL_wouldAdd 5 (some .int) [(0, 10, 13, 21), (0, 10, 17, 15)] :: TB) ({ frames := 24, cells := 1, slots := 6, locals := 1200 } : Room) (PXw [.ref P, .int p0, .int p1, .ref O] (dC, dI) [(P, .inr (5, [.ref F, .ref G, .ref T, .ref za, .ref (ia 0), .ref (ia 1), .ref (ia 2), .int 0, .int 0])), (F, .inr (0, [.ref (fa 0), .ref (fa 1), .ref (fa 2), .ref (fa 3), .ref (fa 4), .ref (fa 5), .ref (fa 6), .ref (fa 7), .ref (fa 8), .int 0, .int 0, .int 0])), (O, .inl (cL, 1, .inr (.inl g)))] (TYP cI cV cJ cL) sz) (va_Qi (fun (r : Int32) (g : Nat → Int64) => r = 1 ∧ (1 = 0 → g 0 = 0)) (QB (dC, dI) (fun (g : Nat → Int64) => [(O, .inl (cL, 1, .inr (.inl g)))]) (TYP cI cV cJ cL) (va_A [(P, .inr (5, [.ref F, .ref G, .ref T, .ref za, .ref (ia 0), .ref (ia 1), .ref (ia 2), .int 0, .int 0])), (F, .inr (0, [.ref (fa 0), .ref (fa 1), .ref (fa 2), .ref (fa 3), .ref (fa 4), .ref (fa 5), .ref (fa 6), .ref (fa 7), .ref (fa 8), .int 0, .int 0, .int 0])), (O, .inl (cL, 1, .inr (.inl g)))] sz)) (va_A [(P, .inr (5, [.ref F, .ref G, .ref T, .ref za, .ref (ia 0), .ref (ia 1), .ref (ia 2), .int 0, .int 0])), (F, .inr (0, [.ref (fa 0), .ref (fa 1), .ref (fa 2), .ref (fa 3), .ref (fa 4), .ref (fa 5), .ref (fa 6), .ref (fa 7), .ref (fa 8), .int 0, .int 0, .int 0])), (O, .inl (cL, 1, .inr (.inl g)))] sz)) (vx_X (fun _ : Unit => False) (fun _ _ _ => True) (va_A [(P, .inr (5, [.ref F, .ref G, .ref T, .ref za, .ref (ia 0), .ref (ia 1), .ref (ia 2), .int 0, .int 0])), (F, .inr (0, [.ref (fa 0), .ref (fa 1), .ref (fa 2), .ref (fa 3), .ref (fa 4), .ref (fa 5), .ref (fa 6), .ref (fa 7), .ref (fa 8), .int 0, .int 0, .int 0])), (O, .inl (cL, 1, .inr (.inl g)))] sz)) 1 6 (va_A [(P, .inr (5, [.ref F, .ref G, .ref T, .ref za, .ref (ia 0), .ref (ia 1), .ref (ia 2), .int 0, .int 0])), (F, .inr (0, [.ref (fa 0), .ref (fa 1), .ref (fa 2), .ref (fa 3), .ref (fa 4), .ref (fa 5), .ref (fa 6), .ref (fa 7), .ref (fa 8), .int 0, .int 0, .int 0])), (O, .inl (cL, 1, .inr (.inl g)))] sz) := by
  refine vx_ofWH (cc := cL_wouldAdd) (maxL := 5) (ret := (some .int)) (hh := [(0, 10, 13, 21), (0, 10, 17, 15)]) (by decide) rfl ?_
  intro p e s m args below meth c s₁ B hml hv
  obtain ⟨rfl, hsz, hP, hK, hD0, hN, hXs, hZs⟩ := hv
  have hx := B.exec
  have hb := B.bytes
  have hr := B.returns
  have hts := atoms_spec (ws := (Cond.codeWith yL_wouldAdd cL_wouldAdd 5 (some .int) [(0, 10, 13, 21), (0, 10, 17, 15)] :: TB)) B.pre
  have hown : s.vm.findClass RL = some m.cls := findClass_of_methodNamed B.named
  have hlocks := B.notSynchronized
  have ht9 := vx_table (x := yL_wouldAdd) B (hts _ List.mem_cons_self)
  subst hsz
  have hD := hD0.self (sz := s.heap.size)
  generalize hAe : va_A [(P, .inr (5, [.ref F, .ref G, .ref T, .ref za, .ref (ia 0), .ref (ia 1), .ref (ia 2), .int 0, .int 0])), (F, .inr (0, [.ref (fa 0), .ref (fa 1), .ref (fa 2), .ref (fa 3), .ref (fa 4), .ref (fa 5), .ref (fa 6), .ref (fa 7), .ref (fa 8), .int 0, .int 0, .int 0])), (O, .inl (cL, 1, .inr (.inl g)))] s.heap.size = A at hD hZs ⊢
  have hA : ∀ q : Nat, s.heap.size ≤ q → A q := fun q h => by rw [← hAe]; exact Or.inr h
  have hS : va_S A s.heap s.heap [] := va_S.rf
  have hl := lv_entry ([.ref P, .int p0, .int p1, .ref O]) (n := 5) (Nat.le_of_ble_eq_true rfl)
  rw [lg_entry_eq]
  generalize (lg_sl ([.ref P, .int p0, .int p1, .ref O]) ++ List.replicate (5 - (lg_sl ([.ref P, .int p0, .int p1, .ref O])).length) Slot.unset).toArray = ls at hl ⊢
  have hl : lv_has ls 5 [(0, .ref P), (1, .int p0), (2, .int p1), (3, .ref O)] := hl
  refine lv_aload_n hx hb dL_wouldAdd_0 rfl (lv_at hl 3 rfl) ?_
  refine lv_iconst (v := 0) hx hb dL_wouldAdd_1 (by decide) ?_
  refine lv_aload_n hx hb dL_wouldAdd_2 rfl (lv_at hl 0 rfl) ?_
  refine lv_iload_n hx hb dL_wouldAdd_3 rfl (lv_at hl 1 rfl) ?_
  refine lv_iload_n hx hb dL_wouldAdd_4 rfl (lv_at hl 2 rfl) ?_
  refine x_Vi (ci := 5) (q0 := 0) (wc := [(P, .inr (5, [.ref F, .ref G, .ref T, .ref za, .ref (ia 0), .ref (ia 1), .ref (ia 2), .int 0, .int 0])), (F, .inr (0, [.ref (fa 0), .ref (fa 1), .ref (fa 2), .ref (fa 3), .ref (fa 4), .ref (fa 5), .ref (fa 6), .ref (fa 7), .ref (fa 8), .int 0, .int 0, .int 0]))]) (wr := [(O, .inl (cL, 1, .inr (.inl g)))]) [.int p0, .int p1] [0, 1] [2] ⟨hx, hb, hml, hown, hts⟩ (fun sz => c_X5_wouldAdd l hlT dC dI cI cV cJ cL P F G T za fa ia 0 0 p0 p1 sz) q_ml_L_107 q_im_X5_wouldAdd q_se_X5_wouldAdd q_ini_X5 q_co_X5_wouldAdd (n := 2) (by decide +kernel) rfl ⟨rfl, rfl⟩ ⟨Nat.le_of_ble_eq_true rfl, Nat.le_of_ble_eq_true rfl⟩ hP hD hS hA hK hN hXs hZs rfl rfl (by decide) (by decide) (by decide) rfl rfl rfl hl.1 rfl (Nat.le_of_ble_eq_true rfl) dL_wouldAdd_5 ⟨Nat.le_of_ble_eq_true rfl, Nat.le_of_ble_eq_true rfl⟩ (fun E ce q9 H locs hpx hP hD hS hc1 hc2 hc3 => ?_) (fun r u9 H locs hpo hP hD hS => ?_)
  · obtain ⟨u9, hpx⟩ := hpx
    obtain rfl : E = "java/lang/IndexOutOfBoundsException" := hpx
    have hP : va_P (dC, dI) cls [(O, .inl (cL, 1, .inr (.inl g)))] H := hP
    have hD : va_D A [(O, .inl (cL, 1, .inr (.inl g)))] := hD
    refine vx_catch (name := "java/lang/IndexOutOfBoundsException") hown [] _ _ (ht9.trans rfl) (fun z hz => by cases hz) rfl (by decide) (hts _ (tb_in q_cl_L_21)) (va_Nw.use rfl hXs.1.2.2.2.2.2) hc1 hc2 hc3 ?_
    refine lv_astore (lv' := [(4, .ref q9), (0, .ref P), (1, .int p0), (2, .int p1), (3, .ref O)]) hx hb dL_wouldAdd_13 hl (by decide) rfl (fun ls hl => ?_)
    refine lv_iconst (v := 1) hx hb dL_wouldAdd_15 (by decide) ?_
    refine k_wid (k := 1) (n := 6) (Nat.le_of_ble_eq_true rfl) (Nat.le_of_ble_eq_true rfl) (vx_ret ?_)
    have hP9 := hP
    have hD9 := hD
    exact W.iret (v := 1) hx hb hr (fun t9 ht9 hW9 => ⟨⟨_, g, rfl, ⟨rfl, fun h => absurd h (by decide)⟩, by rw [ht9]; exact hP9, va_K.moved hW9.alike hK, hD9⟩, hS.F ht9⟩) hS.2.2 dL_wouldAdd_16
  exact hpo.elim
set_option maxHeartbeats 4000000 in
set_option maxRecDepth 100000 in
theorem h_costWithout (l : Launch) (hlT : l.stackTraces = false) (dC : Nat → ClassId) (dI : Nat → Nat → Nat) (cI cV cJ cL : ClassId) (P F G T za : Nat) (fa ia : Nat → Nat) (O : Nat) (g : Nat → Int64) (p0 : Int32) (sz : Nat) : vx_Met l yL_costWithout (Cond.codeWith yL_costWithout cL_costWithout 4 (some .int) [(0, 9, 12, 21)] :: TB) ({ frames := 24, cells := 1, slots := 6, locals := 1200 } : Room) (PXw [.ref P, .int p0, .ref O] (dC, dI) [(P, .inr (5, [.ref F, .ref G, .ref T, .ref za, .ref (ia 0), .ref (ia 1), .ref (ia 2), .int 0, .int 0])), (F, .inr (0, [.ref (fa 0), .ref (fa 1), .ref (fa 2), .ref (fa 3), .ref (fa 4), .ref (fa 5), .ref (fa 6), .ref (fa 7), .ref (fa 8), .int 0, .int 0, .int 0])), (O, .inl (cL, 1, .inr (.inl g)))] (TYP cI cV cJ cL) sz) (va_Qi (fun (r : Int32) (g : Nat → Int64) => r = 1 ∧ (1 = 0 → g 0 = 0)) (QB (dC, dI) (fun (g : Nat → Int64) => [(O, .inl (cL, 1, .inr (.inl g)))]) (TYP cI cV cJ cL) (va_A [(P, .inr (5, [.ref F, .ref G, .ref T, .ref za, .ref (ia 0), .ref (ia 1), .ref (ia 2), .int 0, .int 0])), (F, .inr (0, [.ref (fa 0), .ref (fa 1), .ref (fa 2), .ref (fa 3), .ref (fa 4), .ref (fa 5), .ref (fa 6), .ref (fa 7), .ref (fa 8), .int 0, .int 0, .int 0])), (O, .inl (cL, 1, .inr (.inl g)))] sz)) (va_A [(P, .inr (5, [.ref F, .ref G, .ref T, .ref za, .ref (ia 0), .ref (ia 1), .ref (ia 2), .int 0, .int 0])), (F, .inr (0, [.ref (fa 0), .ref (fa 1), .ref (fa 2), .ref (fa 3), .ref (fa 4), .ref (fa 5), .ref (fa 6), .ref (fa 7), .ref (fa 8), .int 0, .int 0, .int 0])), (O, .inl (cL, 1, .inr (.inl g)))] sz)) (vx_X (fun _ : Unit => False) (fun _ _ _ => True) (va_A [(P, .inr (5, [.ref F, .ref G, .ref T, .ref za, .ref (ia 0), .ref (ia 1), .ref (ia 2), .int 0, .int 0])), (F, .inr (0, [.ref (fa 0), .ref (fa 1), .ref (fa 2), .ref (fa 3), .ref (fa 4), .ref (fa 5), .ref (fa 6), .ref (fa 7), .ref (fa 8), .int 0, .int 0, .int 0])), (O, .inl (cL, 1, .inr (.inl g)))] sz)) 1 6 (va_A [(P, .inr (5, [.ref F, .ref G, .ref T, .ref za, .ref (ia 0), .ref (ia 1), .ref (ia 2), .int 0, .int 0])), (F, .inr (0, [.ref (fa 0), .ref (fa 1), .ref (fa 2), .ref (fa 3), .ref (fa 4), .ref (fa 5), .ref (fa 6), .ref (fa 7), .ref (fa 8), .int 0, .int 0, .int 0])), (O, .inl (cL, 1, .inr (.inl g)))] sz) := by
  refine vx_ofWH (cc := cL_costWithout) (maxL := 4) (ret := (some .int)) (hh := [(0, 9, 12, 21)]) (by decide) rfl ?_
  intro p e s m args below meth c s₁ B hml hv
  obtain ⟨rfl, hsz, hP, hK, hD0, hN, hXs, hZs⟩ := hv
  have hx := B.exec
  have hb := B.bytes
  have hr := B.returns
  have hts := atoms_spec (ws := (Cond.codeWith yL_costWithout cL_costWithout 4 (some .int) [(0, 9, 12, 21)] :: TB)) B.pre
  have hown : s.vm.findClass RL = some m.cls := findClass_of_methodNamed B.named
  have hlocks := B.notSynchronized
  have ht9 := vx_table (x := yL_costWithout) B (hts _ List.mem_cons_self)
  subst hsz
  have hD := hD0.self (sz := s.heap.size)
  generalize hAe : va_A [(P, .inr (5, [.ref F, .ref G, .ref T, .ref za, .ref (ia 0), .ref (ia 1), .ref (ia 2), .int 0, .int 0])), (F, .inr (0, [.ref (fa 0), .ref (fa 1), .ref (fa 2), .ref (fa 3), .ref (fa 4), .ref (fa 5), .ref (fa 6), .ref (fa 7), .ref (fa 8), .int 0, .int 0, .int 0])), (O, .inl (cL, 1, .inr (.inl g)))] s.heap.size = A at hD hZs ⊢
  have hA : ∀ q : Nat, s.heap.size ≤ q → A q := fun q h => by rw [← hAe]; exact Or.inr h
  have hS : va_S A s.heap s.heap [] := va_S.rf
  have hl := lv_entry ([.ref P, .int p0, .ref O]) (n := 4) (Nat.le_of_ble_eq_true rfl)
  rw [lg_entry_eq]
  generalize (lg_sl ([.ref P, .int p0, .ref O]) ++ List.replicate (4 - (lg_sl ([.ref P, .int p0, .ref O])).length) Slot.unset).toArray = ls at hl ⊢
  have hl : lv_has ls 4 [(0, .ref P), (1, .int p0), (2, .ref O)] := hl
  refine lv_aload_n hx hb dL_costWithout_0 rfl (lv_at hl 2 rfl) ?_
  refine lv_iconst (v := 0) hx hb dL_costWithout_1 (by decide) ?_
  refine lv_aload_n hx hb dL_costWithout_2 rfl (lv_at hl 0 rfl) ?_
  refine lv_iload_n hx hb dL_costWithout_3 rfl (lv_at hl 1 rfl) ?_
  refine x_Vi (ci := 5) (q0 := 0) (wc := [(P, .inr (5, [.ref F, .ref G, .ref T, .ref za, .ref (ia 0), .ref (ia 1), .ref (ia 2), .int 0, .int 0])), (F, .inr (0, [.ref (fa 0), .ref (fa 1), .ref (fa 2), .ref (fa 3), .ref (fa 4), .ref (fa 5), .ref (fa 6), .ref (fa 7), .ref (fa 8), .int 0, .int 0, .int 0]))]) (wr := [(O, .inl (cL, 1, .inr (.inl g)))]) [.int p0] [0, 1] [2] ⟨hx, hb, hml, hown, hts⟩ (fun sz => c_X5_costWithout l hlT dC dI cI cV cJ cL P F G T za fa ia 0 0 p0 sz) q_ml_L_117 q_im_X5_costWithout q_se_X5_costWithout q_ini_X5 q_co_X5_costWithout (n := 1) (by decide +kernel) rfl ⟨rfl, rfl⟩ ⟨Nat.le_of_ble_eq_true rfl, Nat.le_of_ble_eq_true rfl⟩ hP hD hS hA hK hN hXs hZs rfl rfl (by decide) (by decide) (by decide) rfl rfl rfl hl.1 rfl (Nat.le_of_ble_eq_true rfl) dL_costWithout_4 ⟨Nat.le_of_ble_eq_true rfl, Nat.le_of_ble_eq_true rfl⟩ (fun E ce q9 H locs hpx hP hD hS hc1 hc2 hc3 => ?_) (fun r u9 H locs hpo hP hD hS => ?_)
  · obtain ⟨u9, hpx⟩ := hpx
    obtain rfl : E = "java/lang/IndexOutOfBoundsException" := hpx
    have hP : va_P (dC, dI) cls [(O, .inl (cL, 1, .inr (.inl g)))] H := hP
    have hD : va_D A [(O, .inl (cL, 1, .inr (.inl g)))] := hD
    refine vx_catch (name := "java/lang/IndexOutOfBoundsException") hown [] _ _ (ht9.trans rfl) (fun z hz => by cases hz) rfl (by decide) (hts _ (tb_in q_cl_L_21)) (va_Nw.use rfl hXs.1.2.2.2.2.2) hc1 hc2 hc3 ?_
    refine lv_astore_n (lv' := [(3, .ref q9), (0, .ref P), (1, .int p0), (2, .ref O)]) hx hb dL_costWithout_12 rfl hl (by decide) rfl (fun ls hl => ?_)
    refine lv_iconst (v := 1) hx hb dL_costWithout_13 (by decide) ?_
    refine k_wid (k := 1) (n := 6) (Nat.le_of_ble_eq_true rfl) (Nat.le_of_ble_eq_true rfl) (vx_ret ?_)
    have hP9 := hP
    have hD9 := hD
    exact W.iret (v := 1) hx hb hr (fun t9 ht9 hW9 => ⟨⟨_, g, rfl, ⟨rfl, fun h => absurd h (by decide)⟩, by rw [ht9]; exact hP9, va_K.moved hW9.alike hK, hD9⟩, hS.F ht9⟩) hS.2.2 dL_costWithout_14
  exact hpo.elim
set_option maxHeartbeats 4000000 in
set_option maxRecDepth 100000 in
theorem h_repair (l : Launch) (hlT : l.stackTraces = false) (dC : Nat → ClassId) (dI : Nat → Nat → Nat) (cI cV cJ cL : ClassId) (P F G T za : Nat) (fa ia : Nat → Nat) (O : Nat) (g : Nat → Int64) (p0 : Int32) (sz : Nat) : vx_Met l yL_repair (Cond.codeWith yL_repair cL_repair 4 (some .int) [(0, 9, 12, 21)] :: TB) ({ frames := 24, cells := 1, slots := 6, locals := 1200 } : Room) (PXw [.ref P, .int p0, .ref O] (dC, dI) [(P, .inr (5, [.ref F, .ref G, .ref T, .ref za, .ref (ia 0), .ref (ia 1), .ref (ia 2), .int 0, .int 0])), (F, .inr (0, [.ref (fa 0), .ref (fa 1), .ref (fa 2), .ref (fa 3), .ref (fa 4), .ref (fa 5), .ref (fa 6), .ref (fa 7), .ref (fa 8), .int 0, .int 0, .int 0])), (O, .inl (cL, 1, .inr (.inl g)))] (TYP cI cV cJ cL) sz) (va_Qi (fun (r : Int32) (g : Nat → Int64) => r = 1 ∧ (1 = 0 → g 0 = 0)) (QB (dC, dI) (fun (g : Nat → Int64) => [(O, .inl (cL, 1, .inr (.inl g)))]) (TYP cI cV cJ cL) (va_A [(P, .inr (5, [.ref F, .ref G, .ref T, .ref za, .ref (ia 0), .ref (ia 1), .ref (ia 2), .int 0, .int 0])), (F, .inr (0, [.ref (fa 0), .ref (fa 1), .ref (fa 2), .ref (fa 3), .ref (fa 4), .ref (fa 5), .ref (fa 6), .ref (fa 7), .ref (fa 8), .int 0, .int 0, .int 0])), (O, .inl (cL, 1, .inr (.inl g)))] sz)) (va_A [(P, .inr (5, [.ref F, .ref G, .ref T, .ref za, .ref (ia 0), .ref (ia 1), .ref (ia 2), .int 0, .int 0])), (F, .inr (0, [.ref (fa 0), .ref (fa 1), .ref (fa 2), .ref (fa 3), .ref (fa 4), .ref (fa 5), .ref (fa 6), .ref (fa 7), .ref (fa 8), .int 0, .int 0, .int 0])), (O, .inl (cL, 1, .inr (.inl g)))] sz)) (vx_X (fun _ : Unit => False) (fun _ _ _ => True) (va_A [(P, .inr (5, [.ref F, .ref G, .ref T, .ref za, .ref (ia 0), .ref (ia 1), .ref (ia 2), .int 0, .int 0])), (F, .inr (0, [.ref (fa 0), .ref (fa 1), .ref (fa 2), .ref (fa 3), .ref (fa 4), .ref (fa 5), .ref (fa 6), .ref (fa 7), .ref (fa 8), .int 0, .int 0, .int 0])), (O, .inl (cL, 1, .inr (.inl g)))] sz)) 1 6 (va_A [(P, .inr (5, [.ref F, .ref G, .ref T, .ref za, .ref (ia 0), .ref (ia 1), .ref (ia 2), .int 0, .int 0])), (F, .inr (0, [.ref (fa 0), .ref (fa 1), .ref (fa 2), .ref (fa 3), .ref (fa 4), .ref (fa 5), .ref (fa 6), .ref (fa 7), .ref (fa 8), .int 0, .int 0, .int 0])), (O, .inl (cL, 1, .inr (.inl g)))] sz) := by
  refine vx_ofWH (cc := cL_repair) (maxL := 4) (ret := (some .int)) (hh := [(0, 9, 12, 21)]) (by decide) rfl ?_
  intro p e s m args below meth c s₁ B hml hv
  obtain ⟨rfl, hsz, hP, hK, hD0, hN, hXs, hZs⟩ := hv
  have hx := B.exec
  have hb := B.bytes
  have hr := B.returns
  have hts := atoms_spec (ws := (Cond.codeWith yL_repair cL_repair 4 (some .int) [(0, 9, 12, 21)] :: TB)) B.pre
  have hown : s.vm.findClass RL = some m.cls := findClass_of_methodNamed B.named
  have hlocks := B.notSynchronized
  have ht9 := vx_table (x := yL_repair) B (hts _ List.mem_cons_self)
  subst hsz
  have hD := hD0.self (sz := s.heap.size)
  generalize hAe : va_A [(P, .inr (5, [.ref F, .ref G, .ref T, .ref za, .ref (ia 0), .ref (ia 1), .ref (ia 2), .int 0, .int 0])), (F, .inr (0, [.ref (fa 0), .ref (fa 1), .ref (fa 2), .ref (fa 3), .ref (fa 4), .ref (fa 5), .ref (fa 6), .ref (fa 7), .ref (fa 8), .int 0, .int 0, .int 0])), (O, .inl (cL, 1, .inr (.inl g)))] s.heap.size = A at hD hZs ⊢
  have hA : ∀ q : Nat, s.heap.size ≤ q → A q := fun q h => by rw [← hAe]; exact Or.inr h
  have hS : va_S A s.heap s.heap [] := va_S.rf
  have hl := lv_entry ([.ref P, .int p0, .ref O]) (n := 4) (Nat.le_of_ble_eq_true rfl)
  rw [lg_entry_eq]
  generalize (lg_sl ([.ref P, .int p0, .ref O]) ++ List.replicate (4 - (lg_sl ([.ref P, .int p0, .ref O])).length) Slot.unset).toArray = ls at hl ⊢
  have hl : lv_has ls 4 [(0, .ref P), (1, .int p0), (2, .ref O)] := hl
  refine lv_aload_n hx hb dL_repair_0 rfl (lv_at hl 2 rfl) ?_
  refine lv_iconst (v := 0) hx hb dL_repair_1 (by decide) ?_
  refine lv_aload_n hx hb dL_repair_2 rfl (lv_at hl 0 rfl) ?_
  refine lv_iload_n hx hb dL_repair_3 rfl (lv_at hl 1 rfl) ?_
  refine x_Vi (ci := 5) (q0 := 0) (wc := [(P, .inr (5, [.ref F, .ref G, .ref T, .ref za, .ref (ia 0), .ref (ia 1), .ref (ia 2), .int 0, .int 0])), (F, .inr (0, [.ref (fa 0), .ref (fa 1), .ref (fa 2), .ref (fa 3), .ref (fa 4), .ref (fa 5), .ref (fa 6), .ref (fa 7), .ref (fa 8), .int 0, .int 0, .int 0]))]) (wr := [(O, .inl (cL, 1, .inr (.inl g)))]) [.int p0] [0, 1] [2] ⟨hx, hb, hml, hown, hts⟩ (fun sz => c_X5_repair l hlT dC dI cI cV cJ cL P F G T za fa ia 0 0 p0 sz) q_ml_L_51 q_im_X5_repair q_se_X5_repair q_ini_X5 q_co_X5_repair (n := 1) (by decide +kernel) rfl ⟨rfl, rfl⟩ ⟨Nat.le_of_ble_eq_true rfl, Nat.le_of_ble_eq_true rfl⟩ hP hD hS hA hK hN hXs hZs rfl rfl (by decide) (by decide) (by decide) rfl rfl rfl hl.1 rfl (Nat.le_of_ble_eq_true rfl) dL_repair_4 ⟨Nat.le_of_ble_eq_true rfl, Nat.le_of_ble_eq_true rfl⟩ (fun E ce q9 H locs hpx hP hD hS hc1 hc2 hc3 => ?_) (fun r u9 H locs hpo hP hD hS => ?_)
  · obtain ⟨u9, hpx⟩ := hpx
    obtain rfl : E = "java/lang/IndexOutOfBoundsException" := hpx
    have hP : va_P (dC, dI) cls [(O, .inl (cL, 1, .inr (.inl g)))] H := hP
    have hD : va_D A [(O, .inl (cL, 1, .inr (.inl g)))] := hD
    refine vx_catch (name := "java/lang/IndexOutOfBoundsException") hown [] _ _ (ht9.trans rfl) (fun z hz => by cases hz) rfl (by decide) (hts _ (tb_in q_cl_L_21)) (va_Nw.use rfl hXs.1.2.2.2.2.2) hc1 hc2 hc3 ?_
    refine lv_astore_n (lv' := [(3, .ref q9), (0, .ref P), (1, .int p0), (2, .ref O)]) hx hb dL_repair_12 rfl hl (by decide) rfl (fun ls hl => ?_)
    refine lv_iconst (v := 1) hx hb dL_repair_13 (by decide) ?_
    refine k_wid (k := 1) (n := 6) (Nat.le_of_ble_eq_true rfl) (Nat.le_of_ble_eq_true rfl) (vx_ret ?_)
    have hP9 := hP
    have hD9 := hD
    exact W.iret (v := 1) hx hb hr (fun t9 ht9 hW9 => ⟨⟨_, g, rfl, ⟨rfl, fun h => absurd h (by decide)⟩, by rw [ht9]; exact hP9, va_K.moved hW9.alike hK, hD9⟩, hS.F ht9⟩) hS.2.2 dL_repair_14
  exact hpo.elim
set_option maxHeartbeats 4000000 in
set_option maxRecDepth 100000 in
theorem h_stops (l : Launch) (hlT : l.stackTraces = false) (dC : Nat → ClassId) (dI : Nat → Nat → Nat) (cI cV cJ cL : ClassId) (P F G T za : Nat) (fa ia : Nat → Nat) (O : Nat) (g : Nat → Int64) (p0 : Int32) (sz : Nat) : vx_Met l yL_stops (Cond.codeWith yL_stops cL_stops 4 (some .int) [(0, 9, 12, 21)] :: TB) ({ frames := 24, cells := 1, slots := 6, locals := 1200 } : Room) (PXw [.ref P, .int p0, .ref O] (dC, dI) [(P, .inr (5, [.ref F, .ref G, .ref T, .ref za, .ref (ia 0), .ref (ia 1), .ref (ia 2), .int 0, .int 0])), (F, .inr (0, [.ref (fa 0), .ref (fa 1), .ref (fa 2), .ref (fa 3), .ref (fa 4), .ref (fa 5), .ref (fa 6), .ref (fa 7), .ref (fa 8), .int 0, .int 0, .int 0])), (O, .inl (cL, 1, .inr (.inl g)))] (TYP cI cV cJ cL) sz) (va_Qi (fun (r : Int32) (g : Nat → Int64) => r = 1 ∧ (1 = 0 → g 0 = 0)) (QB (dC, dI) (fun (g : Nat → Int64) => [(O, .inl (cL, 1, .inr (.inl g)))]) (TYP cI cV cJ cL) (va_A [(P, .inr (5, [.ref F, .ref G, .ref T, .ref za, .ref (ia 0), .ref (ia 1), .ref (ia 2), .int 0, .int 0])), (F, .inr (0, [.ref (fa 0), .ref (fa 1), .ref (fa 2), .ref (fa 3), .ref (fa 4), .ref (fa 5), .ref (fa 6), .ref (fa 7), .ref (fa 8), .int 0, .int 0, .int 0])), (O, .inl (cL, 1, .inr (.inl g)))] sz)) (va_A [(P, .inr (5, [.ref F, .ref G, .ref T, .ref za, .ref (ia 0), .ref (ia 1), .ref (ia 2), .int 0, .int 0])), (F, .inr (0, [.ref (fa 0), .ref (fa 1), .ref (fa 2), .ref (fa 3), .ref (fa 4), .ref (fa 5), .ref (fa 6), .ref (fa 7), .ref (fa 8), .int 0, .int 0, .int 0])), (O, .inl (cL, 1, .inr (.inl g)))] sz)) (vx_X (fun _ : Unit => False) (fun _ _ _ => True) (va_A [(P, .inr (5, [.ref F, .ref G, .ref T, .ref za, .ref (ia 0), .ref (ia 1), .ref (ia 2), .int 0, .int 0])), (F, .inr (0, [.ref (fa 0), .ref (fa 1), .ref (fa 2), .ref (fa 3), .ref (fa 4), .ref (fa 5), .ref (fa 6), .ref (fa 7), .ref (fa 8), .int 0, .int 0, .int 0])), (O, .inl (cL, 1, .inr (.inl g)))] sz)) 1 6 (va_A [(P, .inr (5, [.ref F, .ref G, .ref T, .ref za, .ref (ia 0), .ref (ia 1), .ref (ia 2), .int 0, .int 0])), (F, .inr (0, [.ref (fa 0), .ref (fa 1), .ref (fa 2), .ref (fa 3), .ref (fa 4), .ref (fa 5), .ref (fa 6), .ref (fa 7), .ref (fa 8), .int 0, .int 0, .int 0])), (O, .inl (cL, 1, .inr (.inl g)))] sz) := by
  refine vx_ofWH (cc := cL_stops) (maxL := 4) (ret := (some .int)) (hh := [(0, 9, 12, 21)]) (by decide) rfl ?_
  intro p e s m args below meth c s₁ B hml hv
  obtain ⟨rfl, hsz, hP, hK, hD0, hN, hXs, hZs⟩ := hv
  have hx := B.exec
  have hb := B.bytes
  have hr := B.returns
  have hts := atoms_spec (ws := (Cond.codeWith yL_stops cL_stops 4 (some .int) [(0, 9, 12, 21)] :: TB)) B.pre
  have hown : s.vm.findClass RL = some m.cls := findClass_of_methodNamed B.named
  have hlocks := B.notSynchronized
  have ht9 := vx_table (x := yL_stops) B (hts _ List.mem_cons_self)
  subst hsz
  have hD := hD0.self (sz := s.heap.size)
  generalize hAe : va_A [(P, .inr (5, [.ref F, .ref G, .ref T, .ref za, .ref (ia 0), .ref (ia 1), .ref (ia 2), .int 0, .int 0])), (F, .inr (0, [.ref (fa 0), .ref (fa 1), .ref (fa 2), .ref (fa 3), .ref (fa 4), .ref (fa 5), .ref (fa 6), .ref (fa 7), .ref (fa 8), .int 0, .int 0, .int 0])), (O, .inl (cL, 1, .inr (.inl g)))] s.heap.size = A at hD hZs ⊢
  have hA : ∀ q : Nat, s.heap.size ≤ q → A q := fun q h => by rw [← hAe]; exact Or.inr h
  have hS : va_S A s.heap s.heap [] := va_S.rf
  have hl := lv_entry ([.ref P, .int p0, .ref O]) (n := 4) (Nat.le_of_ble_eq_true rfl)
  rw [lg_entry_eq]
  generalize (lg_sl ([.ref P, .int p0, .ref O]) ++ List.replicate (4 - (lg_sl ([.ref P, .int p0, .ref O])).length) Slot.unset).toArray = ls at hl ⊢
  have hl : lv_has ls 4 [(0, .ref P), (1, .int p0), (2, .ref O)] := hl
  refine lv_aload_n hx hb dL_stops_0 rfl (lv_at hl 2 rfl) ?_
  refine lv_iconst (v := 0) hx hb dL_stops_1 (by decide) ?_
  refine lv_aload_n hx hb dL_stops_2 rfl (lv_at hl 0 rfl) ?_
  refine lv_iload_n hx hb dL_stops_3 rfl (lv_at hl 1 rfl) ?_
  refine x_Vi (ci := 5) (q0 := 0) (wc := [(P, .inr (5, [.ref F, .ref G, .ref T, .ref za, .ref (ia 0), .ref (ia 1), .ref (ia 2), .int 0, .int 0])), (F, .inr (0, [.ref (fa 0), .ref (fa 1), .ref (fa 2), .ref (fa 3), .ref (fa 4), .ref (fa 5), .ref (fa 6), .ref (fa 7), .ref (fa 8), .int 0, .int 0, .int 0]))]) (wr := [(O, .inl (cL, 1, .inr (.inl g)))]) [.int p0] [0, 1] [2] ⟨hx, hb, hml, hown, hts⟩ (fun sz => c_X5_stops l hlT dC dI cI cV cJ cL P F G T za fa ia 0 0 p0 sz) q_ml_L_67 q_im_X5_stops q_se_X5_stops q_ini_X5 q_co_X5_stops (n := 1) (by decide +kernel) rfl ⟨rfl, rfl⟩ ⟨Nat.le_of_ble_eq_true rfl, Nat.le_of_ble_eq_true rfl⟩ hP hD hS hA hK hN hXs hZs rfl rfl (by decide) (by decide) (by decide) rfl rfl rfl hl.1 rfl (Nat.le_of_ble_eq_true rfl) dL_stops_4 ⟨Nat.le_of_ble_eq_true rfl, Nat.le_of_ble_eq_true rfl⟩ (fun E ce q9 H locs hpx hP hD hS hc1 hc2 hc3 => ?_) (fun r u9 H locs hpo hP hD hS => ?_)
  · obtain ⟨u9, hpx⟩ := hpx
    obtain rfl : E = "java/lang/IndexOutOfBoundsException" := hpx
    have hP : va_P (dC, dI) cls [(O, .inl (cL, 1, .inr (.inl g)))] H := hP
    have hD : va_D A [(O, .inl (cL, 1, .inr (.inl g)))] := hD
    refine vx_catch (name := "java/lang/IndexOutOfBoundsException") hown [] _ _ (ht9.trans rfl) (fun z hz => by cases hz) rfl (by decide) (hts _ (tb_in q_cl_L_21)) (va_Nw.use rfl hXs.1.2.2.2.2.2) hc1 hc2 hc3 ?_
    refine lv_astore_n (lv' := [(3, .ref q9), (0, .ref P), (1, .int p0), (2, .ref O)]) hx hb dL_stops_12 rfl hl (by decide) rfl (fun ls hl => ?_)
    refine lv_iconst (v := 1) hx hb dL_stops_13 (by decide) ?_
    refine k_wid (k := 1) (n := 6) (Nat.le_of_ble_eq_true rfl) (Nat.le_of_ble_eq_true rfl) (vx_ret ?_)
    have hP9 := hP
    have hD9 := hD
    exact W.iret (v := 1) hx hb hr (fun t9 ht9 hW9 => ⟨⟨_, g, rfl, ⟨rfl, fun h => absurd h (by decide)⟩, by rw [ht9]; exact hP9, va_K.moved hW9.alike hK, hD9⟩, hS.F ht9⟩) hS.2.2 dL_stops_14
  exact hpo.elim
set_option maxHeartbeats 4000000 in
set_option maxRecDepth 100000 in
theorem h_setStops (l : Launch) (hlT : l.stackTraces = false) (dC : Nat → ClassId) (dI : Nat → Nat → Nat) (cI cV cJ cL : ClassId) (P F G T za : Nat) (fa ia : Nat → Nat) (O : Nat) (g : Nat → Int64) (p0 : Int32) (sz : Nat) : vx_Met l yL_setStops (Cond.codeWith yL_setStops cL_setStops 4 (some .int) [(0, 9, 12, 21)] :: TB) ({ frames := 24, cells := 1, slots := 6, locals := 1200 } : Room) (PXw [.ref P, .int p0, .ref O] (dC, dI) [(P, .inr (5, [.ref F, .ref G, .ref T, .ref za, .ref (ia 0), .ref (ia 1), .ref (ia 2), .int 0, .int 0])), (F, .inr (0, [.ref (fa 0), .ref (fa 1), .ref (fa 2), .ref (fa 3), .ref (fa 4), .ref (fa 5), .ref (fa 6), .ref (fa 7), .ref (fa 8), .int 0, .int 0, .int 0])), (O, .inl (cL, 1, .inr (.inl g)))] (TYP cI cV cJ cL) sz) (va_Qi (fun (r : Int32) (g : Nat → Int64) => r = 1 ∧ (1 = 0 → g 0 = 0)) (QB (dC, dI) (fun (g : Nat → Int64) => [(O, .inl (cL, 1, .inr (.inl g)))]) (TYP cI cV cJ cL) (va_A [(P, .inr (5, [.ref F, .ref G, .ref T, .ref za, .ref (ia 0), .ref (ia 1), .ref (ia 2), .int 0, .int 0])), (F, .inr (0, [.ref (fa 0), .ref (fa 1), .ref (fa 2), .ref (fa 3), .ref (fa 4), .ref (fa 5), .ref (fa 6), .ref (fa 7), .ref (fa 8), .int 0, .int 0, .int 0])), (O, .inl (cL, 1, .inr (.inl g)))] sz)) (va_A [(P, .inr (5, [.ref F, .ref G, .ref T, .ref za, .ref (ia 0), .ref (ia 1), .ref (ia 2), .int 0, .int 0])), (F, .inr (0, [.ref (fa 0), .ref (fa 1), .ref (fa 2), .ref (fa 3), .ref (fa 4), .ref (fa 5), .ref (fa 6), .ref (fa 7), .ref (fa 8), .int 0, .int 0, .int 0])), (O, .inl (cL, 1, .inr (.inl g)))] sz)) (vx_X (fun _ : Unit => False) (fun _ _ _ => True) (va_A [(P, .inr (5, [.ref F, .ref G, .ref T, .ref za, .ref (ia 0), .ref (ia 1), .ref (ia 2), .int 0, .int 0])), (F, .inr (0, [.ref (fa 0), .ref (fa 1), .ref (fa 2), .ref (fa 3), .ref (fa 4), .ref (fa 5), .ref (fa 6), .ref (fa 7), .ref (fa 8), .int 0, .int 0, .int 0])), (O, .inl (cL, 1, .inr (.inl g)))] sz)) 1 6 (va_A [(P, .inr (5, [.ref F, .ref G, .ref T, .ref za, .ref (ia 0), .ref (ia 1), .ref (ia 2), .int 0, .int 0])), (F, .inr (0, [.ref (fa 0), .ref (fa 1), .ref (fa 2), .ref (fa 3), .ref (fa 4), .ref (fa 5), .ref (fa 6), .ref (fa 7), .ref (fa 8), .int 0, .int 0, .int 0])), (O, .inl (cL, 1, .inr (.inl g)))] sz) := by
  refine vx_ofWH (cc := cL_setStops) (maxL := 4) (ret := (some .int)) (hh := [(0, 9, 12, 21)]) (by decide) rfl ?_
  intro p e s m args below meth c s₁ B hml hv
  obtain ⟨rfl, hsz, hP, hK, hD0, hN, hXs, hZs⟩ := hv
  have hx := B.exec
  have hb := B.bytes
  have hr := B.returns
  have hts := atoms_spec (ws := (Cond.codeWith yL_setStops cL_setStops 4 (some .int) [(0, 9, 12, 21)] :: TB)) B.pre
  have hown : s.vm.findClass RL = some m.cls := findClass_of_methodNamed B.named
  have hlocks := B.notSynchronized
  have ht9 := vx_table (x := yL_setStops) B (hts _ List.mem_cons_self)
  subst hsz
  have hD := hD0.self (sz := s.heap.size)
  generalize hAe : va_A [(P, .inr (5, [.ref F, .ref G, .ref T, .ref za, .ref (ia 0), .ref (ia 1), .ref (ia 2), .int 0, .int 0])), (F, .inr (0, [.ref (fa 0), .ref (fa 1), .ref (fa 2), .ref (fa 3), .ref (fa 4), .ref (fa 5), .ref (fa 6), .ref (fa 7), .ref (fa 8), .int 0, .int 0, .int 0])), (O, .inl (cL, 1, .inr (.inl g)))] s.heap.size = A at hD hZs ⊢
  have hA : ∀ q : Nat, s.heap.size ≤ q → A q := fun q h => by rw [← hAe]; exact Or.inr h
  have hS : va_S A s.heap s.heap [] := va_S.rf
  have hl := lv_entry ([.ref P, .int p0, .ref O]) (n := 4) (Nat.le_of_ble_eq_true rfl)
  rw [lg_entry_eq]
  generalize (lg_sl ([.ref P, .int p0, .ref O]) ++ List.replicate (4 - (lg_sl ([.ref P, .int p0, .ref O])).length) Slot.unset).toArray = ls at hl ⊢
  have hl : lv_has ls 4 [(0, .ref P), (1, .int p0), (2, .ref O)] := hl
  refine lv_aload_n hx hb dL_setStops_0 rfl (lv_at hl 2 rfl) ?_
  refine lv_iconst (v := 0) hx hb dL_setStops_1 (by decide) ?_
  refine lv_aload_n hx hb dL_setStops_2 rfl (lv_at hl 0 rfl) ?_
  refine lv_iload_n hx hb dL_setStops_3 rfl (lv_at hl 1 rfl) ?_
  refine x_Vi (ci := 5) (q0 := 0) (wc := [(P, .inr (5, [.ref F, .ref G, .ref T, .ref za, .ref (ia 0), .ref (ia 1), .ref (ia 2), .int 0, .int 0])), (F, .inr (0, [.ref (fa 0), .ref (fa 1), .ref (fa 2), .ref (fa 3), .ref (fa 4), .ref (fa 5), .ref (fa 6), .ref (fa 7), .ref (fa 8), .int 0, .int 0, .int 0]))]) (wr := [(O, .inl (cL, 1, .inr (.inl g)))]) [.int p0] [0, 1] [2] ⟨hx, hb, hml, hown, hts⟩ (fun sz => c_X5_setStops l hlT dC dI cI cV cJ cL P F G T za fa ia 0 0 p0 sz) q_ml_L_70 q_im_X5_setStops q_se_X5_setStops q_ini_X5 q_co_X5_setStops (n := 1) (by decide +kernel) rfl ⟨rfl, rfl⟩ ⟨Nat.le_of_ble_eq_true rfl, Nat.le_of_ble_eq_true rfl⟩ hP hD hS hA hK hN hXs hZs rfl rfl (by decide) (by decide) (by decide) rfl rfl rfl hl.1 rfl (Nat.le_of_ble_eq_true rfl) dL_setStops_4 ⟨Nat.le_of_ble_eq_true rfl, Nat.le_of_ble_eq_true rfl⟩ (fun E ce q9 H locs hpx hP hD hS hc1 hc2 hc3 => ?_) (fun r u9 H locs hpo hP hD hS => ?_)
  · obtain ⟨u9, hpx⟩ := hpx
    obtain rfl : E = "java/lang/IndexOutOfBoundsException" := hpx
    have hP : va_P (dC, dI) cls [(O, .inl (cL, 1, .inr (.inl g)))] H := hP
    have hD : va_D A [(O, .inl (cL, 1, .inr (.inl g)))] := hD
    refine vx_catch (name := "java/lang/IndexOutOfBoundsException") hown [] _ _ (ht9.trans rfl) (fun z hz => by cases hz) rfl (by decide) (hts _ (tb_in q_cl_L_21)) (va_Nw.use rfl hXs.1.2.2.2.2.2) hc1 hc2 hc3 ?_
    refine lv_astore_n (lv' := [(3, .ref q9), (0, .ref P), (1, .int p0), (2, .ref O)]) hx hb dL_setStops_12 rfl hl (by decide) rfl (fun ls hl => ?_)
    refine lv_iconst (v := 1) hx hb dL_setStops_13 (by decide) ?_
    refine k_wid (k := 1) (n := 6) (Nat.le_of_ble_eq_true rfl) (Nat.le_of_ble_eq_true rfl) (vx_ret ?_)
    have hP9 := hP
    have hD9 := hD
    exact W.iret (v := 1) hx hb hr (fun t9 ht9 hW9 => ⟨⟨_, g, rfl, ⟨rfl, fun h => absurd h (by decide)⟩, by rw [ht9]; exact hP9, va_K.moved hW9.alike hK, hD9⟩, hS.F ht9⟩) hS.2.2 dL_setStops_14
  exact hpo.elim
set_option maxHeartbeats 4000000 in
set_option maxRecDepth 100000 in
theorem h_back (l : Launch) (hlT : l.stackTraces = false) (dC : Nat → ClassId) (dI : Nat → Nat → Nat) (cI cV cJ cL : ClassId) (P F G T za : Nat) (fa ia : Nat → Nat) (O : Nat) (g : Nat → Int64) (p0 : Int32) (sz : Nat) : vx_Met l yL_back (Cond.codeWith yL_back cL_back 4 (some .int) [(0, 9, 12, 21)] :: TB) ({ frames := 24, cells := 1, slots := 6, locals := 1200 } : Room) (PXw [.ref P, .int p0, .ref O] (dC, dI) [(P, .inr (5, [.ref F, .ref G, .ref T, .ref za, .ref (ia 0), .ref (ia 1), .ref (ia 2), .int 0, .int 0])), (F, .inr (0, [.ref (fa 0), .ref (fa 1), .ref (fa 2), .ref (fa 3), .ref (fa 4), .ref (fa 5), .ref (fa 6), .ref (fa 7), .ref (fa 8), .int 0, .int 0, .int 0])), (O, .inl (cL, 1, .inr (.inl g)))] (TYP cI cV cJ cL) sz) (va_Qi (fun (r : Int32) (g : Nat → Int64) => r = 1 ∧ (1 = 0 → g 0 = 0)) (QB (dC, dI) (fun (g : Nat → Int64) => [(O, .inl (cL, 1, .inr (.inl g)))]) (TYP cI cV cJ cL) (va_A [(P, .inr (5, [.ref F, .ref G, .ref T, .ref za, .ref (ia 0), .ref (ia 1), .ref (ia 2), .int 0, .int 0])), (F, .inr (0, [.ref (fa 0), .ref (fa 1), .ref (fa 2), .ref (fa 3), .ref (fa 4), .ref (fa 5), .ref (fa 6), .ref (fa 7), .ref (fa 8), .int 0, .int 0, .int 0])), (O, .inl (cL, 1, .inr (.inl g)))] sz)) (va_A [(P, .inr (5, [.ref F, .ref G, .ref T, .ref za, .ref (ia 0), .ref (ia 1), .ref (ia 2), .int 0, .int 0])), (F, .inr (0, [.ref (fa 0), .ref (fa 1), .ref (fa 2), .ref (fa 3), .ref (fa 4), .ref (fa 5), .ref (fa 6), .ref (fa 7), .ref (fa 8), .int 0, .int 0, .int 0])), (O, .inl (cL, 1, .inr (.inl g)))] sz)) (vx_X (fun _ : Unit => False) (fun _ _ _ => True) (va_A [(P, .inr (5, [.ref F, .ref G, .ref T, .ref za, .ref (ia 0), .ref (ia 1), .ref (ia 2), .int 0, .int 0])), (F, .inr (0, [.ref (fa 0), .ref (fa 1), .ref (fa 2), .ref (fa 3), .ref (fa 4), .ref (fa 5), .ref (fa 6), .ref (fa 7), .ref (fa 8), .int 0, .int 0, .int 0])), (O, .inl (cL, 1, .inr (.inl g)))] sz)) 1 6 (va_A [(P, .inr (5, [.ref F, .ref G, .ref T, .ref za, .ref (ia 0), .ref (ia 1), .ref (ia 2), .int 0, .int 0])), (F, .inr (0, [.ref (fa 0), .ref (fa 1), .ref (fa 2), .ref (fa 3), .ref (fa 4), .ref (fa 5), .ref (fa 6), .ref (fa 7), .ref (fa 8), .int 0, .int 0, .int 0])), (O, .inl (cL, 1, .inr (.inl g)))] sz) := by
  refine vx_ofWH (cc := cL_back) (maxL := 4) (ret := (some .int)) (hh := [(0, 9, 12, 21)]) (by decide) rfl ?_
  intro p e s m args below meth c s₁ B hml hv
  obtain ⟨rfl, hsz, hP, hK, hD0, hN, hXs, hZs⟩ := hv
  have hx := B.exec
  have hb := B.bytes
  have hr := B.returns
  have hts := atoms_spec (ws := (Cond.codeWith yL_back cL_back 4 (some .int) [(0, 9, 12, 21)] :: TB)) B.pre
  have hown : s.vm.findClass RL = some m.cls := findClass_of_methodNamed B.named
  have hlocks := B.notSynchronized
  have ht9 := vx_table (x := yL_back) B (hts _ List.mem_cons_self)
  subst hsz
  have hD := hD0.self (sz := s.heap.size)
  generalize hAe : va_A [(P, .inr (5, [.ref F, .ref G, .ref T, .ref za, .ref (ia 0), .ref (ia 1), .ref (ia 2), .int 0, .int 0])), (F, .inr (0, [.ref (fa 0), .ref (fa 1), .ref (fa 2), .ref (fa 3), .ref (fa 4), .ref (fa 5), .ref (fa 6), .ref (fa 7), .ref (fa 8), .int 0, .int 0, .int 0])), (O, .inl (cL, 1, .inr (.inl g)))] s.heap.size = A at hD hZs ⊢
  have hA : ∀ q : Nat, s.heap.size ≤ q → A q := fun q h => by rw [← hAe]; exact Or.inr h
  have hS : va_S A s.heap s.heap [] := va_S.rf
  have hl := lv_entry ([.ref P, .int p0, .ref O]) (n := 4) (Nat.le_of_ble_eq_true rfl)
  rw [lg_entry_eq]
  generalize (lg_sl ([.ref P, .int p0, .ref O]) ++ List.replicate (4 - (lg_sl ([.ref P, .int p0, .ref O])).length) Slot.unset).toArray = ls at hl ⊢
  have hl : lv_has ls 4 [(0, .ref P), (1, .int p0), (2, .ref O)] := hl
  refine lv_aload_n hx hb dL_back_0 rfl (lv_at hl 2 rfl) ?_
  refine lv_iconst (v := 0) hx hb dL_back_1 (by decide) ?_
  refine lv_aload_n hx hb dL_back_2 rfl (lv_at hl 0 rfl) ?_
  refine lv_iload_n hx hb dL_back_3 rfl (lv_at hl 1 rfl) ?_
  refine x_Vi (ci := 5) (q0 := 0) (wc := [(P, .inr (5, [.ref F, .ref G, .ref T, .ref za, .ref (ia 0), .ref (ia 1), .ref (ia 2), .int 0, .int 0])), (F, .inr (0, [.ref (fa 0), .ref (fa 1), .ref (fa 2), .ref (fa 3), .ref (fa 4), .ref (fa 5), .ref (fa 6), .ref (fa 7), .ref (fa 8), .int 0, .int 0, .int 0]))]) (wr := [(O, .inl (cL, 1, .inr (.inl g)))]) [.int p0] [0, 1] [2] ⟨hx, hb, hml, hown, hts⟩ (fun sz => c_X5_back l hlT dC dI cI cV cJ cL P F G T za fa ia 0 0 p0 sz) q_ml_L_92 q_im_X5_back q_se_X5_back q_ini_X5 q_co_X5_back (n := 1) (by decide +kernel) rfl ⟨rfl, rfl⟩ ⟨Nat.le_of_ble_eq_true rfl, Nat.le_of_ble_eq_true rfl⟩ hP hD hS hA hK hN hXs hZs rfl rfl (by decide) (by decide) (by decide) rfl rfl rfl hl.1 rfl (Nat.le_of_ble_eq_true rfl) dL_back_4 ⟨Nat.le_of_ble_eq_true rfl, Nat.le_of_ble_eq_true rfl⟩ (fun E ce q9 H locs hpx hP hD hS hc1 hc2 hc3 => ?_) (fun r u9 H locs hpo hP hD hS => ?_)
  · obtain ⟨u9, hpx⟩ := hpx
    obtain rfl : E = "java/lang/IndexOutOfBoundsException" := hpx
    have hP : va_P (dC, dI) cls [(O, .inl (cL, 1, .inr (.inl g)))] H := hP
    have hD : va_D A [(O, .inl (cL, 1, .inr (.inl g)))] := hD
    refine vx_catch (name := "java/lang/IndexOutOfBoundsException") hown [] _ _ (ht9.trans rfl) (fun z hz => by cases hz) rfl (by decide) (hts _ (tb_in q_cl_L_21)) (va_Nw.use rfl hXs.1.2.2.2.2.2) hc1 hc2 hc3 ?_
    refine lv_astore_n (lv' := [(3, .ref q9), (0, .ref P), (1, .int p0), (2, .ref O)]) hx hb dL_back_12 rfl hl (by decide) rfl (fun ls hl => ?_)
    refine lv_iconst (v := 1) hx hb dL_back_13 (by decide) ?_
    refine k_wid (k := 1) (n := 6) (Nat.le_of_ble_eq_true rfl) (Nat.le_of_ble_eq_true rfl) (vx_ret ?_)
    have hP9 := hP
    have hD9 := hD
    exact W.iret (v := 1) hx hb hr (fun t9 ht9 hW9 => ⟨⟨_, g, rfl, ⟨rfl, fun h => absurd h (by decide)⟩, by rw [ht9]; exact hP9, va_K.moved hW9.alike hK, hD9⟩, hS.F ht9⟩) hS.2.2 dL_back_14
  exact hpo.elim
set_option maxHeartbeats 4000000 in
set_option maxRecDepth 100000 in
theorem h_waits (l : Launch) (hlT : l.stackTraces = false) (dC : Nat → ClassId) (dI : Nat → Nat → Nat) (cI cV cJ cL : ClassId) (P F G T za : Nat) (fa ia : Nat → Nat) (O : Nat) (g : Nat → Int64) (p0 : Int32) (sz : Nat) : vx_Met l yL_waits (Cond.codeWith yL_waits cL_waits 4 (some .int) [(0, 9, 12, 21)] :: TB) ({ frames := 24, cells := 1, slots := 6, locals := 1200 } : Room) (PXw [.ref P, .int p0, .ref O] (dC, dI) [(P, .inr (5, [.ref F, .ref G, .ref T, .ref za, .ref (ia 0), .ref (ia 1), .ref (ia 2), .int 0, .int 0])), (F, .inr (0, [.ref (fa 0), .ref (fa 1), .ref (fa 2), .ref (fa 3), .ref (fa 4), .ref (fa 5), .ref (fa 6), .ref (fa 7), .ref (fa 8), .int 0, .int 0, .int 0])), (O, .inl (cL, 1, .inr (.inl g)))] (TYP cI cV cJ cL) sz) (va_Qi (fun (r : Int32) (g : Nat → Int64) => r = 1 ∧ (1 = 0 → g 0 = 0)) (QB (dC, dI) (fun (g : Nat → Int64) => [(O, .inl (cL, 1, .inr (.inl g)))]) (TYP cI cV cJ cL) (va_A [(P, .inr (5, [.ref F, .ref G, .ref T, .ref za, .ref (ia 0), .ref (ia 1), .ref (ia 2), .int 0, .int 0])), (F, .inr (0, [.ref (fa 0), .ref (fa 1), .ref (fa 2), .ref (fa 3), .ref (fa 4), .ref (fa 5), .ref (fa 6), .ref (fa 7), .ref (fa 8), .int 0, .int 0, .int 0])), (O, .inl (cL, 1, .inr (.inl g)))] sz)) (va_A [(P, .inr (5, [.ref F, .ref G, .ref T, .ref za, .ref (ia 0), .ref (ia 1), .ref (ia 2), .int 0, .int 0])), (F, .inr (0, [.ref (fa 0), .ref (fa 1), .ref (fa 2), .ref (fa 3), .ref (fa 4), .ref (fa 5), .ref (fa 6), .ref (fa 7), .ref (fa 8), .int 0, .int 0, .int 0])), (O, .inl (cL, 1, .inr (.inl g)))] sz)) (vx_X (fun _ : Unit => False) (fun _ _ _ => True) (va_A [(P, .inr (5, [.ref F, .ref G, .ref T, .ref za, .ref (ia 0), .ref (ia 1), .ref (ia 2), .int 0, .int 0])), (F, .inr (0, [.ref (fa 0), .ref (fa 1), .ref (fa 2), .ref (fa 3), .ref (fa 4), .ref (fa 5), .ref (fa 6), .ref (fa 7), .ref (fa 8), .int 0, .int 0, .int 0])), (O, .inl (cL, 1, .inr (.inl g)))] sz)) 1 6 (va_A [(P, .inr (5, [.ref F, .ref G, .ref T, .ref za, .ref (ia 0), .ref (ia 1), .ref (ia 2), .int 0, .int 0])), (F, .inr (0, [.ref (fa 0), .ref (fa 1), .ref (fa 2), .ref (fa 3), .ref (fa 4), .ref (fa 5), .ref (fa 6), .ref (fa 7), .ref (fa 8), .int 0, .int 0, .int 0])), (O, .inl (cL, 1, .inr (.inl g)))] sz) := by
  refine vx_ofWH (cc := cL_waits) (maxL := 4) (ret := (some .int)) (hh := [(0, 9, 12, 21)]) (by decide) rfl ?_
  intro p e s m args below meth c s₁ B hml hv
  obtain ⟨rfl, hsz, hP, hK, hD0, hN, hXs, hZs⟩ := hv
  have hx := B.exec
  have hb := B.bytes
  have hr := B.returns
  have hts := atoms_spec (ws := (Cond.codeWith yL_waits cL_waits 4 (some .int) [(0, 9, 12, 21)] :: TB)) B.pre
  have hown : s.vm.findClass RL = some m.cls := findClass_of_methodNamed B.named
  have hlocks := B.notSynchronized
  have ht9 := vx_table (x := yL_waits) B (hts _ List.mem_cons_self)
  subst hsz
  have hD := hD0.self (sz := s.heap.size)
  generalize hAe : va_A [(P, .inr (5, [.ref F, .ref G, .ref T, .ref za, .ref (ia 0), .ref (ia 1), .ref (ia 2), .int 0, .int 0])), (F, .inr (0, [.ref (fa 0), .ref (fa 1), .ref (fa 2), .ref (fa 3), .ref (fa 4), .ref (fa 5), .ref (fa 6), .ref (fa 7), .ref (fa 8), .int 0, .int 0, .int 0])), (O, .inl (cL, 1, .inr (.inl g)))] s.heap.size = A at hD hZs ⊢
  have hA : ∀ q : Nat, s.heap.size ≤ q → A q := fun q h => by rw [← hAe]; exact Or.inr h
  have hS : va_S A s.heap s.heap [] := va_S.rf
  have hl := lv_entry ([.ref P, .int p0, .ref O]) (n := 4) (Nat.le_of_ble_eq_true rfl)
  rw [lg_entry_eq]
  generalize (lg_sl ([.ref P, .int p0, .ref O]) ++ List.replicate (4 - (lg_sl ([.ref P, .int p0, .ref O])).length) Slot.unset).toArray = ls at hl ⊢
  have hl : lv_has ls 4 [(0, .ref P), (1, .int p0), (2, .ref O)] := hl
  refine lv_aload_n hx hb dL_waits_0 rfl (lv_at hl 2 rfl) ?_
  refine lv_iconst (v := 0) hx hb dL_waits_1 (by decide) ?_
  refine lv_aload_n hx hb dL_waits_2 rfl (lv_at hl 0 rfl) ?_
  refine lv_iload_n hx hb dL_waits_3 rfl (lv_at hl 1 rfl) ?_
  refine x_Vi (ci := 5) (q0 := 0) (wc := [(P, .inr (5, [.ref F, .ref G, .ref T, .ref za, .ref (ia 0), .ref (ia 1), .ref (ia 2), .int 0, .int 0])), (F, .inr (0, [.ref (fa 0), .ref (fa 1), .ref (fa 2), .ref (fa 3), .ref (fa 4), .ref (fa 5), .ref (fa 6), .ref (fa 7), .ref (fa 8), .int 0, .int 0, .int 0]))]) (wr := [(O, .inl (cL, 1, .inr (.inl g)))]) [.int p0] [0, 1] [2] ⟨hx, hb, hml, hown, hts⟩ (fun sz => c_X5_waits l hlT dC dI cI cV cJ cL P F G T za fa ia 0 0 p0 sz) q_ml_L_95 q_im_X5_waits q_se_X5_waits q_ini_X5 q_co_X5_waits (n := 1) (by decide +kernel) rfl ⟨rfl, rfl⟩ ⟨Nat.le_of_ble_eq_true rfl, Nat.le_of_ble_eq_true rfl⟩ hP hD hS hA hK hN hXs hZs rfl rfl (by decide) (by decide) (by decide) rfl rfl rfl hl.1 rfl (Nat.le_of_ble_eq_true rfl) dL_waits_4 ⟨Nat.le_of_ble_eq_true rfl, Nat.le_of_ble_eq_true rfl⟩ (fun E ce q9 H locs hpx hP hD hS hc1 hc2 hc3 => ?_) (fun r u9 H locs hpo hP hD hS => ?_)
  · obtain ⟨u9, hpx⟩ := hpx
    obtain rfl : E = "java/lang/IndexOutOfBoundsException" := hpx
    have hP : va_P (dC, dI) cls [(O, .inl (cL, 1, .inr (.inl g)))] H := hP
    have hD : va_D A [(O, .inl (cL, 1, .inr (.inl g)))] := hD
    refine vx_catch (name := "java/lang/IndexOutOfBoundsException") hown [] _ _ (ht9.trans rfl) (fun z hz => by cases hz) rfl (by decide) (hts _ (tb_in q_cl_L_21)) (va_Nw.use rfl hXs.1.2.2.2.2.2) hc1 hc2 hc3 ?_
    refine lv_astore_n (lv' := [(3, .ref q9), (0, .ref P), (1, .int p0), (2, .ref O)]) hx hb dL_waits_12 rfl hl (by decide) rfl (fun ls hl => ?_)
    refine lv_iconst (v := 1) hx hb dL_waits_13 (by decide) ?_
    refine k_wid (k := 1) (n := 6) (Nat.le_of_ble_eq_true rfl) (Nat.le_of_ble_eq_true rfl) (vx_ret ?_)
    have hP9 := hP
    have hD9 := hD
    exact W.iret (v := 1) hx hb hr (fun t9 ht9 hW9 => ⟨⟨_, g, rfl, ⟨rfl, fun h => absurd h (by decide)⟩, by rw [ht9]; exact hP9, va_K.moved hW9.alike hK, hD9⟩, hS.F ht9⟩) hS.2.2 dL_waits_14
  exact hpo.elim
set_option maxHeartbeats 4000000 in
set_option maxRecDepth 100000 in
theorem h_isRight (l : Launch) (hlT : l.stackTraces = false) (dC : Nat → ClassId) (dI : Nat → Nat → Nat) (cI cV cJ cL : ClassId) (P F G T za : Nat) (fa ia : Nat → Nat) (O : Nat) (g : Nat → Int64) (p0 : Int32) (sz : Nat) : vx_Met l yL_isRight (Cond.codeWith yL_isRight cL_isRight 4 (some .int) [(0, 16, 19, 21)] :: TB) ({ frames := 24, cells := 1, slots := 6, locals := 1200 } : Room) (PXw [.ref P, .int p0, .ref O] (dC, dI) [(P, .inr (5, [.ref F, .ref G, .ref T, .ref za, .ref (ia 0), .ref (ia 1), .ref (ia 2), .int 0, .int 0])), (F, .inr (0, [.ref (fa 0), .ref (fa 1), .ref (fa 2), .ref (fa 3), .ref (fa 4), .ref (fa 5), .ref (fa 6), .ref (fa 7), .ref (fa 8), .int 0, .int 0, .int 0])), (O, .inl (cL, 1, .inr (.inl g)))] (TYP cI cV cJ cL) sz) (va_Qi (fun (r : Int32) (g : Nat → Int64) => r = 1 ∧ (1 = 0 → g 0 = 0)) (QB (dC, dI) (fun (g : Nat → Int64) => [(O, .inl (cL, 1, .inr (.inl g)))]) (TYP cI cV cJ cL) (va_A [(P, .inr (5, [.ref F, .ref G, .ref T, .ref za, .ref (ia 0), .ref (ia 1), .ref (ia 2), .int 0, .int 0])), (F, .inr (0, [.ref (fa 0), .ref (fa 1), .ref (fa 2), .ref (fa 3), .ref (fa 4), .ref (fa 5), .ref (fa 6), .ref (fa 7), .ref (fa 8), .int 0, .int 0, .int 0])), (O, .inl (cL, 1, .inr (.inl g)))] sz)) (va_A [(P, .inr (5, [.ref F, .ref G, .ref T, .ref za, .ref (ia 0), .ref (ia 1), .ref (ia 2), .int 0, .int 0])), (F, .inr (0, [.ref (fa 0), .ref (fa 1), .ref (fa 2), .ref (fa 3), .ref (fa 4), .ref (fa 5), .ref (fa 6), .ref (fa 7), .ref (fa 8), .int 0, .int 0, .int 0])), (O, .inl (cL, 1, .inr (.inl g)))] sz)) (vx_X (fun _ : Unit => False) (fun _ _ _ => True) (va_A [(P, .inr (5, [.ref F, .ref G, .ref T, .ref za, .ref (ia 0), .ref (ia 1), .ref (ia 2), .int 0, .int 0])), (F, .inr (0, [.ref (fa 0), .ref (fa 1), .ref (fa 2), .ref (fa 3), .ref (fa 4), .ref (fa 5), .ref (fa 6), .ref (fa 7), .ref (fa 8), .int 0, .int 0, .int 0])), (O, .inl (cL, 1, .inr (.inl g)))] sz)) 1 6 (va_A [(P, .inr (5, [.ref F, .ref G, .ref T, .ref za, .ref (ia 0), .ref (ia 1), .ref (ia 2), .int 0, .int 0])), (F, .inr (0, [.ref (fa 0), .ref (fa 1), .ref (fa 2), .ref (fa 3), .ref (fa 4), .ref (fa 5), .ref (fa 6), .ref (fa 7), .ref (fa 8), .int 0, .int 0, .int 0])), (O, .inl (cL, 1, .inr (.inl g)))] sz) := by
  refine vx_ofWH (cc := cL_isRight) (maxL := 4) (ret := (some .int)) (hh := [(0, 16, 19, 21)]) (by decide) rfl ?_
  intro p e s m args below meth c s₁ B hml hv
  obtain ⟨rfl, hsz, hP, hK, hD0, hN, hXs, hZs⟩ := hv
  have hx := B.exec
  have hb := B.bytes
  have hr := B.returns
  have hts := atoms_spec (ws := (Cond.codeWith yL_isRight cL_isRight 4 (some .int) [(0, 16, 19, 21)] :: TB)) B.pre
  have hown : s.vm.findClass RL = some m.cls := findClass_of_methodNamed B.named
  have hlocks := B.notSynchronized
  have ht9 := vx_table (x := yL_isRight) B (hts _ List.mem_cons_self)
  subst hsz
  have hD := hD0.self (sz := s.heap.size)
  generalize hAe : va_A [(P, .inr (5, [.ref F, .ref G, .ref T, .ref za, .ref (ia 0), .ref (ia 1), .ref (ia 2), .int 0, .int 0])), (F, .inr (0, [.ref (fa 0), .ref (fa 1), .ref (fa 2), .ref (fa 3), .ref (fa 4), .ref (fa 5), .ref (fa 6), .ref (fa 7), .ref (fa 8), .int 0, .int 0, .int 0])), (O, .inl (cL, 1, .inr (.inl g)))] s.heap.size = A at hD hZs ⊢
  have hA : ∀ q : Nat, s.heap.size ≤ q → A q := fun q h => by rw [← hAe]; exact Or.inr h
  have hS : va_S A s.heap s.heap [] := va_S.rf
  have hl := lv_entry ([.ref P, .int p0, .ref O]) (n := 4) (Nat.le_of_ble_eq_true rfl)
  rw [lg_entry_eq]
  generalize (lg_sl ([.ref P, .int p0, .ref O]) ++ List.replicate (4 - (lg_sl ([.ref P, .int p0, .ref O])).length) Slot.unset).toArray = ls at hl ⊢
  have hl : lv_has ls 4 [(0, .ref P), (1, .int p0), (2, .ref O)] := hl
  refine lv_aload_n hx hb dL_isRight_0 rfl (lv_at hl 2 rfl) ?_
  refine lv_iconst (v := 0) hx hb dL_isRight_1 (by decide) ?_
  refine lv_aload_n hx hb dL_isRight_2 rfl (lv_at hl 0 rfl) ?_
  refine lv_iload_n hx hb dL_isRight_3 rfl (lv_at hl 1 rfl) ?_
  refine x_Vi (ci := 5) (q0 := 0) (wc := [(P, .inr (5, [.ref F, .ref G, .ref T, .ref za, .ref (ia 0), .ref (ia 1), .ref (ia 2), .int 0, .int 0])), (F, .inr (0, [.ref (fa 0), .ref (fa 1), .ref (fa 2), .ref (fa 3), .ref (fa 4), .ref (fa 5), .ref (fa 6), .ref (fa 7), .ref (fa 8), .int 0, .int 0, .int 0]))]) (wr := [(O, .inl (cL, 1, .inr (.inl g)))]) [.int p0] [0, 1] [2] ⟨hx, hb, hml, hown, hts⟩ (fun sz => c_X5_isRight l hlT dC dI cI cV cJ cL P F G T za fa ia 0 0 p0 sz) q_ml_L_98 q_im_X5_isRight q_se_X5_isRight q_ini_X5 q_co_X5_isRight (n := 1) (by decide +kernel) rfl ⟨rfl, rfl⟩ ⟨Nat.le_of_ble_eq_true rfl, Nat.le_of_ble_eq_true rfl⟩ hP hD hS hA hK hN hXs hZs rfl rfl (by decide) (by decide) (by decide) rfl rfl rfl hl.1 rfl (Nat.le_of_ble_eq_true rfl) dL_isRight_4 ⟨Nat.le_of_ble_eq_true rfl, Nat.le_of_ble_eq_true rfl⟩ (fun E ce q9 H locs hpx hP hD hS hc1 hc2 hc3 => ?_) (fun r u9 H locs hpo hP hD hS => ?_)
  · obtain ⟨u9, hpx⟩ := hpx
    obtain rfl : E = "java/lang/IndexOutOfBoundsException" := hpx
    have hP : va_P (dC, dI) cls [(O, .inl (cL, 1, .inr (.inl g)))] H := hP
    have hD : va_D A [(O, .inl (cL, 1, .inr (.inl g)))] := hD
    refine vx_catch (name := "java/lang/IndexOutOfBoundsException") hown [] _ _ (ht9.trans rfl) (fun z hz => by cases hz) rfl (by decide) (hts _ (tb_in q_cl_L_21)) (va_Nw.use rfl hXs.1.2.2.2.2.2) hc1 hc2 hc3 ?_
    refine lv_astore_n (lv' := [(3, .ref q9), (0, .ref P), (1, .int p0), (2, .ref O)]) hx hb dL_isRight_19 rfl hl (by decide) rfl (fun ls hl => ?_)
    refine lv_iconst (v := 1) hx hb dL_isRight_20 (by decide) ?_
    refine k_wid (k := 1) (n := 6) (Nat.le_of_ble_eq_true rfl) (Nat.le_of_ble_eq_true rfl) (vx_ret ?_)
    have hP9 := hP
    have hD9 := hD
    exact W.iret (v := 1) hx hb hr (fun t9 ht9 hW9 => ⟨⟨_, g, rfl, ⟨rfl, fun h => absurd h (by decide)⟩, by rw [ht9]; exact hP9, va_K.moved hW9.alike hK, hD9⟩, hS.F ht9⟩) hS.2.2 dL_isRight_21
  exact hpo.elim
set_option maxHeartbeats 4000000 in
set_option maxRecDepth 100000 in
theorem h_length (l : Launch) (hlT : l.stackTraces = false) (dC : Nat → ClassId) (dI : Nat → Nat → Nat) (cI cV cJ cL : ClassId) (P F G T za : Nat) (fa ia : Nat → Nat) (O : Nat) (g : Nat → Int64) (p0 : Int32) (sz : Nat) : vx_Met l yL_length (Cond.codeWith yL_length cL_length 4 (some .int) [(0, 9, 12, 21)] :: TB) ({ frames := 24, cells := 1, slots := 6, locals := 1200 } : Room) (PXw [.ref P, .int p0, .ref O] (dC, dI) [(P, .inr (5, [.ref F, .ref G, .ref T, .ref za, .ref (ia 0), .ref (ia 1), .ref (ia 2), .int 0, .int 0])), (F, .inr (0, [.ref (fa 0), .ref (fa 1), .ref (fa 2), .ref (fa 3), .ref (fa 4), .ref (fa 5), .ref (fa 6), .ref (fa 7), .ref (fa 8), .int 0, .int 0, .int 0])), (O, .inl (cL, 1, .inr (.inl g)))] (TYP cI cV cJ cL) sz) (va_Qi (fun (r : Int32) (g : Nat → Int64) => r = 1 ∧ (1 = 0 → g 0 = 0)) (QB (dC, dI) (fun (g : Nat → Int64) => [(O, .inl (cL, 1, .inr (.inl g)))]) (TYP cI cV cJ cL) (va_A [(P, .inr (5, [.ref F, .ref G, .ref T, .ref za, .ref (ia 0), .ref (ia 1), .ref (ia 2), .int 0, .int 0])), (F, .inr (0, [.ref (fa 0), .ref (fa 1), .ref (fa 2), .ref (fa 3), .ref (fa 4), .ref (fa 5), .ref (fa 6), .ref (fa 7), .ref (fa 8), .int 0, .int 0, .int 0])), (O, .inl (cL, 1, .inr (.inl g)))] sz)) (va_A [(P, .inr (5, [.ref F, .ref G, .ref T, .ref za, .ref (ia 0), .ref (ia 1), .ref (ia 2), .int 0, .int 0])), (F, .inr (0, [.ref (fa 0), .ref (fa 1), .ref (fa 2), .ref (fa 3), .ref (fa 4), .ref (fa 5), .ref (fa 6), .ref (fa 7), .ref (fa 8), .int 0, .int 0, .int 0])), (O, .inl (cL, 1, .inr (.inl g)))] sz)) (vx_X (fun _ : Unit => False) (fun _ _ _ => True) (va_A [(P, .inr (5, [.ref F, .ref G, .ref T, .ref za, .ref (ia 0), .ref (ia 1), .ref (ia 2), .int 0, .int 0])), (F, .inr (0, [.ref (fa 0), .ref (fa 1), .ref (fa 2), .ref (fa 3), .ref (fa 4), .ref (fa 5), .ref (fa 6), .ref (fa 7), .ref (fa 8), .int 0, .int 0, .int 0])), (O, .inl (cL, 1, .inr (.inl g)))] sz)) 1 6 (va_A [(P, .inr (5, [.ref F, .ref G, .ref T, .ref za, .ref (ia 0), .ref (ia 1), .ref (ia 2), .int 0, .int 0])), (F, .inr (0, [.ref (fa 0), .ref (fa 1), .ref (fa 2), .ref (fa 3), .ref (fa 4), .ref (fa 5), .ref (fa 6), .ref (fa 7), .ref (fa 8), .int 0, .int 0, .int 0])), (O, .inl (cL, 1, .inr (.inl g)))] sz) := by
  refine vx_ofWH (cc := cL_length) (maxL := 4) (ret := (some .int)) (hh := [(0, 9, 12, 21)]) (by decide) rfl ?_
  intro p e s m args below meth c s₁ B hml hv
  obtain ⟨rfl, hsz, hP, hK, hD0, hN, hXs, hZs⟩ := hv
  have hx := B.exec
  have hb := B.bytes
  have hr := B.returns
  have hts := atoms_spec (ws := (Cond.codeWith yL_length cL_length 4 (some .int) [(0, 9, 12, 21)] :: TB)) B.pre
  have hown : s.vm.findClass RL = some m.cls := findClass_of_methodNamed B.named
  have hlocks := B.notSynchronized
  have ht9 := vx_table (x := yL_length) B (hts _ List.mem_cons_self)
  subst hsz
  have hD := hD0.self (sz := s.heap.size)
  generalize hAe : va_A [(P, .inr (5, [.ref F, .ref G, .ref T, .ref za, .ref (ia 0), .ref (ia 1), .ref (ia 2), .int 0, .int 0])), (F, .inr (0, [.ref (fa 0), .ref (fa 1), .ref (fa 2), .ref (fa 3), .ref (fa 4), .ref (fa 5), .ref (fa 6), .ref (fa 7), .ref (fa 8), .int 0, .int 0, .int 0])), (O, .inl (cL, 1, .inr (.inl g)))] s.heap.size = A at hD hZs ⊢
  have hA : ∀ q : Nat, s.heap.size ≤ q → A q := fun q h => by rw [← hAe]; exact Or.inr h
  have hS : va_S A s.heap s.heap [] := va_S.rf
  have hl := lv_entry ([.ref P, .int p0, .ref O]) (n := 4) (Nat.le_of_ble_eq_true rfl)
  rw [lg_entry_eq]
  generalize (lg_sl ([.ref P, .int p0, .ref O]) ++ List.replicate (4 - (lg_sl ([.ref P, .int p0, .ref O])).length) Slot.unset).toArray = ls at hl ⊢
  have hl : lv_has ls 4 [(0, .ref P), (1, .int p0), (2, .ref O)] := hl
  refine lv_aload_n hx hb dL_length_0 rfl (lv_at hl 2 rfl) ?_
  refine lv_iconst (v := 0) hx hb dL_length_1 (by decide) ?_
  refine lv_aload_n hx hb dL_length_2 rfl (lv_at hl 0 rfl) ?_
  refine lv_iload_n hx hb dL_length_3 rfl (lv_at hl 1 rfl) ?_
  refine x_Vi (ci := 5) (q0 := 0) (wc := [(P, .inr (5, [.ref F, .ref G, .ref T, .ref za, .ref (ia 0), .ref (ia 1), .ref (ia 2), .int 0, .int 0])), (F, .inr (0, [.ref (fa 0), .ref (fa 1), .ref (fa 2), .ref (fa 3), .ref (fa 4), .ref (fa 5), .ref (fa 6), .ref (fa 7), .ref (fa 8), .int 0, .int 0, .int 0]))]) (wr := [(O, .inl (cL, 1, .inr (.inl g)))]) [.int p0] [0, 1] [2] ⟨hx, hb, hml, hown, hts⟩ (fun sz => c_X5_length l hlT dC dI cI cV cJ cL P F G T za fa ia 0 0 p0 sz) q_ml_L_101 q_im_X5_length q_se_X5_length q_ini_X5 q_co_X5_length (n := 1) (by decide +kernel) rfl ⟨rfl, rfl⟩ ⟨Nat.le_of_ble_eq_true rfl, Nat.le_of_ble_eq_true rfl⟩ hP hD hS hA hK hN hXs hZs rfl rfl (by decide) (by decide) (by decide) rfl rfl rfl hl.1 rfl (Nat.le_of_ble_eq_true rfl) dL_length_4 ⟨Nat.le_of_ble_eq_true rfl, Nat.le_of_ble_eq_true rfl⟩ (fun E ce q9 H locs hpx hP hD hS hc1 hc2 hc3 => ?_) (fun r u9 H locs hpo hP hD hS => ?_)
  · obtain ⟨u9, hpx⟩ := hpx
    obtain rfl : E = "java/lang/IndexOutOfBoundsException" := hpx
    have hP : va_P (dC, dI) cls [(O, .inl (cL, 1, .inr (.inl g)))] H := hP
    have hD : va_D A [(O, .inl (cL, 1, .inr (.inl g)))] := hD
    refine vx_catch (name := "java/lang/IndexOutOfBoundsException") hown [] _ _ (ht9.trans rfl) (fun z hz => by cases hz) rfl (by decide) (hts _ (tb_in q_cl_L_21)) (va_Nw.use rfl hXs.1.2.2.2.2.2) hc1 hc2 hc3 ?_
    refine lv_astore_n (lv' := [(3, .ref q9), (0, .ref P), (1, .int p0), (2, .ref O)]) hx hb dL_length_12 rfl hl (by decide) rfl (fun ls hl => ?_)
    refine lv_iconst (v := 1) hx hb dL_length_13 (by decide) ?_
    refine k_wid (k := 1) (n := 6) (Nat.le_of_ble_eq_true rfl) (Nat.le_of_ble_eq_true rfl) (vx_ret ?_)
    have hP9 := hP
    have hD9 := hD
    exact W.iret (v := 1) hx hb hr (fun t9 ht9 hW9 => ⟨⟨_, g, rfl, ⟨rfl, fun h => absurd h (by decide)⟩, by rw [ht9]; exact hP9, va_K.moved hW9.alike hK, hD9⟩, hS.F ht9⟩) hS.2.2 dL_length_14
  exact hpo.elim
set_option maxHeartbeats 4000000 in
set_option maxRecDepth 100000 in
theorem h_costOf (l : Launch) (hlT : l.stackTraces = false) (dC : Nat → ClassId) (dI : Nat → Nat → Nat) (cI cV cJ cL : ClassId) (P F G T za : Nat) (fa ia : Nat → Nat) (O : Nat) (g : Nat → Int64) (p0 : Int32) (sz : Nat) : vx_Met l yL_costOf (Cond.codeWith yL_costOf cL_costOf 4 (some .int) [(0, 9, 12, 21)] :: TB) ({ frames := 24, cells := 1, slots := 6, locals := 1200 } : Room) (PXw [.ref P, .int p0, .ref O] (dC, dI) [(P, .inr (5, [.ref F, .ref G, .ref T, .ref za, .ref (ia 0), .ref (ia 1), .ref (ia 2), .int 0, .int 0])), (F, .inr (0, [.ref (fa 0), .ref (fa 1), .ref (fa 2), .ref (fa 3), .ref (fa 4), .ref (fa 5), .ref (fa 6), .ref (fa 7), .ref (fa 8), .int 0, .int 0, .int 0])), (O, .inl (cL, 1, .inr (.inl g)))] (TYP cI cV cJ cL) sz) (va_Qi (fun (r : Int32) (g : Nat → Int64) => r = 1 ∧ (1 = 0 → g 0 = 0)) (QB (dC, dI) (fun (g : Nat → Int64) => [(O, .inl (cL, 1, .inr (.inl g)))]) (TYP cI cV cJ cL) (va_A [(P, .inr (5, [.ref F, .ref G, .ref T, .ref za, .ref (ia 0), .ref (ia 1), .ref (ia 2), .int 0, .int 0])), (F, .inr (0, [.ref (fa 0), .ref (fa 1), .ref (fa 2), .ref (fa 3), .ref (fa 4), .ref (fa 5), .ref (fa 6), .ref (fa 7), .ref (fa 8), .int 0, .int 0, .int 0])), (O, .inl (cL, 1, .inr (.inl g)))] sz)) (va_A [(P, .inr (5, [.ref F, .ref G, .ref T, .ref za, .ref (ia 0), .ref (ia 1), .ref (ia 2), .int 0, .int 0])), (F, .inr (0, [.ref (fa 0), .ref (fa 1), .ref (fa 2), .ref (fa 3), .ref (fa 4), .ref (fa 5), .ref (fa 6), .ref (fa 7), .ref (fa 8), .int 0, .int 0, .int 0])), (O, .inl (cL, 1, .inr (.inl g)))] sz)) (vx_X (fun _ : Unit => False) (fun _ _ _ => True) (va_A [(P, .inr (5, [.ref F, .ref G, .ref T, .ref za, .ref (ia 0), .ref (ia 1), .ref (ia 2), .int 0, .int 0])), (F, .inr (0, [.ref (fa 0), .ref (fa 1), .ref (fa 2), .ref (fa 3), .ref (fa 4), .ref (fa 5), .ref (fa 6), .ref (fa 7), .ref (fa 8), .int 0, .int 0, .int 0])), (O, .inl (cL, 1, .inr (.inl g)))] sz)) 1 6 (va_A [(P, .inr (5, [.ref F, .ref G, .ref T, .ref za, .ref (ia 0), .ref (ia 1), .ref (ia 2), .int 0, .int 0])), (F, .inr (0, [.ref (fa 0), .ref (fa 1), .ref (fa 2), .ref (fa 3), .ref (fa 4), .ref (fa 5), .ref (fa 6), .ref (fa 7), .ref (fa 8), .int 0, .int 0, .int 0])), (O, .inl (cL, 1, .inr (.inl g)))] sz) := by
  refine vx_ofWH (cc := cL_costOf) (maxL := 4) (ret := (some .int)) (hh := [(0, 9, 12, 21)]) (by decide) rfl ?_
  intro p e s m args below meth c s₁ B hml hv
  obtain ⟨rfl, hsz, hP, hK, hD0, hN, hXs, hZs⟩ := hv
  have hx := B.exec
  have hb := B.bytes
  have hr := B.returns
  have hts := atoms_spec (ws := (Cond.codeWith yL_costOf cL_costOf 4 (some .int) [(0, 9, 12, 21)] :: TB)) B.pre
  have hown : s.vm.findClass RL = some m.cls := findClass_of_methodNamed B.named
  have hlocks := B.notSynchronized
  have ht9 := vx_table (x := yL_costOf) B (hts _ List.mem_cons_self)
  subst hsz
  have hD := hD0.self (sz := s.heap.size)
  generalize hAe : va_A [(P, .inr (5, [.ref F, .ref G, .ref T, .ref za, .ref (ia 0), .ref (ia 1), .ref (ia 2), .int 0, .int 0])), (F, .inr (0, [.ref (fa 0), .ref (fa 1), .ref (fa 2), .ref (fa 3), .ref (fa 4), .ref (fa 5), .ref (fa 6), .ref (fa 7), .ref (fa 8), .int 0, .int 0, .int 0])), (O, .inl (cL, 1, .inr (.inl g)))] s.heap.size = A at hD hZs ⊢
  have hA : ∀ q : Nat, s.heap.size ≤ q → A q := fun q h => by rw [← hAe]; exact Or.inr h
  have hS : va_S A s.heap s.heap [] := va_S.rf
  have hl := lv_entry ([.ref P, .int p0, .ref O]) (n := 4) (Nat.le_of_ble_eq_true rfl)
  rw [lg_entry_eq]
  generalize (lg_sl ([.ref P, .int p0, .ref O]) ++ List.replicate (4 - (lg_sl ([.ref P, .int p0, .ref O])).length) Slot.unset).toArray = ls at hl ⊢
  have hl : lv_has ls 4 [(0, .ref P), (1, .int p0), (2, .ref O)] := hl
  refine lv_aload_n hx hb dL_costOf_0 rfl (lv_at hl 2 rfl) ?_
  refine lv_iconst (v := 0) hx hb dL_costOf_1 (by decide) ?_
  refine lv_aload_n hx hb dL_costOf_2 rfl (lv_at hl 0 rfl) ?_
  refine lv_iload_n hx hb dL_costOf_3 rfl (lv_at hl 1 rfl) ?_
  refine x_Vi (ci := 5) (q0 := 0) (wc := [(P, .inr (5, [.ref F, .ref G, .ref T, .ref za, .ref (ia 0), .ref (ia 1), .ref (ia 2), .int 0, .int 0])), (F, .inr (0, [.ref (fa 0), .ref (fa 1), .ref (fa 2), .ref (fa 3), .ref (fa 4), .ref (fa 5), .ref (fa 6), .ref (fa 7), .ref (fa 8), .int 0, .int 0, .int 0]))]) (wr := [(O, .inl (cL, 1, .inr (.inl g)))]) [.int p0] [0, 1] [2] ⟨hx, hb, hml, hown, hts⟩ (fun sz => c_X5_costOf l hlT dC dI cI cV cJ cL P F G T za fa ia 0 0 p0 sz) q_ml_L_104 q_im_X5_costOf q_se_X5_costOf q_ini_X5 q_co_X5_costOf (n := 1) (by decide +kernel) rfl ⟨rfl, rfl⟩ ⟨Nat.le_of_ble_eq_true rfl, Nat.le_of_ble_eq_true rfl⟩ hP hD hS hA hK hN hXs hZs rfl rfl (by decide) (by decide) (by decide) rfl rfl rfl hl.1 rfl (Nat.le_of_ble_eq_true rfl) dL_costOf_4 ⟨Nat.le_of_ble_eq_true rfl, Nat.le_of_ble_eq_true rfl⟩ (fun E ce q9 H locs hpx hP hD hS hc1 hc2 hc3 => ?_) (fun r u9 H locs hpo hP hD hS => ?_)
  · obtain ⟨u9, hpx⟩ := hpx
    obtain rfl : E = "java/lang/IndexOutOfBoundsException" := hpx
    have hP : va_P (dC, dI) cls [(O, .inl (cL, 1, .inr (.inl g)))] H := hP
    have hD : va_D A [(O, .inl (cL, 1, .inr (.inl g)))] := hD
    refine vx_catch (name := "java/lang/IndexOutOfBoundsException") hown [] _ _ (ht9.trans rfl) (fun z hz => by cases hz) rfl (by decide) (hts _ (tb_in q_cl_L_21)) (va_Nw.use rfl hXs.1.2.2.2.2.2) hc1 hc2 hc3 ?_
    refine lv_astore_n (lv' := [(3, .ref q9), (0, .ref P), (1, .int p0), (2, .ref O)]) hx hb dL_costOf_12 rfl hl (by decide) rfl (fun ls hl => ?_)
    refine lv_iconst (v := 1) hx hb dL_costOf_13 (by decide) ?_
    refine k_wid (k := 1) (n := 6) (Nat.le_of_ble_eq_true rfl) (Nat.le_of_ble_eq_true rfl) (vx_ret ?_)
    have hP9 := hP
    have hD9 := hD
    exact W.iret (v := 1) hx hb hr (fun t9 ht9 hW9 => ⟨⟨_, g, rfl, ⟨rfl, fun h => absurd h (by decide)⟩, by rw [ht9]; exact hP9, va_K.moved hW9.alike hK, hD9⟩, hS.F ht9⟩) hS.2.2 dL_costOf_14
  exact hpo.elim
set_option maxHeartbeats 4000000 in
set_option maxRecDepth 100000 in
theorem h_jobAt (l : Launch) (hlT : l.stackTraces = false) (dC : Nat → ClassId) (dI : Nat → Nat → Nat) (cI cV cJ cL : ClassId) (P F G T za : Nat) (fa ia : Nat → Nat) (O : Nat) (g : Nat → Int64) (p0 p1 : Int32) (sz : Nat) : vx_Met l yL_jobAt (Cond.codeWith yL_jobAt cL_jobAt 5 (some .int) [(0, 10, 13, 21)] :: TB) ({ frames := 24, cells := 1, slots := 6, locals := 1200 } : Room) (PXw [.ref P, .int p0, .int p1, .ref O] (dC, dI) [(P, .inr (5, [.ref F, .ref G, .ref T, .ref za, .ref (ia 0), .ref (ia 1), .ref (ia 2), .int 0, .int 0])), (F, .inr (0, [.ref (fa 0), .ref (fa 1), .ref (fa 2), .ref (fa 3), .ref (fa 4), .ref (fa 5), .ref (fa 6), .ref (fa 7), .ref (fa 8), .int 0, .int 0, .int 0])), (O, .inl (cL, 1, .inr (.inl g)))] (TYP cI cV cJ cL) sz) (va_Qi (fun (r : Int32) (g : Nat → Int64) => r = 1 ∧ (1 = 0 → g 0 = 0)) (QB (dC, dI) (fun (g : Nat → Int64) => [(O, .inl (cL, 1, .inr (.inl g)))]) (TYP cI cV cJ cL) (va_A [(P, .inr (5, [.ref F, .ref G, .ref T, .ref za, .ref (ia 0), .ref (ia 1), .ref (ia 2), .int 0, .int 0])), (F, .inr (0, [.ref (fa 0), .ref (fa 1), .ref (fa 2), .ref (fa 3), .ref (fa 4), .ref (fa 5), .ref (fa 6), .ref (fa 7), .ref (fa 8), .int 0, .int 0, .int 0])), (O, .inl (cL, 1, .inr (.inl g)))] sz)) (va_A [(P, .inr (5, [.ref F, .ref G, .ref T, .ref za, .ref (ia 0), .ref (ia 1), .ref (ia 2), .int 0, .int 0])), (F, .inr (0, [.ref (fa 0), .ref (fa 1), .ref (fa 2), .ref (fa 3), .ref (fa 4), .ref (fa 5), .ref (fa 6), .ref (fa 7), .ref (fa 8), .int 0, .int 0, .int 0])), (O, .inl (cL, 1, .inr (.inl g)))] sz)) (vx_X (fun _ : Unit => False) (fun _ _ _ => True) (va_A [(P, .inr (5, [.ref F, .ref G, .ref T, .ref za, .ref (ia 0), .ref (ia 1), .ref (ia 2), .int 0, .int 0])), (F, .inr (0, [.ref (fa 0), .ref (fa 1), .ref (fa 2), .ref (fa 3), .ref (fa 4), .ref (fa 5), .ref (fa 6), .ref (fa 7), .ref (fa 8), .int 0, .int 0, .int 0])), (O, .inl (cL, 1, .inr (.inl g)))] sz)) 1 6 (va_A [(P, .inr (5, [.ref F, .ref G, .ref T, .ref za, .ref (ia 0), .ref (ia 1), .ref (ia 2), .int 0, .int 0])), (F, .inr (0, [.ref (fa 0), .ref (fa 1), .ref (fa 2), .ref (fa 3), .ref (fa 4), .ref (fa 5), .ref (fa 6), .ref (fa 7), .ref (fa 8), .int 0, .int 0, .int 0])), (O, .inl (cL, 1, .inr (.inl g)))] sz) := by
  refine vx_ofWH (cc := cL_jobAt) (maxL := 5) (ret := (some .int)) (hh := [(0, 10, 13, 21)]) (by decide) rfl ?_
  intro p e s m args below meth c s₁ B hml hv
  obtain ⟨rfl, hsz, hP, hK, hD0, hN, hXs, hZs⟩ := hv
  have hx := B.exec
  have hb := B.bytes
  have hr := B.returns
  have hts := atoms_spec (ws := (Cond.codeWith yL_jobAt cL_jobAt 5 (some .int) [(0, 10, 13, 21)] :: TB)) B.pre
  have hown : s.vm.findClass RL = some m.cls := findClass_of_methodNamed B.named
  have hlocks := B.notSynchronized
  have ht9 := vx_table (x := yL_jobAt) B (hts _ List.mem_cons_self)
  subst hsz
  have hD := hD0.self (sz := s.heap.size)
  generalize hAe : va_A [(P, .inr (5, [.ref F, .ref G, .ref T, .ref za, .ref (ia 0), .ref (ia 1), .ref (ia 2), .int 0, .int 0])), (F, .inr (0, [.ref (fa 0), .ref (fa 1), .ref (fa 2), .ref (fa 3), .ref (fa 4), .ref (fa 5), .ref (fa 6), .ref (fa 7), .ref (fa 8), .int 0, .int 0, .int 0])), (O, .inl (cL, 1, .inr (.inl g)))] s.heap.size = A at hD hZs ⊢
  have hA : ∀ q : Nat, s.heap.size ≤ q → A q := fun q h => by rw [← hAe]; exact Or.inr h
  have hS : va_S A s.heap s.heap [] := va_S.rf
  have hl := lv_entry ([.ref P, .int p0, .int p1, .ref O]) (n := 5) (Nat.le_of_ble_eq_true rfl)
  rw [lg_entry_eq]
  generalize (lg_sl ([.ref P, .int p0, .int p1, .ref O]) ++ List.replicate (5 - (lg_sl ([.ref P, .int p0, .int p1, .ref O])).length) Slot.unset).toArray = ls at hl ⊢
  have hl : lv_has ls 5 [(0, .ref P), (1, .int p0), (2, .int p1), (3, .ref O)] := hl
  refine lv_aload_n hx hb dL_jobAt_0 rfl (lv_at hl 3 rfl) ?_
  refine lv_iconst (v := 0) hx hb dL_jobAt_1 (by decide) ?_
  refine lv_aload_n hx hb dL_jobAt_2 rfl (lv_at hl 0 rfl) ?_
  refine lv_iload_n hx hb dL_jobAt_3 rfl (lv_at hl 1 rfl) ?_
  refine lv_iload_n hx hb dL_jobAt_4 rfl (lv_at hl 2 rfl) ?_
  refine x_Vi (ci := 5) (q0 := 0) (wc := [(P, .inr (5, [.ref F, .ref G, .ref T, .ref za, .ref (ia 0), .ref (ia 1), .ref (ia 2), .int 0, .int 0])), (F, .inr (0, [.ref (fa 0), .ref (fa 1), .ref (fa 2), .ref (fa 3), .ref (fa 4), .ref (fa 5), .ref (fa 6), .ref (fa 7), .ref (fa 8), .int 0, .int 0, .int 0]))]) (wr := [(O, .inl (cL, 1, .inr (.inl g)))]) [.int p0, .int p1] [0, 1] [2] ⟨hx, hb, hml, hown, hts⟩ (fun sz => c_X5_jobAt l hlT dC dI cI cV cJ cL P F G T za fa ia 0 0 p0 p1 sz) q_ml_L_73 q_im_X5_jobAt q_se_X5_jobAt q_ini_X5 q_co_X5_jobAt (n := 2) (by decide +kernel) rfl ⟨rfl, rfl⟩ ⟨Nat.le_of_ble_eq_true rfl, Nat.le_of_ble_eq_true rfl⟩ hP hD hS hA hK hN hXs hZs rfl rfl (by decide) (by decide) (by decide) rfl rfl rfl hl.1 rfl (Nat.le_of_ble_eq_true rfl) dL_jobAt_5 ⟨Nat.le_of_ble_eq_true rfl, Nat.le_of_ble_eq_true rfl⟩ (fun E ce q9 H locs hpx hP hD hS hc1 hc2 hc3 => ?_) (fun r u9 H locs hpo hP hD hS => ?_)
  · obtain ⟨u9, hpx⟩ := hpx
    obtain rfl : E = "java/lang/IndexOutOfBoundsException" := hpx
    have hP : va_P (dC, dI) cls [(O, .inl (cL, 1, .inr (.inl g)))] H := hP
    have hD : va_D A [(O, .inl (cL, 1, .inr (.inl g)))] := hD
    refine vx_catch (name := "java/lang/IndexOutOfBoundsException") hown [] _ _ (ht9.trans rfl) (fun z hz => by cases hz) rfl (by decide) (hts _ (tb_in q_cl_L_21)) (va_Nw.use rfl hXs.1.2.2.2.2.2) hc1 hc2 hc3 ?_
    refine lv_astore (lv' := [(4, .ref q9), (0, .ref P), (1, .int p0), (2, .int p1), (3, .ref O)]) hx hb dL_jobAt_13 hl (by decide) rfl (fun ls hl => ?_)
    refine lv_iconst (v := 1) hx hb dL_jobAt_15 (by decide) ?_
    refine k_wid (k := 1) (n := 6) (Nat.le_of_ble_eq_true rfl) (Nat.le_of_ble_eq_true rfl) (vx_ret ?_)
    have hP9 := hP
    have hD9 := hD
    exact W.iret (v := 1) hx hb hr (fun t9 ht9 hW9 => ⟨⟨_, g, rfl, ⟨rfl, fun h => absurd h (by decide)⟩, by rw [ht9]; exact hP9, va_K.moved hW9.alike hK, hD9⟩, hS.F ht9⟩) hS.2.2 dL_jobAt_16
  exact hpo.elim
set_option maxHeartbeats 4000000 in
set_option maxRecDepth 100000 in
theorem h_isFetched (l : Launch) (hlT : l.stackTraces = false) (dC : Nat → ClassId) (dI : Nat → Nat → Nat) (cI cV cJ cL : ClassId) (P F G T za : Nat) (fa ia : Nat → Nat) (O : Nat) (g : Nat → Int64) (p0 p1 : Int32) (sz : Nat) : vx_Met l yL_isFetched (Cond.codeWith yL_isFetched cL_isFetched 5 (some .int) [(0, 17, 20, 21)] :: TB) ({ frames := 24, cells := 1, slots := 6, locals := 1200 } : Room) (PXw [.ref P, .int p0, .int p1, .ref O] (dC, dI) [(P, .inr (5, [.ref F, .ref G, .ref T, .ref za, .ref (ia 0), .ref (ia 1), .ref (ia 2), .int 0, .int 0])), (F, .inr (0, [.ref (fa 0), .ref (fa 1), .ref (fa 2), .ref (fa 3), .ref (fa 4), .ref (fa 5), .ref (fa 6), .ref (fa 7), .ref (fa 8), .int 0, .int 0, .int 0])), (O, .inl (cL, 1, .inr (.inl g)))] (TYP cI cV cJ cL) sz) (va_Qi (fun (r : Int32) (g : Nat → Int64) => r = 1 ∧ (1 = 0 → g 0 = 0)) (QB (dC, dI) (fun (g : Nat → Int64) => [(O, .inl (cL, 1, .inr (.inl g)))]) (TYP cI cV cJ cL) (va_A [(P, .inr (5, [.ref F, .ref G, .ref T, .ref za, .ref (ia 0), .ref (ia 1), .ref (ia 2), .int 0, .int 0])), (F, .inr (0, [.ref (fa 0), .ref (fa 1), .ref (fa 2), .ref (fa 3), .ref (fa 4), .ref (fa 5), .ref (fa 6), .ref (fa 7), .ref (fa 8), .int 0, .int 0, .int 0])), (O, .inl (cL, 1, .inr (.inl g)))] sz)) (va_A [(P, .inr (5, [.ref F, .ref G, .ref T, .ref za, .ref (ia 0), .ref (ia 1), .ref (ia 2), .int 0, .int 0])), (F, .inr (0, [.ref (fa 0), .ref (fa 1), .ref (fa 2), .ref (fa 3), .ref (fa 4), .ref (fa 5), .ref (fa 6), .ref (fa 7), .ref (fa 8), .int 0, .int 0, .int 0])), (O, .inl (cL, 1, .inr (.inl g)))] sz)) (vx_X (fun _ : Unit => False) (fun _ _ _ => True) (va_A [(P, .inr (5, [.ref F, .ref G, .ref T, .ref za, .ref (ia 0), .ref (ia 1), .ref (ia 2), .int 0, .int 0])), (F, .inr (0, [.ref (fa 0), .ref (fa 1), .ref (fa 2), .ref (fa 3), .ref (fa 4), .ref (fa 5), .ref (fa 6), .ref (fa 7), .ref (fa 8), .int 0, .int 0, .int 0])), (O, .inl (cL, 1, .inr (.inl g)))] sz)) 1 6 (va_A [(P, .inr (5, [.ref F, .ref G, .ref T, .ref za, .ref (ia 0), .ref (ia 1), .ref (ia 2), .int 0, .int 0])), (F, .inr (0, [.ref (fa 0), .ref (fa 1), .ref (fa 2), .ref (fa 3), .ref (fa 4), .ref (fa 5), .ref (fa 6), .ref (fa 7), .ref (fa 8), .int 0, .int 0, .int 0])), (O, .inl (cL, 1, .inr (.inl g)))] sz) := by
  refine vx_ofWH (cc := cL_isFetched) (maxL := 5) (ret := (some .int)) (hh := [(0, 17, 20, 21)]) (by decide) rfl ?_
  intro p e s m args below meth c s₁ B hml hv
  obtain ⟨rfl, hsz, hP, hK, hD0, hN, hXs, hZs⟩ := hv
  have hx := B.exec
  have hb := B.bytes
  have hr := B.returns
  have hts := atoms_spec (ws := (Cond.codeWith yL_isFetched cL_isFetched 5 (some .int) [(0, 17, 20, 21)] :: TB)) B.pre
  have hown : s.vm.findClass RL = some m.cls := findClass_of_methodNamed B.named
  have hlocks := B.notSynchronized
  have ht9 := vx_table (x := yL_isFetched) B (hts _ List.mem_cons_self)
  subst hsz
  have hD := hD0.self (sz := s.heap.size)
  generalize hAe : va_A [(P, .inr (5, [.ref F, .ref G, .ref T, .ref za, .ref (ia 0), .ref (ia 1), .ref (ia 2), .int 0, .int 0])), (F, .inr (0, [.ref (fa 0), .ref (fa 1), .ref (fa 2), .ref (fa 3), .ref (fa 4), .ref (fa 5), .ref (fa 6), .ref (fa 7), .ref (fa 8), .int 0, .int 0, .int 0])), (O, .inl (cL, 1, .inr (.inl g)))] s.heap.size = A at hD hZs ⊢
  have hA : ∀ q : Nat, s.heap.size ≤ q → A q := fun q h => by rw [← hAe]; exact Or.inr h
  have hS : va_S A s.heap s.heap [] := va_S.rf
  have hl := lv_entry ([.ref P, .int p0, .int p1, .ref O]) (n := 5) (Nat.le_of_ble_eq_true rfl)
  rw [lg_entry_eq]
  generalize (lg_sl ([.ref P, .int p0, .int p1, .ref O]) ++ List.replicate (5 - (lg_sl ([.ref P, .int p0, .int p1, .ref O])).length) Slot.unset).toArray = ls at hl ⊢
  have hl : lv_has ls 5 [(0, .ref P), (1, .int p0), (2, .int p1), (3, .ref O)] := hl
  refine lv_aload_n hx hb dL_isFetched_0 rfl (lv_at hl 3 rfl) ?_
  refine lv_iconst (v := 0) hx hb dL_isFetched_1 (by decide) ?_
  refine lv_aload_n hx hb dL_isFetched_2 rfl (lv_at hl 0 rfl) ?_
  refine lv_iload_n hx hb dL_isFetched_3 rfl (lv_at hl 1 rfl) ?_
  refine lv_iload_n hx hb dL_isFetched_4 rfl (lv_at hl 2 rfl) ?_
  refine x_Vi (ci := 5) (q0 := 0) (wc := [(P, .inr (5, [.ref F, .ref G, .ref T, .ref za, .ref (ia 0), .ref (ia 1), .ref (ia 2), .int 0, .int 0])), (F, .inr (0, [.ref (fa 0), .ref (fa 1), .ref (fa 2), .ref (fa 3), .ref (fa 4), .ref (fa 5), .ref (fa 6), .ref (fa 7), .ref (fa 8), .int 0, .int 0, .int 0]))]) (wr := [(O, .inl (cL, 1, .inr (.inl g)))]) [.int p0, .int p1] [0, 1] [2] ⟨hx, hb, hml, hown, hts⟩ (fun sz => c_X5_isFetched l hlT dC dI cI cV cJ cL P F G T za fa ia 0 0 p0 p1 sz) q_ml_L_76 q_im_X5_isFetched q_se_X5_isFetched q_ini_X5 q_co_X5_isFetched (n := 2) (by decide +kernel) rfl ⟨rfl, rfl⟩ ⟨Nat.le_of_ble_eq_true rfl, Nat.le_of_ble_eq_true rfl⟩ hP hD hS hA hK hN hXs hZs rfl rfl (by decide) (by decide) (by decide) rfl rfl rfl hl.1 rfl (Nat.le_of_ble_eq_true rfl) dL_isFetched_5 ⟨Nat.le_of_ble_eq_true rfl, Nat.le_of_ble_eq_true rfl⟩ (fun E ce q9 H locs hpx hP hD hS hc1 hc2 hc3 => ?_) (fun r u9 H locs hpo hP hD hS => ?_)
  · obtain ⟨u9, hpx⟩ := hpx
    obtain rfl : E = "java/lang/IndexOutOfBoundsException" := hpx
    have hP : va_P (dC, dI) cls [(O, .inl (cL, 1, .inr (.inl g)))] H := hP
    have hD : va_D A [(O, .inl (cL, 1, .inr (.inl g)))] := hD
    refine vx_catch (name := "java/lang/IndexOutOfBoundsException") hown [] _ _ (ht9.trans rfl) (fun z hz => by cases hz) rfl (by decide) (hts _ (tb_in q_cl_L_21)) (va_Nw.use rfl hXs.1.2.2.2.2.2) hc1 hc2 hc3 ?_
    refine lv_astore (lv' := [(4, .ref q9), (0, .ref P), (1, .int p0), (2, .int p1), (3, .ref O)]) hx hb dL_isFetched_20 hl (by decide) rfl (fun ls hl => ?_)
    refine lv_iconst (v := 1) hx hb dL_isFetched_22 (by decide) ?_
    refine k_wid (k := 1) (n := 6) (Nat.le_of_ble_eq_true rfl) (Nat.le_of_ble_eq_true rfl) (vx_ret ?_)
    have hP9 := hP
    have hD9 := hD
    exact W.iret (v := 1) hx hb hr (fun t9 ht9 hW9 => ⟨⟨_, g, rfl, ⟨rfl, fun h => absurd h (by decide)⟩, by rw [ht9]; exact hP9, va_K.moved hW9.alike hK, hD9⟩, hS.F ht9⟩) hS.2.2 dL_isFetched_23
  exact hpo.elim
set_option maxHeartbeats 4000000 in
set_option maxRecDepth 100000 in
theorem h_arrives (l : Launch) (hlT : l.stackTraces = false) (dC : Nat → ClassId) (dI : Nat → Nat → Nat) (cI cV cJ cL : ClassId) (P F G T za : Nat) (fa ia : Nat → Nat) (O : Nat) (g : Nat → Int64) (p0 p1 : Int32) (sz : Nat) : vx_Met l yL_arrives (Cond.codeWith yL_arrives cL_arrives 5 (some .int) [(0, 10, 13, 21)] :: TB) ({ frames := 24, cells := 1, slots := 6, locals := 1200 } : Room) (PXw [.ref P, .int p0, .int p1, .ref O] (dC, dI) [(P, .inr (5, [.ref F, .ref G, .ref T, .ref za, .ref (ia 0), .ref (ia 1), .ref (ia 2), .int 0, .int 0])), (F, .inr (0, [.ref (fa 0), .ref (fa 1), .ref (fa 2), .ref (fa 3), .ref (fa 4), .ref (fa 5), .ref (fa 6), .ref (fa 7), .ref (fa 8), .int 0, .int 0, .int 0])), (O, .inl (cL, 1, .inr (.inl g)))] (TYP cI cV cJ cL) sz) (va_Qi (fun (r : Int32) (g : Nat → Int64) => r = 1 ∧ (1 = 0 → g 0 = 0)) (QB (dC, dI) (fun (g : Nat → Int64) => [(O, .inl (cL, 1, .inr (.inl g)))]) (TYP cI cV cJ cL) (va_A [(P, .inr (5, [.ref F, .ref G, .ref T, .ref za, .ref (ia 0), .ref (ia 1), .ref (ia 2), .int 0, .int 0])), (F, .inr (0, [.ref (fa 0), .ref (fa 1), .ref (fa 2), .ref (fa 3), .ref (fa 4), .ref (fa 5), .ref (fa 6), .ref (fa 7), .ref (fa 8), .int 0, .int 0, .int 0])), (O, .inl (cL, 1, .inr (.inl g)))] sz)) (va_A [(P, .inr (5, [.ref F, .ref G, .ref T, .ref za, .ref (ia 0), .ref (ia 1), .ref (ia 2), .int 0, .int 0])), (F, .inr (0, [.ref (fa 0), .ref (fa 1), .ref (fa 2), .ref (fa 3), .ref (fa 4), .ref (fa 5), .ref (fa 6), .ref (fa 7), .ref (fa 8), .int 0, .int 0, .int 0])), (O, .inl (cL, 1, .inr (.inl g)))] sz)) (vx_X (fun _ : Unit => False) (fun _ _ _ => True) (va_A [(P, .inr (5, [.ref F, .ref G, .ref T, .ref za, .ref (ia 0), .ref (ia 1), .ref (ia 2), .int 0, .int 0])), (F, .inr (0, [.ref (fa 0), .ref (fa 1), .ref (fa 2), .ref (fa 3), .ref (fa 4), .ref (fa 5), .ref (fa 6), .ref (fa 7), .ref (fa 8), .int 0, .int 0, .int 0])), (O, .inl (cL, 1, .inr (.inl g)))] sz)) 1 6 (va_A [(P, .inr (5, [.ref F, .ref G, .ref T, .ref za, .ref (ia 0), .ref (ia 1), .ref (ia 2), .int 0, .int 0])), (F, .inr (0, [.ref (fa 0), .ref (fa 1), .ref (fa 2), .ref (fa 3), .ref (fa 4), .ref (fa 5), .ref (fa 6), .ref (fa 7), .ref (fa 8), .int 0, .int 0, .int 0])), (O, .inl (cL, 1, .inr (.inl g)))] sz) := by
  refine vx_ofWH (cc := cL_arrives) (maxL := 5) (ret := (some .int)) (hh := [(0, 10, 13, 21)]) (by decide) rfl ?_
  intro p e s m args below meth c s₁ B hml hv
  obtain ⟨rfl, hsz, hP, hK, hD0, hN, hXs, hZs⟩ := hv
  have hx := B.exec
  have hb := B.bytes
  have hr := B.returns
  have hts := atoms_spec (ws := (Cond.codeWith yL_arrives cL_arrives 5 (some .int) [(0, 10, 13, 21)] :: TB)) B.pre
  have hown : s.vm.findClass RL = some m.cls := findClass_of_methodNamed B.named
  have hlocks := B.notSynchronized
  have ht9 := vx_table (x := yL_arrives) B (hts _ List.mem_cons_self)
  subst hsz
  have hD := hD0.self (sz := s.heap.size)
  generalize hAe : va_A [(P, .inr (5, [.ref F, .ref G, .ref T, .ref za, .ref (ia 0), .ref (ia 1), .ref (ia 2), .int 0, .int 0])), (F, .inr (0, [.ref (fa 0), .ref (fa 1), .ref (fa 2), .ref (fa 3), .ref (fa 4), .ref (fa 5), .ref (fa 6), .ref (fa 7), .ref (fa 8), .int 0, .int 0, .int 0])), (O, .inl (cL, 1, .inr (.inl g)))] s.heap.size = A at hD hZs ⊢
  have hA : ∀ q : Nat, s.heap.size ≤ q → A q := fun q h => by rw [← hAe]; exact Or.inr h
  have hS : va_S A s.heap s.heap [] := va_S.rf
  have hl := lv_entry ([.ref P, .int p0, .int p1, .ref O]) (n := 5) (Nat.le_of_ble_eq_true rfl)
  rw [lg_entry_eq]
  generalize (lg_sl ([.ref P, .int p0, .int p1, .ref O]) ++ List.replicate (5 - (lg_sl ([.ref P, .int p0, .int p1, .ref O])).length) Slot.unset).toArray = ls at hl ⊢
  have hl : lv_has ls 5 [(0, .ref P), (1, .int p0), (2, .int p1), (3, .ref O)] := hl
  refine lv_aload_n hx hb dL_arrives_0 rfl (lv_at hl 3 rfl) ?_
  refine lv_iconst (v := 0) hx hb dL_arrives_1 (by decide) ?_
  refine lv_aload_n hx hb dL_arrives_2 rfl (lv_at hl 0 rfl) ?_
  refine lv_iload_n hx hb dL_arrives_3 rfl (lv_at hl 1 rfl) ?_
  refine lv_iload_n hx hb dL_arrives_4 rfl (lv_at hl 2 rfl) ?_
  refine x_Vi (ci := 5) (q0 := 0) (wc := [(P, .inr (5, [.ref F, .ref G, .ref T, .ref za, .ref (ia 0), .ref (ia 1), .ref (ia 2), .int 0, .int 0])), (F, .inr (0, [.ref (fa 0), .ref (fa 1), .ref (fa 2), .ref (fa 3), .ref (fa 4), .ref (fa 5), .ref (fa 6), .ref (fa 7), .ref (fa 8), .int 0, .int 0, .int 0]))]) (wr := [(O, .inl (cL, 1, .inr (.inl g)))]) [.int p0, .int p1] [0, 1] [2] ⟨hx, hb, hml, hown, hts⟩ (fun sz => c_X5_arrives l hlT dC dI cI cV cJ cL P F G T za fa ia 0 0 p0 p1 sz) q_ml_L_80 q_im_X5_arrives q_se_X5_arrives q_ini_X5 q_co_X5_arrives (n := 2) (by decide +kernel) rfl ⟨rfl, rfl⟩ ⟨Nat.le_of_ble_eq_true rfl, Nat.le_of_ble_eq_true rfl⟩ hP hD hS hA hK hN hXs hZs rfl rfl (by decide) (by decide) (by decide) rfl rfl rfl hl.1 rfl (Nat.le_of_ble_eq_true rfl) dL_arrives_5 ⟨Nat.le_of_ble_eq_true rfl, Nat.le_of_ble_eq_true rfl⟩ (fun E ce q9 H locs hpx hP hD hS hc1 hc2 hc3 => ?_) (fun r u9 H locs hpo hP hD hS => ?_)
  · obtain ⟨u9, hpx⟩ := hpx
    obtain rfl : E = "java/lang/IndexOutOfBoundsException" := hpx
    have hP : va_P (dC, dI) cls [(O, .inl (cL, 1, .inr (.inl g)))] H := hP
    have hD : va_D A [(O, .inl (cL, 1, .inr (.inl g)))] := hD
    refine vx_catch (name := "java/lang/IndexOutOfBoundsException") hown [] _ _ (ht9.trans rfl) (fun z hz => by cases hz) rfl (by decide) (hts _ (tb_in q_cl_L_21)) (va_Nw.use rfl hXs.1.2.2.2.2.2) hc1 hc2 hc3 ?_
    refine lv_astore (lv' := [(4, .ref q9), (0, .ref P), (1, .int p0), (2, .int p1), (3, .ref O)]) hx hb dL_arrives_13 hl (by decide) rfl (fun ls hl => ?_)
    refine lv_iconst (v := 1) hx hb dL_arrives_15 (by decide) ?_
    refine k_wid (k := 1) (n := 6) (Nat.le_of_ble_eq_true rfl) (Nat.le_of_ble_eq_true rfl) (vx_ret ?_)
    have hP9 := hP
    have hD9 := hD
    exact W.iret (v := 1) hx hb hr (fun t9 ht9 hW9 => ⟨⟨_, g, rfl, ⟨rfl, fun h => absurd h (by decide)⟩, by rw [ht9]; exact hP9, va_K.moved hW9.alike hK, hD9⟩, hS.F ht9⟩) hS.2.2 dL_arrives_16
  exact hpo.elim
set_option maxHeartbeats 4000000 in
set_option maxRecDepth 100000 in
theorem h_begins (l : Launch) (hlT : l.stackTraces = false) (dC : Nat → ClassId) (dI : Nat → Nat → Nat) (cI cV cJ cL : ClassId) (P F G T za : Nat) (fa ia : Nat → Nat) (O : Nat) (g : Nat → Int64) (p0 p1 : Int32) (sz : Nat) : vx_Met l yL_begins (Cond.codeWith yL_begins cL_begins 5 (some .int) [(0, 10, 13, 21)] :: TB) ({ frames := 24, cells := 1, slots := 6, locals := 1200 } : Room) (PXw [.ref P, .int p0, .int p1, .ref O] (dC, dI) [(P, .inr (5, [.ref F, .ref G, .ref T, .ref za, .ref (ia 0), .ref (ia 1), .ref (ia 2), .int 0, .int 0])), (F, .inr (0, [.ref (fa 0), .ref (fa 1), .ref (fa 2), .ref (fa 3), .ref (fa 4), .ref (fa 5), .ref (fa 6), .ref (fa 7), .ref (fa 8), .int 0, .int 0, .int 0])), (O, .inl (cL, 1, .inr (.inl g)))] (TYP cI cV cJ cL) sz) (va_Qi (fun (r : Int32) (g : Nat → Int64) => r = 1 ∧ (1 = 0 → g 0 = 0)) (QB (dC, dI) (fun (g : Nat → Int64) => [(O, .inl (cL, 1, .inr (.inl g)))]) (TYP cI cV cJ cL) (va_A [(P, .inr (5, [.ref F, .ref G, .ref T, .ref za, .ref (ia 0), .ref (ia 1), .ref (ia 2), .int 0, .int 0])), (F, .inr (0, [.ref (fa 0), .ref (fa 1), .ref (fa 2), .ref (fa 3), .ref (fa 4), .ref (fa 5), .ref (fa 6), .ref (fa 7), .ref (fa 8), .int 0, .int 0, .int 0])), (O, .inl (cL, 1, .inr (.inl g)))] sz)) (va_A [(P, .inr (5, [.ref F, .ref G, .ref T, .ref za, .ref (ia 0), .ref (ia 1), .ref (ia 2), .int 0, .int 0])), (F, .inr (0, [.ref (fa 0), .ref (fa 1), .ref (fa 2), .ref (fa 3), .ref (fa 4), .ref (fa 5), .ref (fa 6), .ref (fa 7), .ref (fa 8), .int 0, .int 0, .int 0])), (O, .inl (cL, 1, .inr (.inl g)))] sz)) (vx_X (fun _ : Unit => False) (fun _ _ _ => True) (va_A [(P, .inr (5, [.ref F, .ref G, .ref T, .ref za, .ref (ia 0), .ref (ia 1), .ref (ia 2), .int 0, .int 0])), (F, .inr (0, [.ref (fa 0), .ref (fa 1), .ref (fa 2), .ref (fa 3), .ref (fa 4), .ref (fa 5), .ref (fa 6), .ref (fa 7), .ref (fa 8), .int 0, .int 0, .int 0])), (O, .inl (cL, 1, .inr (.inl g)))] sz)) 1 6 (va_A [(P, .inr (5, [.ref F, .ref G, .ref T, .ref za, .ref (ia 0), .ref (ia 1), .ref (ia 2), .int 0, .int 0])), (F, .inr (0, [.ref (fa 0), .ref (fa 1), .ref (fa 2), .ref (fa 3), .ref (fa 4), .ref (fa 5), .ref (fa 6), .ref (fa 7), .ref (fa 8), .int 0, .int 0, .int 0])), (O, .inl (cL, 1, .inr (.inl g)))] sz) := by
  refine vx_ofWH (cc := cL_begins) (maxL := 5) (ret := (some .int)) (hh := [(0, 10, 13, 21)]) (by decide) rfl ?_
  intro p e s m args below meth c s₁ B hml hv
  obtain ⟨rfl, hsz, hP, hK, hD0, hN, hXs, hZs⟩ := hv
  have hx := B.exec
  have hb := B.bytes
  have hr := B.returns
  have hts := atoms_spec (ws := (Cond.codeWith yL_begins cL_begins 5 (some .int) [(0, 10, 13, 21)] :: TB)) B.pre
  have hown : s.vm.findClass RL = some m.cls := findClass_of_methodNamed B.named
  have hlocks := B.notSynchronized
  have ht9 := vx_table (x := yL_begins) B (hts _ List.mem_cons_self)
  subst hsz
  have hD := hD0.self (sz := s.heap.size)
  generalize hAe : va_A [(P, .inr (5, [.ref F, .ref G, .ref T, .ref za, .ref (ia 0), .ref (ia 1), .ref (ia 2), .int 0, .int 0])), (F, .inr (0, [.ref (fa 0), .ref (fa 1), .ref (fa 2), .ref (fa 3), .ref (fa 4), .ref (fa 5), .ref (fa 6), .ref (fa 7), .ref (fa 8), .int 0, .int 0, .int 0])), (O, .inl (cL, 1, .inr (.inl g)))] s.heap.size = A at hD hZs ⊢
  have hA : ∀ q : Nat, s.heap.size ≤ q → A q := fun q h => by rw [← hAe]; exact Or.inr h
  have hS : va_S A s.heap s.heap [] := va_S.rf
  have hl := lv_entry ([.ref P, .int p0, .int p1, .ref O]) (n := 5) (Nat.le_of_ble_eq_true rfl)
  rw [lg_entry_eq]
  generalize (lg_sl ([.ref P, .int p0, .int p1, .ref O]) ++ List.replicate (5 - (lg_sl ([.ref P, .int p0, .int p1, .ref O])).length) Slot.unset).toArray = ls at hl ⊢
  have hl : lv_has ls 5 [(0, .ref P), (1, .int p0), (2, .int p1), (3, .ref O)] := hl
  refine lv_aload_n hx hb dL_begins_0 rfl (lv_at hl 3 rfl) ?_
  refine lv_iconst (v := 0) hx hb dL_begins_1 (by decide) ?_
  refine lv_aload_n hx hb dL_begins_2 rfl (lv_at hl 0 rfl) ?_
  refine lv_iload_n hx hb dL_begins_3 rfl (lv_at hl 1 rfl) ?_
  refine lv_iload_n hx hb dL_begins_4 rfl (lv_at hl 2 rfl) ?_
  refine x_Vi (ci := 5) (q0 := 0) (wc := [(P, .inr (5, [.ref F, .ref G, .ref T, .ref za, .ref (ia 0), .ref (ia 1), .ref (ia 2), .int 0, .int 0])), (F, .inr (0, [.ref (fa 0), .ref (fa 1), .ref (fa 2), .ref (fa 3), .ref (fa 4), .ref (fa 5), .ref (fa 6), .ref (fa 7), .ref (fa 8), .int 0, .int 0, .int 0]))]) (wr := [(O, .inl (cL, 1, .inr (.inl g)))]) [.int p0, .int p1] [0, 1] [2] ⟨hx, hb, hml, hown, hts⟩ (fun sz => c_X5_begins l hlT dC dI cI cV cJ cL P F G T za fa ia 0 0 p0 p1 sz) q_ml_L_83 q_im_X5_begins q_se_X5_begins q_ini_X5 q_co_X5_begins (n := 2) (by decide +kernel) rfl ⟨rfl, rfl⟩ ⟨Nat.le_of_ble_eq_true rfl, Nat.le_of_ble_eq_true rfl⟩ hP hD hS hA hK hN hXs hZs rfl rfl (by decide) (by decide) (by decide) rfl rfl rfl hl.1 rfl (Nat.le_of_ble_eq_true rfl) dL_begins_5 ⟨Nat.le_of_ble_eq_true rfl, Nat.le_of_ble_eq_true rfl⟩ (fun E ce q9 H locs hpx hP hD hS hc1 hc2 hc3 => ?_) (fun r u9 H locs hpo hP hD hS => ?_)
  · obtain ⟨u9, hpx⟩ := hpx
    obtain rfl : E = "java/lang/IndexOutOfBoundsException" := hpx
    have hP : va_P (dC, dI) cls [(O, .inl (cL, 1, .inr (.inl g)))] H := hP
    have hD : va_D A [(O, .inl (cL, 1, .inr (.inl g)))] := hD
    refine vx_catch (name := "java/lang/IndexOutOfBoundsException") hown [] _ _ (ht9.trans rfl) (fun z hz => by cases hz) rfl (by decide) (hts _ (tb_in q_cl_L_21)) (va_Nw.use rfl hXs.1.2.2.2.2.2) hc1 hc2 hc3 ?_
    refine lv_astore (lv' := [(4, .ref q9), (0, .ref P), (1, .int p0), (2, .int p1), (3, .ref O)]) hx hb dL_begins_13 hl (by decide) rfl (fun ls hl => ?_)
    refine lv_iconst (v := 1) hx hb dL_begins_15 (by decide) ?_
    refine k_wid (k := 1) (n := 6) (Nat.le_of_ble_eq_true rfl) (Nat.le_of_ble_eq_true rfl) (vx_ret ?_)
    have hP9 := hP
    have hD9 := hD
    exact W.iret (v := 1) hx hb hr (fun t9 ht9 hW9 => ⟨⟨_, g, rfl, ⟨rfl, fun h => absurd h (by decide)⟩, by rw [ht9]; exact hP9, va_K.moved hW9.alike hK, hD9⟩, hS.F ht9⟩) hS.2.2 dL_begins_16
  exact hpo.elim
set_option maxHeartbeats 4000000 in
set_option maxRecDepth 100000 in
theorem h_loadBehind (l : Launch) (hlT : l.stackTraces = false) (dC : Nat → ClassId) (dI : Nat → Nat → Nat) (cI cV cJ cL : ClassId) (P F G T za : Nat) (fa ia : Nat → Nat) (O : Nat) (g : Nat → Int64) (p0 p1 : Int32) (sz : Nat) : vx_Met l yL_loadBehind (Cond.codeWith yL_loadBehind cL_loadBehind 5 (some .int) [(0, 10, 13, 21)] :: TB) ({ frames := 24, cells := 1, slots := 6, locals := 1200 } : Room) (PXw [.ref P, .int p0, .int p1, .ref O] (dC, dI) [(P, .inr (5, [.ref F, .ref G, .ref T, .ref za, .ref (ia 0), .ref (ia 1), .ref (ia 2), .int 0, .int 0])), (F, .inr (0, [.ref (fa 0), .ref (fa 1), .ref (fa 2), .ref (fa 3), .ref (fa 4), .ref (fa 5), .ref (fa 6), .ref (fa 7), .ref (fa 8), .int 0, .int 0, .int 0])), (O, .inl (cL, 1, .inr (.inl g)))] (TYP cI cV cJ cL) sz) (va_Qi (fun (r : Int32) (g : Nat → Int64) => r = 1 ∧ (1 = 0 → g 0 = 0)) (QB (dC, dI) (fun (g : Nat → Int64) => [(O, .inl (cL, 1, .inr (.inl g)))]) (TYP cI cV cJ cL) (va_A [(P, .inr (5, [.ref F, .ref G, .ref T, .ref za, .ref (ia 0), .ref (ia 1), .ref (ia 2), .int 0, .int 0])), (F, .inr (0, [.ref (fa 0), .ref (fa 1), .ref (fa 2), .ref (fa 3), .ref (fa 4), .ref (fa 5), .ref (fa 6), .ref (fa 7), .ref (fa 8), .int 0, .int 0, .int 0])), (O, .inl (cL, 1, .inr (.inl g)))] sz)) (va_A [(P, .inr (5, [.ref F, .ref G, .ref T, .ref za, .ref (ia 0), .ref (ia 1), .ref (ia 2), .int 0, .int 0])), (F, .inr (0, [.ref (fa 0), .ref (fa 1), .ref (fa 2), .ref (fa 3), .ref (fa 4), .ref (fa 5), .ref (fa 6), .ref (fa 7), .ref (fa 8), .int 0, .int 0, .int 0])), (O, .inl (cL, 1, .inr (.inl g)))] sz)) (vx_X (fun _ : Unit => False) (fun _ _ _ => True) (va_A [(P, .inr (5, [.ref F, .ref G, .ref T, .ref za, .ref (ia 0), .ref (ia 1), .ref (ia 2), .int 0, .int 0])), (F, .inr (0, [.ref (fa 0), .ref (fa 1), .ref (fa 2), .ref (fa 3), .ref (fa 4), .ref (fa 5), .ref (fa 6), .ref (fa 7), .ref (fa 8), .int 0, .int 0, .int 0])), (O, .inl (cL, 1, .inr (.inl g)))] sz)) 1 6 (va_A [(P, .inr (5, [.ref F, .ref G, .ref T, .ref za, .ref (ia 0), .ref (ia 1), .ref (ia 2), .int 0, .int 0])), (F, .inr (0, [.ref (fa 0), .ref (fa 1), .ref (fa 2), .ref (fa 3), .ref (fa 4), .ref (fa 5), .ref (fa 6), .ref (fa 7), .ref (fa 8), .int 0, .int 0, .int 0])), (O, .inl (cL, 1, .inr (.inl g)))] sz) := by
  refine vx_ofWH (cc := cL_loadBehind) (maxL := 5) (ret := (some .int)) (hh := [(0, 10, 13, 21)]) (by decide) rfl ?_
  intro p e s m args below meth c s₁ B hml hv
  obtain ⟨rfl, hsz, hP, hK, hD0, hN, hXs, hZs⟩ := hv
  have hx := B.exec
  have hb := B.bytes
  have hr := B.returns
  have hts := atoms_spec (ws := (Cond.codeWith yL_loadBehind cL_loadBehind 5 (some .int) [(0, 10, 13, 21)] :: TB)) B.pre
  have hown : s.vm.findClass RL = some m.cls := findClass_of_methodNamed B.named
  have hlocks := B.notSynchronized
  have ht9 := vx_table (x := yL_loadBehind) B (hts _ List.mem_cons_self)
  subst hsz
  have hD := hD0.self (sz := s.heap.size)
  generalize hAe : va_A [(P, .inr (5, [.ref F, .ref G, .ref T, .ref za, .ref (ia 0), .ref (ia 1), .ref (ia 2), .int 0, .int 0])), (F, .inr (0, [.ref (fa 0), .ref (fa 1), .ref (fa 2), .ref (fa 3), .ref (fa 4), .ref (fa 5), .ref (fa 6), .ref (fa 7), .ref (fa 8), .int 0, .int 0, .int 0])), (O, .inl (cL, 1, .inr (.inl g)))] s.heap.size = A at hD hZs ⊢
  have hA : ∀ q : Nat, s.heap.size ≤ q → A q := fun q h => by rw [← hAe]; exact Or.inr h
  have hS : va_S A s.heap s.heap [] := va_S.rf
  have hl := lv_entry ([.ref P, .int p0, .int p1, .ref O]) (n := 5) (Nat.le_of_ble_eq_true rfl)
  rw [lg_entry_eq]
  generalize (lg_sl ([.ref P, .int p0, .int p1, .ref O]) ++ List.replicate (5 - (lg_sl ([.ref P, .int p0, .int p1, .ref O])).length) Slot.unset).toArray = ls at hl ⊢
  have hl : lv_has ls 5 [(0, .ref P), (1, .int p0), (2, .int p1), (3, .ref O)] := hl
  refine lv_aload_n hx hb dL_loadBehind_0 rfl (lv_at hl 3 rfl) ?_
  refine lv_iconst (v := 0) hx hb dL_loadBehind_1 (by decide) ?_
  refine lv_aload_n hx hb dL_loadBehind_2 rfl (lv_at hl 0 rfl) ?_
  refine lv_iload_n hx hb dL_loadBehind_3 rfl (lv_at hl 1 rfl) ?_
  refine lv_iload_n hx hb dL_loadBehind_4 rfl (lv_at hl 2 rfl) ?_
  refine x_Vi (ci := 5) (q0 := 0) (wc := [(P, .inr (5, [.ref F, .ref G, .ref T, .ref za, .ref (ia 0), .ref (ia 1), .ref (ia 2), .int 0, .int 0])), (F, .inr (0, [.ref (fa 0), .ref (fa 1), .ref (fa 2), .ref (fa 3), .ref (fa 4), .ref (fa 5), .ref (fa 6), .ref (fa 7), .ref (fa 8), .int 0, .int 0, .int 0]))]) (wr := [(O, .inl (cL, 1, .inr (.inl g)))]) [.int p0, .int p1] [0, 1] [2] ⟨hx, hb, hml, hown, hts⟩ (fun sz => c_X5_loadBehind l hlT dC dI cI cV cJ cL P F G T za fa ia 0 0 p0 p1 sz) q_ml_L_86 q_im_X5_loadBehind q_se_X5_loadBehind q_ini_X5 q_co_X5_loadBehind (n := 2) (by decide +kernel) rfl ⟨rfl, rfl⟩ ⟨Nat.le_of_ble_eq_true rfl, Nat.le_of_ble_eq_true rfl⟩ hP hD hS hA hK hN hXs hZs rfl rfl (by decide) (by decide) (by decide) rfl rfl rfl hl.1 rfl (Nat.le_of_ble_eq_true rfl) dL_loadBehind_5 ⟨Nat.le_of_ble_eq_true rfl, Nat.le_of_ble_eq_true rfl⟩ (fun E ce q9 H locs hpx hP hD hS hc1 hc2 hc3 => ?_) (fun r u9 H locs hpo hP hD hS => ?_)
  · obtain ⟨u9, hpx⟩ := hpx
    obtain rfl : E = "java/lang/IndexOutOfBoundsException" := hpx
    have hP : va_P (dC, dI) cls [(O, .inl (cL, 1, .inr (.inl g)))] H := hP
    have hD : va_D A [(O, .inl (cL, 1, .inr (.inl g)))] := hD
    refine vx_catch (name := "java/lang/IndexOutOfBoundsException") hown [] _ _ (ht9.trans rfl) (fun z hz => by cases hz) rfl (by decide) (hts _ (tb_in q_cl_L_21)) (va_Nw.use rfl hXs.1.2.2.2.2.2) hc1 hc2 hc3 ?_
    refine lv_astore (lv' := [(4, .ref q9), (0, .ref P), (1, .int p0), (2, .int p1), (3, .ref O)]) hx hb dL_loadBehind_13 hl (by decide) rfl (fun ls hl => ?_)
    refine lv_iconst (v := 1) hx hb dL_loadBehind_15 (by decide) ?_
    refine k_wid (k := 1) (n := 6) (Nat.le_of_ble_eq_true rfl) (Nat.le_of_ble_eq_true rfl) (vx_ret ?_)
    have hP9 := hP
    have hD9 := hD
    exact W.iret (v := 1) hx hb hr (fun t9 ht9 hW9 => ⟨⟨_, g, rfl, ⟨rfl, fun h => absurd h (by decide)⟩, by rw [ht9]; exact hP9, va_K.moved hW9.alike hK, hD9⟩, hS.F ht9⟩) hS.2.2 dL_loadBehind_16
  exact hpo.elim
set_option maxHeartbeats 4000000 in
set_option maxRecDepth 100000 in
theorem h_slack (l : Launch) (hlT : l.stackTraces = false) (dC : Nat → ClassId) (dI : Nat → Nat → Nat) (cI cV cJ cL : ClassId) (P F G T za : Nat) (fa ia : Nat → Nat) (O : Nat) (g : Nat → Int64) (p0 p1 : Int32) (sz : Nat) : vx_Met l yL_slack (Cond.codeWith yL_slack cL_slack 5 (some .int) [(0, 10, 13, 21)] :: TB) ({ frames := 24, cells := 1, slots := 6, locals := 1200 } : Room) (PXw [.ref P, .int p0, .int p1, .ref O] (dC, dI) [(P, .inr (5, [.ref F, .ref G, .ref T, .ref za, .ref (ia 0), .ref (ia 1), .ref (ia 2), .int 0, .int 0])), (F, .inr (0, [.ref (fa 0), .ref (fa 1), .ref (fa 2), .ref (fa 3), .ref (fa 4), .ref (fa 5), .ref (fa 6), .ref (fa 7), .ref (fa 8), .int 0, .int 0, .int 0])), (O, .inl (cL, 1, .inr (.inl g)))] (TYP cI cV cJ cL) sz) (va_Qi (fun (r : Int32) (g : Nat → Int64) => r = 1 ∧ (1 = 0 → g 0 = 0)) (QB (dC, dI) (fun (g : Nat → Int64) => [(O, .inl (cL, 1, .inr (.inl g)))]) (TYP cI cV cJ cL) (va_A [(P, .inr (5, [.ref F, .ref G, .ref T, .ref za, .ref (ia 0), .ref (ia 1), .ref (ia 2), .int 0, .int 0])), (F, .inr (0, [.ref (fa 0), .ref (fa 1), .ref (fa 2), .ref (fa 3), .ref (fa 4), .ref (fa 5), .ref (fa 6), .ref (fa 7), .ref (fa 8), .int 0, .int 0, .int 0])), (O, .inl (cL, 1, .inr (.inl g)))] sz)) (va_A [(P, .inr (5, [.ref F, .ref G, .ref T, .ref za, .ref (ia 0), .ref (ia 1), .ref (ia 2), .int 0, .int 0])), (F, .inr (0, [.ref (fa 0), .ref (fa 1), .ref (fa 2), .ref (fa 3), .ref (fa 4), .ref (fa 5), .ref (fa 6), .ref (fa 7), .ref (fa 8), .int 0, .int 0, .int 0])), (O, .inl (cL, 1, .inr (.inl g)))] sz)) (vx_X (fun _ : Unit => False) (fun _ _ _ => True) (va_A [(P, .inr (5, [.ref F, .ref G, .ref T, .ref za, .ref (ia 0), .ref (ia 1), .ref (ia 2), .int 0, .int 0])), (F, .inr (0, [.ref (fa 0), .ref (fa 1), .ref (fa 2), .ref (fa 3), .ref (fa 4), .ref (fa 5), .ref (fa 6), .ref (fa 7), .ref (fa 8), .int 0, .int 0, .int 0])), (O, .inl (cL, 1, .inr (.inl g)))] sz)) 1 6 (va_A [(P, .inr (5, [.ref F, .ref G, .ref T, .ref za, .ref (ia 0), .ref (ia 1), .ref (ia 2), .int 0, .int 0])), (F, .inr (0, [.ref (fa 0), .ref (fa 1), .ref (fa 2), .ref (fa 3), .ref (fa 4), .ref (fa 5), .ref (fa 6), .ref (fa 7), .ref (fa 8), .int 0, .int 0, .int 0])), (O, .inl (cL, 1, .inr (.inl g)))] sz) := by
  refine vx_ofWH (cc := cL_slack) (maxL := 5) (ret := (some .int)) (hh := [(0, 10, 13, 21)]) (by decide) rfl ?_
  intro p e s m args below meth c s₁ B hml hv
  obtain ⟨rfl, hsz, hP, hK, hD0, hN, hXs, hZs⟩ := hv
  have hx := B.exec
  have hb := B.bytes
  have hr := B.returns
  have hts := atoms_spec (ws := (Cond.codeWith yL_slack cL_slack 5 (some .int) [(0, 10, 13, 21)] :: TB)) B.pre
  have hown : s.vm.findClass RL = some m.cls := findClass_of_methodNamed B.named
  have hlocks := B.notSynchronized
  have ht9 := vx_table (x := yL_slack) B (hts _ List.mem_cons_self)
  subst hsz
  have hD := hD0.self (sz := s.heap.size)
  generalize hAe : va_A [(P, .inr (5, [.ref F, .ref G, .ref T, .ref za, .ref (ia 0), .ref (ia 1), .ref (ia 2), .int 0, .int 0])), (F, .inr (0, [.ref (fa 0), .ref (fa 1), .ref (fa 2), .ref (fa 3), .ref (fa 4), .ref (fa 5), .ref (fa 6), .ref (fa 7), .ref (fa 8), .int 0, .int 0, .int 0])), (O, .inl (cL, 1, .inr (.inl g)))] s.heap.size = A at hD hZs ⊢
  have hA : ∀ q : Nat, s.heap.size ≤ q → A q := fun q h => by rw [← hAe]; exact Or.inr h
  have hS : va_S A s.heap s.heap [] := va_S.rf
  have hl := lv_entry ([.ref P, .int p0, .int p1, .ref O]) (n := 5) (Nat.le_of_ble_eq_true rfl)
  rw [lg_entry_eq]
  generalize (lg_sl ([.ref P, .int p0, .int p1, .ref O]) ++ List.replicate (5 - (lg_sl ([.ref P, .int p0, .int p1, .ref O])).length) Slot.unset).toArray = ls at hl ⊢
  have hl : lv_has ls 5 [(0, .ref P), (1, .int p0), (2, .int p1), (3, .ref O)] := hl
  refine lv_aload_n hx hb dL_slack_0 rfl (lv_at hl 3 rfl) ?_
  refine lv_iconst (v := 0) hx hb dL_slack_1 (by decide) ?_
  refine lv_aload_n hx hb dL_slack_2 rfl (lv_at hl 0 rfl) ?_
  refine lv_iload_n hx hb dL_slack_3 rfl (lv_at hl 1 rfl) ?_
  refine lv_iload_n hx hb dL_slack_4 rfl (lv_at hl 2 rfl) ?_
  refine x_Vi (ci := 5) (q0 := 0) (wc := [(P, .inr (5, [.ref F, .ref G, .ref T, .ref za, .ref (ia 0), .ref (ia 1), .ref (ia 2), .int 0, .int 0])), (F, .inr (0, [.ref (fa 0), .ref (fa 1), .ref (fa 2), .ref (fa 3), .ref (fa 4), .ref (fa 5), .ref (fa 6), .ref (fa 7), .ref (fa 8), .int 0, .int 0, .int 0]))]) (wr := [(O, .inl (cL, 1, .inr (.inl g)))]) [.int p0, .int p1] [0, 1] [2] ⟨hx, hb, hml, hown, hts⟩ (fun sz => c_X5_slack l hlT dC dI cI cV cJ cL P F G T za fa ia 0 0 p0 p1 sz) q_ml_L_89 q_im_X5_slack q_se_X5_slack q_ini_X5 q_co_X5_slack (n := 2) (by decide +kernel) rfl ⟨rfl, rfl⟩ ⟨Nat.le_of_ble_eq_true rfl, Nat.le_of_ble_eq_true rfl⟩ hP hD hS hA hK hN hXs hZs rfl rfl (by decide) (by decide) (by decide) rfl rfl rfl hl.1 rfl (Nat.le_of_ble_eq_true rfl) dL_slack_5 ⟨Nat.le_of_ble_eq_true rfl, Nat.le_of_ble_eq_true rfl⟩ (fun E ce q9 H locs hpx hP hD hS hc1 hc2 hc3 => ?_) (fun r u9 H locs hpo hP hD hS => ?_)
  · obtain ⟨u9, hpx⟩ := hpx
    obtain rfl : E = "java/lang/IndexOutOfBoundsException" := hpx
    have hP : va_P (dC, dI) cls [(O, .inl (cL, 1, .inr (.inl g)))] H := hP
    have hD : va_D A [(O, .inl (cL, 1, .inr (.inl g)))] := hD
    refine vx_catch (name := "java/lang/IndexOutOfBoundsException") hown [] _ _ (ht9.trans rfl) (fun z hz => by cases hz) rfl (by decide) (hts _ (tb_in q_cl_L_21)) (va_Nw.use rfl hXs.1.2.2.2.2.2) hc1 hc2 hc3 ?_
    refine lv_astore (lv' := [(4, .ref q9), (0, .ref P), (1, .int p0), (2, .int p1), (3, .ref O)]) hx hb dL_slack_13 hl (by decide) rfl (fun ls hl => ?_)
    refine lv_iconst (v := 1) hx hb dL_slack_15 (by decide) ?_
    refine k_wid (k := 1) (n := 6) (Nat.le_of_ble_eq_true rfl) (Nat.le_of_ble_eq_true rfl) (vx_ret ?_)
    have hP9 := hP
    have hD9 := hD
    exact W.iret (v := 1) hx hb hr (fun t9 ht9 hW9 => ⟨⟨_, g, rfl, ⟨rfl, fun h => absurd h (by decide)⟩, by rw [ht9]; exact hP9, va_K.moved hW9.alike hK, hD9⟩, hS.F ht9⟩) hS.2.2 dL_slack_16
  exact hpo.elim
set_option maxHeartbeats 4000000 in
set_option maxRecDepth 100000 in
theorem h_laterBack (l : Launch) (hlT : l.stackTraces = false) (dC : Nat → ClassId) (dI : Nat → Nat → Nat) (cI cV cJ cL : ClassId) (P F G T za : Nat) (fa ia : Nat → Nat) (O : Nat) (g : Nat → Int64) (p0 p1 p2 : Int32) (sz : Nat) : vx_Met l yL_laterBack (Cond.codeWith yL_laterBack cL_laterBack 6 (some .int) [(0, 12, 15, 21), (0, 12, 19, 13)] :: TB) ({ frames := 24, cells := 1, slots := 6, locals := 1200 } : Room) (PXw [.ref P, .int p0, .int p1, .int p2, .ref O] (dC, dI) [(P, .inr (5, [.ref F, .ref G, .ref T, .ref za, .ref (ia 0), .ref (ia 1), .ref (ia 2), .int 0, .int 0])), (F, .inr (0, [.ref (fa 0), .ref (fa 1), .ref (fa 2), .ref (fa 3), .ref (fa 4), .ref (fa 5), .ref (fa 6), .ref (fa 7), .ref (fa 8), .int 0, .int 0, .int 0])), (O, .inl (cL, 1, .inr (.inl g)))] (TYP cI cV cJ cL) sz) (va_Qi (fun (r : Int32) (g : Nat → Int64) => r = 1 ∧ (1 = 0 → g 0 = 0)) (QB (dC, dI) (fun (g : Nat → Int64) => [(O, .inl (cL, 1, .inr (.inl g)))]) (TYP cI cV cJ cL) (va_A [(P, .inr (5, [.ref F, .ref G, .ref T, .ref za, .ref (ia 0), .ref (ia 1), .ref (ia 2), .int 0, .int 0])), (F, .inr (0, [.ref (fa 0), .ref (fa 1), .ref (fa 2), .ref (fa 3), .ref (fa 4), .ref (fa 5), .ref (fa 6), .ref (fa 7), .ref (fa 8), .int 0, .int 0, .int 0])), (O, .inl (cL, 1, .inr (.inl g)))] sz)) (va_A [(P, .inr (5, [.ref F, .ref G, .ref T, .ref za, .ref (ia 0), .ref (ia 1), .ref (ia 2), .int 0, .int 0])), (F, .inr (0, [.ref (fa 0), .ref (fa 1), .ref (fa 2), .ref (fa 3), .ref (fa 4), .ref (fa 5), .ref (fa 6), .ref (fa 7), .ref (fa 8), .int 0, .int 0, .int 0])), (O, .inl (cL, 1, .inr (.inl g)))] sz)) (vx_X (fun _ : Unit => False) (fun _ _ _ => True) (va_A [(P, .inr (5, [.ref F, .ref G, .ref T, .ref za, .ref (ia 0), .ref (ia 1), .ref (ia 2), .int 0, .int 0])), (F, .inr (0, [.ref (fa 0), .ref (fa 1), .ref (fa 2), .ref (fa 3), .ref (fa 4), .ref (fa 5), .ref (fa 6), .ref (fa 7), .ref (fa 8), .int 0, .int 0, .int 0])), (O, .inl (cL, 1, .inr (.inl g)))] sz)) 1 6 (va_A [(P, .inr (5, [.ref F, .ref G, .ref T, .ref za, .ref (ia 0), .ref (ia 1), .ref (ia 2), .int 0, .int 0])), (F, .inr (0, [.ref (fa 0), .ref (fa 1), .ref (fa 2), .ref (fa 3), .ref (fa 4), .ref (fa 5), .ref (fa 6), .ref (fa 7), .ref (fa 8), .int 0, .int 0, .int 0])), (O, .inl (cL, 1, .inr (.inl g)))] sz) := by
  refine vx_ofWH (cc := cL_laterBack) (maxL := 6) (ret := (some .int)) (hh := [(0, 12, 15, 21), (0, 12, 19, 13)]) (by decide) rfl ?_
  intro p e s m args below meth c s₁ B hml hv
  obtain ⟨rfl, hsz, hP, hK, hD0, hN, hXs, hZs⟩ := hv
  have hx := B.exec
  have hb := B.bytes
  have hr := B.returns
  have hts := atoms_spec (ws := (Cond.codeWith yL_laterBack cL_laterBack 6 (some .int) [(0, 12, 15, 21), (0, 12, 19, 13)] :: TB)) B.pre
  have hown : s.vm.findClass RL = some m.cls := findClass_of_methodNamed B.named
  have hlocks := B.notSynchronized
  have ht9 := vx_table (x := yL_laterBack) B (hts _ List.mem_cons_self)
  subst hsz
  have hD := hD0.self (sz := s.heap.size)
  generalize hAe : va_A [(P, .inr (5, [.ref F, .ref G, .ref T, .ref za, .ref (ia 0), .ref (ia 1), .ref (ia 2), .int 0, .int 0])), (F, .inr (0, [.ref (fa 0), .ref (fa 1), .ref (fa 2), .ref (fa 3), .ref (fa 4), .ref (fa 5), .ref (fa 6), .ref (fa 7), .ref (fa 8), .int 0, .int 0, .int 0])), (O, .inl (cL, 1, .inr (.inl g)))] s.heap.size = A at hD hZs ⊢
  have hA : ∀ q : Nat, s.heap.size ≤ q → A q := fun q h => by rw [← hAe]; exact Or.inr h
  have hS : va_S A s.heap s.heap [] := va_S.rf
  have hl := lv_entry ([.ref P, .int p0, .int p1, .int p2, .ref O]) (n := 6) (Nat.le_of_ble_eq_true rfl)
  rw [lg_entry_eq]
  generalize (lg_sl ([.ref P, .int p0, .int p1, .int p2, .ref O]) ++ List.replicate (6 - (lg_sl ([.ref P, .int p0, .int p1, .int p2, .ref O])).length) Slot.unset).toArray = ls at hl ⊢
  have hl : lv_has ls 6 [(0, .ref P), (1, .int p0), (2, .int p1), (3, .int p2), (4, .ref O)] := hl
  refine lv_aload hx hb dL_laterBack_0 (lv_at hl 4 rfl) ?_
  refine lv_iconst (v := 0) hx hb dL_laterBack_2 (by decide) ?_
  refine lv_aload_n hx hb dL_laterBack_3 rfl (lv_at hl 0 rfl) ?_
  refine lv_iload_n hx hb dL_laterBack_4 rfl (lv_at hl 1 rfl) ?_
  refine lv_iload_n hx hb dL_laterBack_5 rfl (lv_at hl 2 rfl) ?_
  refine lv_iload_n hx hb dL_laterBack_6 rfl (lv_at hl 3 rfl) ?_
  refine x_Vi (ci := 5) (q0 := 0) (wc := [(P, .inr (5, [.ref F, .ref G, .ref T, .ref za, .ref (ia 0), .ref (ia 1), .ref (ia 2), .int 0, .int 0])), (F, .inr (0, [.ref (fa 0), .ref (fa 1), .ref (fa 2), .ref (fa 3), .ref (fa 4), .ref (fa 5), .ref (fa 6), .ref (fa 7), .ref (fa 8), .int 0, .int 0, .int 0]))]) (wr := [(O, .inl (cL, 1, .inr (.inl g)))]) [.int p0, .int p1, .int p2] [0, 1] [2] ⟨hx, hb, hml, hown, hts⟩ (fun sz => c_X5_laterBack l hlT dC dI cI cV cJ cL P F G T za fa ia 0 0 p0 p1 p2 sz) q_ml_L_113 q_im_X5_laterBack q_se_X5_laterBack q_ini_X5 q_co_X5_laterBack (n := 3) (by decide +kernel) rfl ⟨rfl, rfl⟩ ⟨Nat.le_of_ble_eq_true rfl, Nat.le_of_ble_eq_true rfl⟩ hP hD hS hA hK hN hXs hZs rfl rfl (by decide) (by decide) (by decide) rfl rfl rfl hl.1 rfl (Nat.le_of_ble_eq_true rfl) dL_laterBack_7 ⟨Nat.le_of_ble_eq_true rfl, Nat.le_of_ble_eq_true rfl⟩ (fun E ce q9 H locs hpx hP hD hS hc1 hc2 hc3 => ?_) (fun r u9 H locs hpo hP hD hS => ?_)
  · obtain ⟨u9, hpx⟩ := hpx
    obtain rfl : E = "java/lang/IndexOutOfBoundsException" := hpx
    have hP : va_P (dC, dI) cls [(O, .inl (cL, 1, .inr (.inl g)))] H := hP
    have hD : va_D A [(O, .inl (cL, 1, .inr (.inl g)))] := hD
    refine vx_catch (name := "java/lang/IndexOutOfBoundsException") hown [] _ _ (ht9.trans rfl) (fun z hz => by cases hz) rfl (by decide) (hts _ (tb_in q_cl_L_21)) (va_Nw.use rfl hXs.1.2.2.2.2.2) hc1 hc2 hc3 ?_
    refine lv_astore (lv' := [(5, .ref q9), (0, .ref P), (1, .int p0), (2, .int p1), (3, .int p2), (4, .ref O)]) hx hb dL_laterBack_15 hl (by decide) rfl (fun ls hl => ?_)
    refine lv_iconst (v := 1) hx hb dL_laterBack_17 (by decide) ?_
    refine k_wid (k := 1) (n := 6) (Nat.le_of_ble_eq_true rfl) (Nat.le_of_ble_eq_true rfl) (vx_ret ?_)
    have hP9 := hP
    have hD9 := hD
    exact W.iret (v := 1) hx hb hr (fun t9 ht9 hW9 => ⟨⟨_, g, rfl, ⟨rfl, fun h => absurd h (by decide)⟩, by rw [ht9]; exact hP9, va_K.moved hW9.alike hK, hD9⟩, hS.F ht9⟩) hS.2.2 dL_laterBack_18
  exact hpo.elim
set_option maxHeartbeats 4000000 in
set_option maxRecDepth 100000 in
theorem h_ruin (l : Launch) (hlT : l.stackTraces = false) (dC : Nat → ClassId) (dI : Nat → Nat → Nat) (cI cV cJ cL : ClassId) (P F G T za : Nat) (fa ia : Nat → Nat) (O : Nat) (g : Nat → Int64) (p0 : Int32) (sz : Nat) : vx_Met l yL_ruin (Cond.codeWith yL_ruin cL_ruin 4 (some .int) [(0, 9, 12, 13)] :: TB) ({ frames := 24, cells := 1, slots := 6, locals := 1200 } : Room) (PXw [.ref P, .int p0, .ref O] (dC, dI) [(P, .inr (5, [.ref F, .ref G, .ref T, .ref za, .ref (ia 0), .ref (ia 1), .ref (ia 2), .int 0, .int 0])), (F, .inr (0, [.ref (fa 0), .ref (fa 1), .ref (fa 2), .ref (fa 3), .ref (fa 4), .ref (fa 5), .ref (fa 6), .ref (fa 7), .ref (fa 8), .int 0, .int 0, .int 0])), (O, .inl (cL, 1, .inr (.inl g)))] (TYP cI cV cJ cL) sz) (va_Qi (fun (r : Int32) (g : Nat → Int64) => r = b01 (outF p0 1 9) ∧ (b01 (outF p0 1 9) = 0 → g 0 = 0)) (QB (dC, dI) (fun (g : Nat → Int64) => [(O, .inl (cL, 1, .inr (.inl g)))]) (TYP cI cV cJ cL) (va_A [(P, .inr (5, [.ref F, .ref G, .ref T, .ref za, .ref (ia 0), .ref (ia 1), .ref (ia 2), .int 0, .int 0])), (F, .inr (0, [.ref (fa 0), .ref (fa 1), .ref (fa 2), .ref (fa 3), .ref (fa 4), .ref (fa 5), .ref (fa 6), .ref (fa 7), .ref (fa 8), .int 0, .int 0, .int 0])), (O, .inl (cL, 1, .inr (.inl g)))] sz)) (va_A [(P, .inr (5, [.ref F, .ref G, .ref T, .ref za, .ref (ia 0), .ref (ia 1), .ref (ia 2), .int 0, .int 0])), (F, .inr (0, [.ref (fa 0), .ref (fa 1), .ref (fa 2), .ref (fa 3), .ref (fa 4), .ref (fa 5), .ref (fa 6), .ref (fa 7), .ref (fa 8), .int 0, .int 0, .int 0])), (O, .inl (cL, 1, .inr (.inl g)))] sz)) (vx_X (fun _ : Unit => False) (fun _ _ _ => True) (va_A [(P, .inr (5, [.ref F, .ref G, .ref T, .ref za, .ref (ia 0), .ref (ia 1), .ref (ia 2), .int 0, .int 0])), (F, .inr (0, [.ref (fa 0), .ref (fa 1), .ref (fa 2), .ref (fa 3), .ref (fa 4), .ref (fa 5), .ref (fa 6), .ref (fa 7), .ref (fa 8), .int 0, .int 0, .int 0])), (O, .inl (cL, 1, .inr (.inl g)))] sz)) 1 6 (va_A [(P, .inr (5, [.ref F, .ref G, .ref T, .ref za, .ref (ia 0), .ref (ia 1), .ref (ia 2), .int 0, .int 0])), (F, .inr (0, [.ref (fa 0), .ref (fa 1), .ref (fa 2), .ref (fa 3), .ref (fa 4), .ref (fa 5), .ref (fa 6), .ref (fa 7), .ref (fa 8), .int 0, .int 0, .int 0])), (O, .inl (cL, 1, .inr (.inl g)))] sz) := by
  refine vx_ofWH (cc := cL_ruin) (maxL := 4) (ret := (some .int)) (hh := [(0, 9, 12, 13)]) (by decide) rfl ?_
  intro p e s m args below meth c s₁ B hml hv
  obtain ⟨rfl, hsz, hP, hK, hD0, hN, hXs, hZs⟩ := hv
  have hx := B.exec
  have hb := B.bytes
  have hr := B.returns
  have hts := atoms_spec (ws := (Cond.codeWith yL_ruin cL_ruin 4 (some .int) [(0, 9, 12, 13)] :: TB)) B.pre
  have hown : s.vm.findClass RL = some m.cls := findClass_of_methodNamed B.named
  have hlocks := B.notSynchronized
  have ht9 := vx_table (x := yL_ruin) B (hts _ List.mem_cons_self)
  subst hsz
  have hD := hD0.self (sz := s.heap.size)
  generalize hAe : va_A [(P, .inr (5, [.ref F, .ref G, .ref T, .ref za, .ref (ia 0), .ref (ia 1), .ref (ia 2), .int 0, .int 0])), (F, .inr (0, [.ref (fa 0), .ref (fa 1), .ref (fa 2), .ref (fa 3), .ref (fa 4), .ref (fa 5), .ref (fa 6), .ref (fa 7), .ref (fa 8), .int 0, .int 0, .int 0])), (O, .inl (cL, 1, .inr (.inl g)))] s.heap.size = A at hD hZs ⊢
  have hA : ∀ q : Nat, s.heap.size ≤ q → A q := fun q h => by rw [← hAe]; exact Or.inr h
  have hS : va_S A s.heap s.heap [] := va_S.rf
  have hl := lv_entry ([.ref P, .int p0, .ref O]) (n := 4) (Nat.le_of_ble_eq_true rfl)
  rw [lg_entry_eq]
  generalize (lg_sl ([.ref P, .int p0, .ref O]) ++ List.replicate (4 - (lg_sl ([.ref P, .int p0, .ref O])).length) Slot.unset).toArray = ls at hl ⊢
  have hl : lv_has ls 4 [(0, .ref P), (1, .int p0), (2, .ref O)] := hl
  refine lv_aload_n hx hb dL_ruin_0 rfl (lv_at hl 2 rfl) ?_
  refine lv_iconst (v := 0) hx hb dL_ruin_1 (by decide) ?_
  refine lv_aload_n hx hb dL_ruin_2 rfl (lv_at hl 0 rfl) ?_
  refine lv_iload_n hx hb dL_ruin_3 rfl (lv_at hl 1 rfl) ?_
  refine x_Vi (ci := 5) (q0 := 0) (wc := [(P, .inr (5, [.ref F, .ref G, .ref T, .ref za, .ref (ia 0), .ref (ia 1), .ref (ia 2), .int 0, .int 0])), (F, .inr (0, [.ref (fa 0), .ref (fa 1), .ref (fa 2), .ref (fa 3), .ref (fa 4), .ref (fa 5), .ref (fa 6), .ref (fa 7), .ref (fa 8), .int 0, .int 0, .int 0]))]) (wr := [(O, .inl (cL, 1, .inr (.inl g)))]) [.int p0] [0, 1] [2] ⟨hx, hb, hml, hown, hts⟩ (fun sz => c_X5_ruin l hlT dC dI cI cV cJ cL P F G T za fa ia 0 0 p0 sz) q_ml_L_42 q_im_X5_ruin q_se_X5_ruin q_ini_X5 q_co_X5_ruin (n := 1) (by decide +kernel) rfl ⟨rfl, rfl⟩ ⟨Nat.le_of_ble_eq_true rfl, Nat.le_of_ble_eq_true rfl⟩ hP hD hS hA hK hN hXs hZs rfl rfl (by decide) (by decide) (by decide) rfl rfl rfl hl.1 rfl (Nat.le_of_ble_eq_true rfl) dL_ruin_4 ⟨Nat.le_of_ble_eq_true rfl, Nat.le_of_ble_eq_true rfl⟩ (fun E ce q9 H locs hpx hP hD hS hc1 hc2 hc3 => ?_) (fun r u9 H locs hpo hP hD hS => ?_)
  · obtain ⟨u9, hpx⟩ := hpx
    obtain ⟨h9, hk⟩ := hpx
    obtain rfl : E = "java/lang/IllegalArgumentException" := h9
    have hP : va_P (dC, dI) cls [(O, .inl (cL, 1, .inr (.inl g)))] H := hP
    have hD : va_D A [(O, .inl (cL, 1, .inr (.inl g)))] := hD
    refine vx_catch (name := "java/lang/IllegalArgumentException") hown [] _ _ (ht9.trans rfl) (fun z hz => by cases hz) rfl (by decide) (hts _ (tb_in q_cl_L_13)) (va_Nw.use rfl hXs.1.2.2.2.1) hc1 hc2 hc3 ?_
    refine lv_astore_n (lv' := [(3, .ref q9), (0, .ref P), (1, .int p0), (2, .ref O)]) hx hb dL_ruin_12 rfl hl (by decide) rfl (fun ls hl => ?_)
    refine lv_iconst (v := 1) hx hb dL_ruin_13 (by decide) ?_
    refine k_wid (k := 1) (n := 6) (Nat.le_of_ble_eq_true rfl) (Nat.le_of_ble_eq_true rfl) (vx_ret ?_)
    have hP9 := hP
    have hD9 := hD
    exact W.iret (v := 1) hx hb hr (fun t9 ht9 hW9 => ⟨⟨_, g, rfl, ⟨by rw [hk]; rfl, fun h => absurd h (by rw [hk]; decide)⟩, by rw [ht9]; exact hP9, va_K.moved hW9.alike hK, hD9⟩, hS.F ht9⟩) hS.2.2 dL_ruin_14
  have hP : va_P (dC, dI) cls [(O, .inl (cL, 1, .inr (.inl g)))] H := hP
  have hD : va_D A [(O, .inl (cL, 1, .inr (.inl g)))] := hD
  obtain ⟨hk, rfl⟩ := hpo
  refine lv_i2l (v := 0) hx hb dL_ruin_7 (by decide) ?_
  refine va_last (D := (dC, dI)) hx hb hK hP hD hS 0 3 rfl rfl (i := 0) (n := 1) (vpd (by decide)) dL_ruin_8 (fun H locs hP hD hS => ?_)
  have hP : va_P (dC, dI) cls [(O, .inl (cL, 1, .inr (.inl (vp_updL g (0 : Int32).toNatClampNeg 0))))] H := hP
  have hD : va_D A [(O, .inl (cL, 1, .inr (.inl (vp_updL g (0 : Int32).toNatClampNeg 0))))] := hD
  refine lv_goto (tgt := 15) hx hb dL_ruin_9 (by decide) ?_
  refine lv_iconst (v := 0) hx hb dL_ruin_15 (by decide) ?_
  refine k_wid (k := 1) (n := 6) (Nat.le_of_ble_eq_true rfl) (Nat.le_of_ble_eq_true rfl) (vx_ret ?_)
  have hP9 := hP
  have hD9 := hD
  exact W.iret (v := 0) hx hb hr (fun t9 ht9 hW9 => ⟨⟨_, (vp_updL g (0 : Int32).toNatClampNeg 0), rfl, ⟨by rw [hk]; rfl, fun _ => rfl⟩, by rw [ht9]; exact hP9, va_K.moved hW9.alike hK, hD9⟩, hS.F ht9⟩) hS.2.2 dL_ruin_16
set_option maxHeartbeats 4000000 in
set_option maxRecDepth 100000 in
theorem h_change (l : Launch) (hlT : l.stackTraces = false) (dC : Nat → ClassId) (dI : Nat → Nat → Nat) (cI cV cJ cL : ClassId) (P F G T za : Nat) (fa ia : Nat → Nat) (O : Nat) (g : Nat → Int64) (p0 : Int32) (sz : Nat) : vx_Met l yL_change (Cond.codeWith yL_change cL_change 4 (some .int) [(0, 9, 12, 13)] :: TB) ({ frames := 24, cells := 1, slots := 6, locals := 1200 } : Room) (PXw [.ref P, .int p0, .ref O] (dC, dI) [(P, .inr (5, [.ref F, .ref G, .ref T, .ref za, .ref (ia 0), .ref (ia 1), .ref (ia 2), .int 0, .int 0])), (F, .inr (0, [.ref (fa 0), .ref (fa 1), .ref (fa 2), .ref (fa 3), .ref (fa 4), .ref (fa 5), .ref (fa 6), .ref (fa 7), .ref (fa 8), .int 0, .int 0, .int 0])), (O, .inl (cL, 1, .inr (.inl g)))] (TYP cI cV cJ cL) sz) (va_Qi (fun (r : Int32) (g : Nat → Int64) => r = b01 (outF p0 0 3) ∧ (b01 (outF p0 0 3) = 0 → g 0 = 0)) (QB (dC, dI) (fun (g : Nat → Int64) => [(O, .inl (cL, 1, .inr (.inl g)))]) (TYP cI cV cJ cL) (va_A [(P, .inr (5, [.ref F, .ref G, .ref T, .ref za, .ref (ia 0), .ref (ia 1), .ref (ia 2), .int 0, .int 0])), (F, .inr (0, [.ref (fa 0), .ref (fa 1), .ref (fa 2), .ref (fa 3), .ref (fa 4), .ref (fa 5), .ref (fa 6), .ref (fa 7), .ref (fa 8), .int 0, .int 0, .int 0])), (O, .inl (cL, 1, .inr (.inl g)))] sz)) (va_A [(P, .inr (5, [.ref F, .ref G, .ref T, .ref za, .ref (ia 0), .ref (ia 1), .ref (ia 2), .int 0, .int 0])), (F, .inr (0, [.ref (fa 0), .ref (fa 1), .ref (fa 2), .ref (fa 3), .ref (fa 4), .ref (fa 5), .ref (fa 6), .ref (fa 7), .ref (fa 8), .int 0, .int 0, .int 0])), (O, .inl (cL, 1, .inr (.inl g)))] sz)) (vx_X (fun _ : Unit => False) (fun _ _ _ => True) (va_A [(P, .inr (5, [.ref F, .ref G, .ref T, .ref za, .ref (ia 0), .ref (ia 1), .ref (ia 2), .int 0, .int 0])), (F, .inr (0, [.ref (fa 0), .ref (fa 1), .ref (fa 2), .ref (fa 3), .ref (fa 4), .ref (fa 5), .ref (fa 6), .ref (fa 7), .ref (fa 8), .int 0, .int 0, .int 0])), (O, .inl (cL, 1, .inr (.inl g)))] sz)) 1 6 (va_A [(P, .inr (5, [.ref F, .ref G, .ref T, .ref za, .ref (ia 0), .ref (ia 1), .ref (ia 2), .int 0, .int 0])), (F, .inr (0, [.ref (fa 0), .ref (fa 1), .ref (fa 2), .ref (fa 3), .ref (fa 4), .ref (fa 5), .ref (fa 6), .ref (fa 7), .ref (fa 8), .int 0, .int 0, .int 0])), (O, .inl (cL, 1, .inr (.inl g)))] sz) := by
  refine vx_ofWH (cc := cL_change) (maxL := 4) (ret := (some .int)) (hh := [(0, 9, 12, 13)]) (by decide) rfl ?_
  intro p e s m args below meth c s₁ B hml hv
  obtain ⟨rfl, hsz, hP, hK, hD0, hN, hXs, hZs⟩ := hv
  have hx := B.exec
  have hb := B.bytes
  have hr := B.returns
  have hts := atoms_spec (ws := (Cond.codeWith yL_change cL_change 4 (some .int) [(0, 9, 12, 13)] :: TB)) B.pre
  have hown : s.vm.findClass RL = some m.cls := findClass_of_methodNamed B.named
  have hlocks := B.notSynchronized
  have ht9 := vx_table (x := yL_change) B (hts _ List.mem_cons_self)
  subst hsz
  have hD := hD0.self (sz := s.heap.size)
  generalize hAe : va_A [(P, .inr (5, [.ref F, .ref G, .ref T, .ref za, .ref (ia 0), .ref (ia 1), .ref (ia 2), .int 0, .int 0])), (F, .inr (0, [.ref (fa 0), .ref (fa 1), .ref (fa 2), .ref (fa 3), .ref (fa 4), .ref (fa 5), .ref (fa 6), .ref (fa 7), .ref (fa 8), .int 0, .int 0, .int 0])), (O, .inl (cL, 1, .inr (.inl g)))] s.heap.size = A at hD hZs ⊢
  have hA : ∀ q : Nat, s.heap.size ≤ q → A q := fun q h => by rw [← hAe]; exact Or.inr h
  have hS : va_S A s.heap s.heap [] := va_S.rf
  have hl := lv_entry ([.ref P, .int p0, .ref O]) (n := 4) (Nat.le_of_ble_eq_true rfl)
  rw [lg_entry_eq]
  generalize (lg_sl ([.ref P, .int p0, .ref O]) ++ List.replicate (4 - (lg_sl ([.ref P, .int p0, .ref O])).length) Slot.unset).toArray = ls at hl ⊢
  have hl : lv_has ls 4 [(0, .ref P), (1, .int p0), (2, .ref O)] := hl
  refine lv_aload_n hx hb dL_change_0 rfl (lv_at hl 2 rfl) ?_
  refine lv_iconst (v := 0) hx hb dL_change_1 (by decide) ?_
  refine lv_aload_n hx hb dL_change_2 rfl (lv_at hl 0 rfl) ?_
  refine lv_iload_n hx hb dL_change_3 rfl (lv_at hl 1 rfl) ?_
  refine x_Vi (ci := 5) (q0 := 0) (wc := [(P, .inr (5, [.ref F, .ref G, .ref T, .ref za, .ref (ia 0), .ref (ia 1), .ref (ia 2), .int 0, .int 0])), (F, .inr (0, [.ref (fa 0), .ref (fa 1), .ref (fa 2), .ref (fa 3), .ref (fa 4), .ref (fa 5), .ref (fa 6), .ref (fa 7), .ref (fa 8), .int 0, .int 0, .int 0]))]) (wr := [(O, .inl (cL, 1, .inr (.inl g)))]) [.int p0] [0, 1] [2] ⟨hx, hb, hml, hown, hts⟩ (fun sz => c_X5_change l hlT dC dI cI cV cJ cL P F G T za fa ia 0 0 p0 sz) q_ml_L_45 q_im_X5_change q_se_X5_change q_ini_X5 q_co_X5_change (n := 1) (by decide +kernel) rfl ⟨rfl, rfl⟩ ⟨Nat.le_of_ble_eq_true rfl, Nat.le_of_ble_eq_true rfl⟩ hP hD hS hA hK hN hXs hZs rfl rfl (by decide) (by decide) (by decide) rfl rfl rfl hl.1 rfl (Nat.le_of_ble_eq_true rfl) dL_change_4 ⟨Nat.le_of_ble_eq_true rfl, Nat.le_of_ble_eq_true rfl⟩ (fun E ce q9 H locs hpx hP hD hS hc1 hc2 hc3 => ?_) (fun r u9 H locs hpo hP hD hS => ?_)
  · obtain ⟨u9, hpx⟩ := hpx
    obtain ⟨h9, hk⟩ := hpx
    obtain rfl : E = "java/lang/IllegalArgumentException" := h9
    have hP : va_P (dC, dI) cls [(O, .inl (cL, 1, .inr (.inl g)))] H := hP
    have hD : va_D A [(O, .inl (cL, 1, .inr (.inl g)))] := hD
    refine vx_catch (name := "java/lang/IllegalArgumentException") hown [] _ _ (ht9.trans rfl) (fun z hz => by cases hz) rfl (by decide) (hts _ (tb_in q_cl_L_13)) (va_Nw.use rfl hXs.1.2.2.2.1) hc1 hc2 hc3 ?_
    refine lv_astore_n (lv' := [(3, .ref q9), (0, .ref P), (1, .int p0), (2, .ref O)]) hx hb dL_change_12 rfl hl (by decide) rfl (fun ls hl => ?_)
    refine lv_iconst (v := 1) hx hb dL_change_13 (by decide) ?_
    refine k_wid (k := 1) (n := 6) (Nat.le_of_ble_eq_true rfl) (Nat.le_of_ble_eq_true rfl) (vx_ret ?_)
    have hP9 := hP
    have hD9 := hD
    exact W.iret (v := 1) hx hb hr (fun t9 ht9 hW9 => ⟨⟨_, g, rfl, ⟨by rw [hk]; rfl, fun h => absurd h (by rw [hk]; decide)⟩, by rw [ht9]; exact hP9, va_K.moved hW9.alike hK, hD9⟩, hS.F ht9⟩) hS.2.2 dL_change_14
  have hP : va_P (dC, dI) cls [(O, .inl (cL, 1, .inr (.inl g)))] H := hP
  have hD : va_D A [(O, .inl (cL, 1, .inr (.inl g)))] := hD
  obtain ⟨hk, rfl⟩ := hpo
  refine lv_i2l (v := 0) hx hb dL_change_7 (by decide) ?_
  refine va_last (D := (dC, dI)) hx hb hK hP hD hS 0 3 rfl rfl (i := 0) (n := 1) (vpd (by decide)) dL_change_8 (fun H locs hP hD hS => ?_)
  have hP : va_P (dC, dI) cls [(O, .inl (cL, 1, .inr (.inl (vp_updL g (0 : Int32).toNatClampNeg 0))))] H := hP
  have hD : va_D A [(O, .inl (cL, 1, .inr (.inl (vp_updL g (0 : Int32).toNatClampNeg 0))))] := hD
  refine lv_goto (tgt := 15) hx hb dL_change_9 (by decide) ?_
  refine lv_iconst (v := 0) hx hb dL_change_15 (by decide) ?_
  refine k_wid (k := 1) (n := 6) (Nat.le_of_ble_eq_true rfl) (Nat.le_of_ble_eq_true rfl) (vx_ret ?_)
  have hP9 := hP
  have hD9 := hD
  exact W.iret (v := 0) hx hb hr (fun t9 ht9 hW9 => ⟨⟨_, (vp_updL g (0 : Int32).toNatClampNeg 0), rfl, ⟨by rw [hk]; rfl, fun _ => rfl⟩, by rw [ht9]; exact hP9, va_K.moved hW9.alike hK, hD9⟩, hS.F ht9⟩) hS.2.2 dL_change_16
set_option maxHeartbeats 4000000 in
set_option maxRecDepth 100000 in
theorem h_gain (l : Launch) (hlT : l.stackTraces = false) (dC : Nat → ClassId) (dI : Nat → Nat → Nat) (cI cV cJ cL : ClassId) (P F G T za : Nat) (fa ia : Nat → Nat) (O : Nat) (g : Nat → Int64) (p0 : Int32) (sz : Nat) : vx_Met l yL_gain (Cond.codeWith yL_gain cL_gain 4 (some .int) [(0, 9, 12, 13)] :: TB) ({ frames := 24, cells := 1, slots := 6, locals := 1200 } : Room) (PXw [.ref P, .int p0, .ref O] (dC, dI) [(P, .inr (5, [.ref F, .ref G, .ref T, .ref za, .ref (ia 0), .ref (ia 1), .ref (ia 2), .int 0, .int 0])), (F, .inr (0, [.ref (fa 0), .ref (fa 1), .ref (fa 2), .ref (fa 3), .ref (fa 4), .ref (fa 5), .ref (fa 6), .ref (fa 7), .ref (fa 8), .int 0, .int 0, .int 0])), (O, .inl (cL, 1, .inr (.inl g)))] (TYP cI cV cJ cL) sz) (va_Qi (fun (r : Int32) (g : Nat → Int64) => r = b01 (outF p0 0 3) ∧ (b01 (outF p0 0 3) = 0 → g 0 = 0)) (QB (dC, dI) (fun (g : Nat → Int64) => [(O, .inl (cL, 1, .inr (.inl g)))]) (TYP cI cV cJ cL) (va_A [(P, .inr (5, [.ref F, .ref G, .ref T, .ref za, .ref (ia 0), .ref (ia 1), .ref (ia 2), .int 0, .int 0])), (F, .inr (0, [.ref (fa 0), .ref (fa 1), .ref (fa 2), .ref (fa 3), .ref (fa 4), .ref (fa 5), .ref (fa 6), .ref (fa 7), .ref (fa 8), .int 0, .int 0, .int 0])), (O, .inl (cL, 1, .inr (.inl g)))] sz)) (va_A [(P, .inr (5, [.ref F, .ref G, .ref T, .ref za, .ref (ia 0), .ref (ia 1), .ref (ia 2), .int 0, .int 0])), (F, .inr (0, [.ref (fa 0), .ref (fa 1), .ref (fa 2), .ref (fa 3), .ref (fa 4), .ref (fa 5), .ref (fa 6), .ref (fa 7), .ref (fa 8), .int 0, .int 0, .int 0])), (O, .inl (cL, 1, .inr (.inl g)))] sz)) (vx_X (fun _ : Unit => False) (fun _ _ _ => True) (va_A [(P, .inr (5, [.ref F, .ref G, .ref T, .ref za, .ref (ia 0), .ref (ia 1), .ref (ia 2), .int 0, .int 0])), (F, .inr (0, [.ref (fa 0), .ref (fa 1), .ref (fa 2), .ref (fa 3), .ref (fa 4), .ref (fa 5), .ref (fa 6), .ref (fa 7), .ref (fa 8), .int 0, .int 0, .int 0])), (O, .inl (cL, 1, .inr (.inl g)))] sz)) 1 6 (va_A [(P, .inr (5, [.ref F, .ref G, .ref T, .ref za, .ref (ia 0), .ref (ia 1), .ref (ia 2), .int 0, .int 0])), (F, .inr (0, [.ref (fa 0), .ref (fa 1), .ref (fa 2), .ref (fa 3), .ref (fa 4), .ref (fa 5), .ref (fa 6), .ref (fa 7), .ref (fa 8), .int 0, .int 0, .int 0])), (O, .inl (cL, 1, .inr (.inl g)))] sz) := by
  refine vx_ofWH (cc := cL_gain) (maxL := 4) (ret := (some .int)) (hh := [(0, 9, 12, 13)]) (by decide) rfl ?_
  intro p e s m args below meth c s₁ B hml hv
  obtain ⟨rfl, hsz, hP, hK, hD0, hN, hXs, hZs⟩ := hv
  have hx := B.exec
  have hb := B.bytes
  have hr := B.returns
  have hts := atoms_spec (ws := (Cond.codeWith yL_gain cL_gain 4 (some .int) [(0, 9, 12, 13)] :: TB)) B.pre
  have hown : s.vm.findClass RL = some m.cls := findClass_of_methodNamed B.named
  have hlocks := B.notSynchronized
  have ht9 := vx_table (x := yL_gain) B (hts _ List.mem_cons_self)
  subst hsz
  have hD := hD0.self (sz := s.heap.size)
  generalize hAe : va_A [(P, .inr (5, [.ref F, .ref G, .ref T, .ref za, .ref (ia 0), .ref (ia 1), .ref (ia 2), .int 0, .int 0])), (F, .inr (0, [.ref (fa 0), .ref (fa 1), .ref (fa 2), .ref (fa 3), .ref (fa 4), .ref (fa 5), .ref (fa 6), .ref (fa 7), .ref (fa 8), .int 0, .int 0, .int 0])), (O, .inl (cL, 1, .inr (.inl g)))] s.heap.size = A at hD hZs ⊢
  have hA : ∀ q : Nat, s.heap.size ≤ q → A q := fun q h => by rw [← hAe]; exact Or.inr h
  have hS : va_S A s.heap s.heap [] := va_S.rf
  have hl := lv_entry ([.ref P, .int p0, .ref O]) (n := 4) (Nat.le_of_ble_eq_true rfl)
  rw [lg_entry_eq]
  generalize (lg_sl ([.ref P, .int p0, .ref O]) ++ List.replicate (4 - (lg_sl ([.ref P, .int p0, .ref O])).length) Slot.unset).toArray = ls at hl ⊢
  have hl : lv_has ls 4 [(0, .ref P), (1, .int p0), (2, .ref O)] := hl
  refine lv_aload_n hx hb dL_gain_0 rfl (lv_at hl 2 rfl) ?_
  refine lv_iconst (v := 0) hx hb dL_gain_1 (by decide) ?_
  refine lv_aload_n hx hb dL_gain_2 rfl (lv_at hl 0 rfl) ?_
  refine lv_iload_n hx hb dL_gain_3 rfl (lv_at hl 1 rfl) ?_
  refine x_Vi (ci := 5) (q0 := 0) (wc := [(P, .inr (5, [.ref F, .ref G, .ref T, .ref za, .ref (ia 0), .ref (ia 1), .ref (ia 2), .int 0, .int 0])), (F, .inr (0, [.ref (fa 0), .ref (fa 1), .ref (fa 2), .ref (fa 3), .ref (fa 4), .ref (fa 5), .ref (fa 6), .ref (fa 7), .ref (fa 8), .int 0, .int 0, .int 0]))]) (wr := [(O, .inl (cL, 1, .inr (.inl g)))]) [.int p0] [0, 1] [2] ⟨hx, hb, hml, hown, hts⟩ (fun sz => c_X5_gain l hlT dC dI cI cV cJ cL P F G T za fa ia 0 0 p0 sz) q_ml_L_110 q_im_X5_gain q_se_X5_gain q_ini_X5 q_co_X5_gain (n := 1) (by decide +kernel) rfl ⟨rfl, rfl⟩ ⟨Nat.le_of_ble_eq_true rfl, Nat.le_of_ble_eq_true rfl⟩ hP hD hS hA hK hN hXs hZs rfl rfl (by decide) (by decide) (by decide) rfl rfl rfl hl.1 rfl (Nat.le_of_ble_eq_true rfl) dL_gain_4 ⟨Nat.le_of_ble_eq_true rfl, Nat.le_of_ble_eq_true rfl⟩ (fun E ce q9 H locs hpx hP hD hS hc1 hc2 hc3 => ?_) (fun r u9 H locs hpo hP hD hS => ?_)
  · obtain ⟨u9, hpx⟩ := hpx
    obtain ⟨h9, hk⟩ := hpx
    obtain rfl : E = "java/lang/IllegalArgumentException" := h9
    have hP : va_P (dC, dI) cls [(O, .inl (cL, 1, .inr (.inl g)))] H := hP
    have hD : va_D A [(O, .inl (cL, 1, .inr (.inl g)))] := hD
    refine vx_catch (name := "java/lang/IllegalArgumentException") hown [] _ _ (ht9.trans rfl) (fun z hz => by cases hz) rfl (by decide) (hts _ (tb_in q_cl_L_13)) (va_Nw.use rfl hXs.1.2.2.2.1) hc1 hc2 hc3 ?_
    refine lv_astore_n (lv' := [(3, .ref q9), (0, .ref P), (1, .int p0), (2, .ref O)]) hx hb dL_gain_12 rfl hl (by decide) rfl (fun ls hl => ?_)
    refine lv_iconst (v := 1) hx hb dL_gain_13 (by decide) ?_
    refine k_wid (k := 1) (n := 6) (Nat.le_of_ble_eq_true rfl) (Nat.le_of_ble_eq_true rfl) (vx_ret ?_)
    have hP9 := hP
    have hD9 := hD
    exact W.iret (v := 1) hx hb hr (fun t9 ht9 hW9 => ⟨⟨_, g, rfl, ⟨by rw [hk]; rfl, fun h => absurd h (by rw [hk]; decide)⟩, by rw [ht9]; exact hP9, va_K.moved hW9.alike hK, hD9⟩, hS.F ht9⟩) hS.2.2 dL_gain_14
  have hP : va_P (dC, dI) cls [(O, .inl (cL, 1, .inr (.inl g)))] H := hP
  have hD : va_D A [(O, .inl (cL, 1, .inr (.inl g)))] := hD
  obtain ⟨hk, rfl⟩ := hpo
  refine lv_i2l (v := 0) hx hb dL_gain_7 (by decide) ?_
  refine va_last (D := (dC, dI)) hx hb hK hP hD hS 0 3 rfl rfl (i := 0) (n := 1) (vpd (by decide)) dL_gain_8 (fun H locs hP hD hS => ?_)
  have hP : va_P (dC, dI) cls [(O, .inl (cL, 1, .inr (.inl (vp_updL g (0 : Int32).toNatClampNeg 0))))] H := hP
  have hD : va_D A [(O, .inl (cL, 1, .inr (.inl (vp_updL g (0 : Int32).toNatClampNeg 0))))] := hD
  refine lv_goto (tgt := 15) hx hb dL_gain_9 (by decide) ?_
  refine lv_iconst (v := 0) hx hb dL_gain_15 (by decide) ?_
  refine k_wid (k := 1) (n := 6) (Nat.le_of_ble_eq_true rfl) (Nat.le_of_ble_eq_true rfl) (vx_ret ?_)
  have hP9 := hP
  have hD9 := hD
  exact W.iret (v := 0) hx hb hr (fun t9 ht9 hW9 => ⟨⟨_, (vp_updL g (0 : Int32).toNatClampNeg 0), rfl, ⟨by rw [hk]; rfl, fun _ => rfl⟩, by rw [ht9]; exact hP9, va_K.moved hW9.alike hK, hD9⟩, hS.F ht9⟩) hS.2.2 dL_gain_16
set_option maxHeartbeats 4000000 in
set_option maxRecDepth 100000 in
theorem h_improve (l : Launch) (hlT : l.stackTraces = false) (dC : Nat → ClassId) (dI : Nat → Nat → Nat) (cI cV cJ cL : ClassId) (P F G T za : Nat) (fa ia : Nat → Nat) (O : Nat) (g : Nat → Int64) (p0 : Int32) (sz : Nat) : vx_Met l yL_improve (Cond.codeWith yL_improve cL_improve 4 (some .int) [(0, 9, 12, 13)] :: TB) ({ frames := 24, cells := 1, slots := 6, locals := 1200 } : Room) (PXw [.ref P, .int p0, .ref O] (dC, dI) [(P, .inr (5, [.ref F, .ref G, .ref T, .ref za, .ref (ia 0), .ref (ia 1), .ref (ia 2), .int 0, .int 0])), (F, .inr (0, [.ref (fa 0), .ref (fa 1), .ref (fa 2), .ref (fa 3), .ref (fa 4), .ref (fa 5), .ref (fa 6), .ref (fa 7), .ref (fa 8), .int 0, .int 0, .int 0])), (O, .inl (cL, 1, .inr (.inl g)))] (TYP cI cV cJ cL) sz) (va_Qi (fun (r : Int32) (g : Nat → Int64) => r = b01 (outF p0 1 10) ∧ (b01 (outF p0 1 10) = 0 → g 0 = 0)) (QB (dC, dI) (fun (g : Nat → Int64) => [(O, .inl (cL, 1, .inr (.inl g)))]) (TYP cI cV cJ cL) (va_A [(P, .inr (5, [.ref F, .ref G, .ref T, .ref za, .ref (ia 0), .ref (ia 1), .ref (ia 2), .int 0, .int 0])), (F, .inr (0, [.ref (fa 0), .ref (fa 1), .ref (fa 2), .ref (fa 3), .ref (fa 4), .ref (fa 5), .ref (fa 6), .ref (fa 7), .ref (fa 8), .int 0, .int 0, .int 0])), (O, .inl (cL, 1, .inr (.inl g)))] sz)) (va_A [(P, .inr (5, [.ref F, .ref G, .ref T, .ref za, .ref (ia 0), .ref (ia 1), .ref (ia 2), .int 0, .int 0])), (F, .inr (0, [.ref (fa 0), .ref (fa 1), .ref (fa 2), .ref (fa 3), .ref (fa 4), .ref (fa 5), .ref (fa 6), .ref (fa 7), .ref (fa 8), .int 0, .int 0, .int 0])), (O, .inl (cL, 1, .inr (.inl g)))] sz)) (vx_X (fun _ : Unit => False) (fun _ _ _ => True) (va_A [(P, .inr (5, [.ref F, .ref G, .ref T, .ref za, .ref (ia 0), .ref (ia 1), .ref (ia 2), .int 0, .int 0])), (F, .inr (0, [.ref (fa 0), .ref (fa 1), .ref (fa 2), .ref (fa 3), .ref (fa 4), .ref (fa 5), .ref (fa 6), .ref (fa 7), .ref (fa 8), .int 0, .int 0, .int 0])), (O, .inl (cL, 1, .inr (.inl g)))] sz)) 1 6 (va_A [(P, .inr (5, [.ref F, .ref G, .ref T, .ref za, .ref (ia 0), .ref (ia 1), .ref (ia 2), .int 0, .int 0])), (F, .inr (0, [.ref (fa 0), .ref (fa 1), .ref (fa 2), .ref (fa 3), .ref (fa 4), .ref (fa 5), .ref (fa 6), .ref (fa 7), .ref (fa 8), .int 0, .int 0, .int 0])), (O, .inl (cL, 1, .inr (.inl g)))] sz) := by
  refine vx_ofWH (cc := cL_improve) (maxL := 4) (ret := (some .int)) (hh := [(0, 9, 12, 13)]) (by decide) rfl ?_
  intro p e s m args below meth c s₁ B hml hv
  obtain ⟨rfl, hsz, hP, hK, hD0, hN, hXs, hZs⟩ := hv
  have hx := B.exec
  have hb := B.bytes
  have hr := B.returns
  have hts := atoms_spec (ws := (Cond.codeWith yL_improve cL_improve 4 (some .int) [(0, 9, 12, 13)] :: TB)) B.pre
  have hown : s.vm.findClass RL = some m.cls := findClass_of_methodNamed B.named
  have hlocks := B.notSynchronized
  have ht9 := vx_table (x := yL_improve) B (hts _ List.mem_cons_self)
  subst hsz
  have hD := hD0.self (sz := s.heap.size)
  generalize hAe : va_A [(P, .inr (5, [.ref F, .ref G, .ref T, .ref za, .ref (ia 0), .ref (ia 1), .ref (ia 2), .int 0, .int 0])), (F, .inr (0, [.ref (fa 0), .ref (fa 1), .ref (fa 2), .ref (fa 3), .ref (fa 4), .ref (fa 5), .ref (fa 6), .ref (fa 7), .ref (fa 8), .int 0, .int 0, .int 0])), (O, .inl (cL, 1, .inr (.inl g)))] s.heap.size = A at hD hZs ⊢
  have hA : ∀ q : Nat, s.heap.size ≤ q → A q := fun q h => by rw [← hAe]; exact Or.inr h
  have hS : va_S A s.heap s.heap [] := va_S.rf
  have hl := lv_entry ([.ref P, .int p0, .ref O]) (n := 4) (Nat.le_of_ble_eq_true rfl)
  rw [lg_entry_eq]
  generalize (lg_sl ([.ref P, .int p0, .ref O]) ++ List.replicate (4 - (lg_sl ([.ref P, .int p0, .ref O])).length) Slot.unset).toArray = ls at hl ⊢
  have hl : lv_has ls 4 [(0, .ref P), (1, .int p0), (2, .ref O)] := hl
  refine lv_aload_n hx hb dL_improve_0 rfl (lv_at hl 2 rfl) ?_
  refine lv_iconst (v := 0) hx hb dL_improve_1 (by decide) ?_
  refine lv_aload_n hx hb dL_improve_2 rfl (lv_at hl 0 rfl) ?_
  refine lv_iload_n hx hb dL_improve_3 rfl (lv_at hl 1 rfl) ?_
  refine x_Vi (ci := 5) (q0 := 0) (wc := [(P, .inr (5, [.ref F, .ref G, .ref T, .ref za, .ref (ia 0), .ref (ia 1), .ref (ia 2), .int 0, .int 0])), (F, .inr (0, [.ref (fa 0), .ref (fa 1), .ref (fa 2), .ref (fa 3), .ref (fa 4), .ref (fa 5), .ref (fa 6), .ref (fa 7), .ref (fa 8), .int 0, .int 0, .int 0]))]) (wr := [(O, .inl (cL, 1, .inr (.inl g)))]) [.int p0] [0, 1] [2] ⟨hx, hb, hml, hown, hts⟩ (fun sz => c_X5_improve l hlT dC dI cI cV cJ cL P F G T za fa ia 0 0 p0 sz) q_ml_L_48 q_im_X5_improve q_se_X5_improve q_ini_X5 q_co_X5_improve (n := 1) (by decide +kernel) rfl ⟨rfl, rfl⟩ ⟨Nat.le_of_ble_eq_true rfl, Nat.le_of_ble_eq_true rfl⟩ hP hD hS hA hK hN hXs hZs rfl rfl (by decide) (by decide) (by decide) rfl rfl rfl hl.1 rfl (Nat.le_of_ble_eq_true rfl) dL_improve_4 ⟨Nat.le_of_ble_eq_true rfl, Nat.le_of_ble_eq_true rfl⟩ (fun E ce q9 H locs hpx hP hD hS hc1 hc2 hc3 => ?_) (fun r u9 H locs hpo hP hD hS => ?_)
  · obtain ⟨u9, hpx⟩ := hpx
    obtain ⟨h9, hk⟩ := hpx
    obtain rfl : E = "java/lang/IllegalArgumentException" := h9
    have hP : va_P (dC, dI) cls [(O, .inl (cL, 1, .inr (.inl g)))] H := hP
    have hD : va_D A [(O, .inl (cL, 1, .inr (.inl g)))] := hD
    refine vx_catch (name := "java/lang/IllegalArgumentException") hown [] _ _ (ht9.trans rfl) (fun z hz => by cases hz) rfl (by decide) (hts _ (tb_in q_cl_L_13)) (va_Nw.use rfl hXs.1.2.2.2.1) hc1 hc2 hc3 ?_
    refine lv_astore_n (lv' := [(3, .ref q9), (0, .ref P), (1, .int p0), (2, .ref O)]) hx hb dL_improve_12 rfl hl (by decide) rfl (fun ls hl => ?_)
    refine lv_iconst (v := 1) hx hb dL_improve_13 (by decide) ?_
    refine k_wid (k := 1) (n := 6) (Nat.le_of_ble_eq_true rfl) (Nat.le_of_ble_eq_true rfl) (vx_ret ?_)
    have hP9 := hP
    have hD9 := hD
    exact W.iret (v := 1) hx hb hr (fun t9 ht9 hW9 => ⟨⟨_, g, rfl, ⟨by rw [hk]; rfl, fun h => absurd h (by rw [hk]; decide)⟩, by rw [ht9]; exact hP9, va_K.moved hW9.alike hK, hD9⟩, hS.F ht9⟩) hS.2.2 dL_improve_14
  have hP : va_P (dC, dI) cls [(O, .inl (cL, 1, .inr (.inl g)))] H := hP
  have hD : va_D A [(O, .inl (cL, 1, .inr (.inl g)))] := hD
  obtain ⟨hk, rfl⟩ := hpo
  refine lv_i2l (v := 0) hx hb dL_improve_7 (by decide) ?_
  refine va_last (D := (dC, dI)) hx hb hK hP hD hS 0 3 rfl rfl (i := 0) (n := 1) (vpd (by decide)) dL_improve_8 (fun H locs hP hD hS => ?_)
  have hP : va_P (dC, dI) cls [(O, .inl (cL, 1, .inr (.inl (vp_updL g (0 : Int32).toNatClampNeg 0))))] H := hP
  have hD : va_D A [(O, .inl (cL, 1, .inr (.inl (vp_updL g (0 : Int32).toNatClampNeg 0))))] := hD
  refine lv_goto (tgt := 15) hx hb dL_improve_9 (by decide) ?_
  refine lv_iconst (v := 0) hx hb dL_improve_15 (by decide) ?_
  refine k_wid (k := 1) (n := 6) (Nat.le_of_ble_eq_true rfl) (Nat.le_of_ble_eq_true rfl) (vx_ret ?_)
  have hP9 := hP
  have hD9 := hD
  exact W.iret (v := 0) hx hb hr (fun t9 ht9 hW9 => ⟨⟨_, (vp_updL g (0 : Int32).toNatClampNeg 0), rfl, ⟨by rw [hk]; rfl, fun _ => rfl⟩, by rw [ht9]; exact hP9, va_K.moved hW9.alike hK, hD9⟩, hS.F ht9⟩) hS.2.2 dL_improve_16
set_option maxHeartbeats 4000000 in
set_option maxRecDepth 100000 in
theorem h_advance (l : Launch) (hlT : l.stackTraces = false) (dC : Nat → ClassId) (dI : Nat → Nat → Nat) (cI cV cJ cL : ClassId) (P F G T za : Nat) (fa ia : Nat → Nat) (O : Nat) (g : Nat → Int64) (p0 : Int32) (sz : Nat) : vx_Met l yL_advance (Cond.codeWith yL_advance cL_advance 4 (some .int) [(0, 9, 12, 13), (0, 9, 15, 15)] :: TB) ({ frames := 24, cells := 1, slots := 6, locals := 1200 } : Room) (PXw [.ref P, .int p0, .ref O] (dC, dI) [(P, .inr (5, [.ref F, .ref G, .ref T, .ref za, .ref (ia 0), .ref (ia 1), .ref (ia 2), .int 0, .int 0])), (F, .inr (0, [.ref (fa 0), .ref (fa 1), .ref (fa 2), .ref (fa 3), .ref (fa 4), .ref (fa 5), .ref (fa 6), .ref (fa 7), .ref (fa 8), .int 0, .int 0, .int 0])), (O, .inl (cL, 1, .inr (.inl g)))] (TYP cI cV cJ cL) sz) (va_Qi (fun (r : Int32) (g : Nat → Int64) => r = b01 (outF p0 1 1440) ∧ (b01 (outF p0 1 1440) = 0 → g 0 = 0)) (QB (dC, dI) (fun (g : Nat → Int64) => [(O, .inl (cL, 1, .inr (.inl g)))]) (TYP cI cV cJ cL) (va_A [(P, .inr (5, [.ref F, .ref G, .ref T, .ref za, .ref (ia 0), .ref (ia 1), .ref (ia 2), .int 0, .int 0])), (F, .inr (0, [.ref (fa 0), .ref (fa 1), .ref (fa 2), .ref (fa 3), .ref (fa 4), .ref (fa 5), .ref (fa 6), .ref (fa 7), .ref (fa 8), .int 0, .int 0, .int 0])), (O, .inl (cL, 1, .inr (.inl g)))] sz)) (va_A [(P, .inr (5, [.ref F, .ref G, .ref T, .ref za, .ref (ia 0), .ref (ia 1), .ref (ia 2), .int 0, .int 0])), (F, .inr (0, [.ref (fa 0), .ref (fa 1), .ref (fa 2), .ref (fa 3), .ref (fa 4), .ref (fa 5), .ref (fa 6), .ref (fa 7), .ref (fa 8), .int 0, .int 0, .int 0])), (O, .inl (cL, 1, .inr (.inl g)))] sz)) (vx_X (fun _ : Unit => False) (fun _ _ _ => True) (va_A [(P, .inr (5, [.ref F, .ref G, .ref T, .ref za, .ref (ia 0), .ref (ia 1), .ref (ia 2), .int 0, .int 0])), (F, .inr (0, [.ref (fa 0), .ref (fa 1), .ref (fa 2), .ref (fa 3), .ref (fa 4), .ref (fa 5), .ref (fa 6), .ref (fa 7), .ref (fa 8), .int 0, .int 0, .int 0])), (O, .inl (cL, 1, .inr (.inl g)))] sz)) 1 6 (va_A [(P, .inr (5, [.ref F, .ref G, .ref T, .ref za, .ref (ia 0), .ref (ia 1), .ref (ia 2), .int 0, .int 0])), (F, .inr (0, [.ref (fa 0), .ref (fa 1), .ref (fa 2), .ref (fa 3), .ref (fa 4), .ref (fa 5), .ref (fa 6), .ref (fa 7), .ref (fa 8), .int 0, .int 0, .int 0])), (O, .inl (cL, 1, .inr (.inl g)))] sz) := by
  refine vx_ofWH (cc := cL_advance) (maxL := 4) (ret := (some .int)) (hh := [(0, 9, 12, 13), (0, 9, 15, 15)]) (by decide) rfl ?_
  intro p e s m args below meth c s₁ B hml hv
  obtain ⟨rfl, hsz, hP, hK, hD0, hN, hXs, hZs⟩ := hv
  have hx := B.exec
  have hb := B.bytes
  have hr := B.returns
  have hts := atoms_spec (ws := (Cond.codeWith yL_advance cL_advance 4 (some .int) [(0, 9, 12, 13), (0, 9, 15, 15)] :: TB)) B.pre
  have hown : s.vm.findClass RL = some m.cls := findClass_of_methodNamed B.named
  have hlocks := B.notSynchronized
  have ht9 := vx_table (x := yL_advance) B (hts _ List.mem_cons_self)
  subst hsz
  have hD := hD0.self (sz := s.heap.size)
  generalize hAe : va_A [(P, .inr (5, [.ref F, .ref G, .ref T, .ref za, .ref (ia 0), .ref (ia 1), .ref (ia 2), .int 0, .int 0])), (F, .inr (0, [.ref (fa 0), .ref (fa 1), .ref (fa 2), .ref (fa 3), .ref (fa 4), .ref (fa 5), .ref (fa 6), .ref (fa 7), .ref (fa 8), .int 0, .int 0, .int 0])), (O, .inl (cL, 1, .inr (.inl g)))] s.heap.size = A at hD hZs ⊢
  have hA : ∀ q : Nat, s.heap.size ≤ q → A q := fun q h => by rw [← hAe]; exact Or.inr h
  have hS : va_S A s.heap s.heap [] := va_S.rf
  have hl := lv_entry ([.ref P, .int p0, .ref O]) (n := 4) (Nat.le_of_ble_eq_true rfl)
  rw [lg_entry_eq]
  generalize (lg_sl ([.ref P, .int p0, .ref O]) ++ List.replicate (4 - (lg_sl ([.ref P, .int p0, .ref O])).length) Slot.unset).toArray = ls at hl ⊢
  have hl : lv_has ls 4 [(0, .ref P), (1, .int p0), (2, .ref O)] := hl
  refine lv_aload_n hx hb dL_advance_0 rfl (lv_at hl 2 rfl) ?_
  refine lv_iconst (v := 0) hx hb dL_advance_1 (by decide) ?_
  refine lv_aload_n hx hb dL_advance_2 rfl (lv_at hl 0 rfl) ?_
  refine lv_iload_n hx hb dL_advance_3 rfl (lv_at hl 1 rfl) ?_
  refine x_Vi (ci := 5) (q0 := 0) (wc := [(P, .inr (5, [.ref F, .ref G, .ref T, .ref za, .ref (ia 0), .ref (ia 1), .ref (ia 2), .int 0, .int 0])), (F, .inr (0, [.ref (fa 0), .ref (fa 1), .ref (fa 2), .ref (fa 3), .ref (fa 4), .ref (fa 5), .ref (fa 6), .ref (fa 7), .ref (fa 8), .int 0, .int 0, .int 0]))]) (wr := [(O, .inl (cL, 1, .inr (.inl g)))]) [.int p0] [0, 1] [2] ⟨hx, hb, hml, hown, hts⟩ (fun sz => c_X5_advance l hlT dC dI cI cV cJ cL P F G T za fa ia 0 0 p0 sz) q_ml_L_54 q_im_X5_advance q_se_X5_advance q_ini_X5 q_co_X5_advance (n := 1) (by decide +kernel) rfl ⟨rfl, rfl⟩ ⟨Nat.le_of_ble_eq_true rfl, Nat.le_of_ble_eq_true rfl⟩ hP hD hS hA hK hN hXs hZs rfl rfl (by decide) (by decide) (by decide) rfl rfl rfl hl.1 rfl (Nat.le_of_ble_eq_true rfl) dL_advance_4 ⟨Nat.le_of_ble_eq_true rfl, Nat.le_of_ble_eq_true rfl⟩ (fun E ce q9 H locs hpx hP hD hS hc1 hc2 hc3 => ?_) (fun r u9 H locs hpo hP hD hS => ?_)
  · obtain ⟨u9, hpx⟩ := hpx
    obtain ⟨h9, hk⟩ := hpx
    obtain rfl : E = "java/lang/IllegalArgumentException" := h9
    have hP : va_P (dC, dI) cls [(O, .inl (cL, 1, .inr (.inl g)))] H := hP
    have hD : va_D A [(O, .inl (cL, 1, .inr (.inl g)))] := hD
    refine vx_catch (name := "java/lang/IllegalArgumentException") hown [] _ _ (ht9.trans rfl) (fun z hz => by cases hz) rfl (by decide) (hts _ (tb_in q_cl_L_13)) (va_Nw.use rfl hXs.1.2.2.2.1) hc1 hc2 hc3 ?_
    refine lv_astore_n (lv' := [(3, .ref q9), (0, .ref P), (1, .int p0), (2, .ref O)]) hx hb dL_advance_12 rfl hl (by decide) rfl (fun ls hl => ?_)
    refine lv_iconst (v := 1) hx hb dL_advance_13 (by decide) ?_
    refine k_wid (k := 1) (n := 6) (Nat.le_of_ble_eq_true rfl) (Nat.le_of_ble_eq_true rfl) (vx_ret ?_)
    have hP9 := hP
    have hD9 := hD
    exact W.iret (v := 1) hx hb hr (fun t9 ht9 hW9 => ⟨⟨_, g, rfl, ⟨by rw [hk]; rfl, fun h => absurd h (by rw [hk]; decide)⟩, by rw [ht9]; exact hP9, va_K.moved hW9.alike hK, hD9⟩, hS.F ht9⟩) hS.2.2 dL_advance_14
  have hP : va_P (dC, dI) cls [(O, .inl (cL, 1, .inr (.inl g)))] H := hP
  have hD : va_D A [(O, .inl (cL, 1, .inr (.inl g)))] := hD
  obtain ⟨hk, rfl⟩ := hpo
  refine lv_i2l (v := 0) hx hb dL_advance_7 (by decide) ?_
  refine va_last (D := (dC, dI)) hx hb hK hP hD hS 0 3 rfl rfl (i := 0) (n := 1) (vpd (by decide)) dL_advance_8 (fun H locs hP hD hS => ?_)
  have hP : va_P (dC, dI) cls [(O, .inl (cL, 1, .inr (.inl (vp_updL g (0 : Int32).toNatClampNeg 0))))] H := hP
  have hD : va_D A [(O, .inl (cL, 1, .inr (.inl (vp_updL g (0 : Int32).toNatClampNeg 0))))] := hD
  refine lv_goto (tgt := 18) hx hb dL_advance_9 (by decide) ?_
  refine lv_iconst (v := 0) hx hb dL_advance_18 (by decide) ?_
  refine k_wid (k := 1) (n := 6) (Nat.le_of_ble_eq_true rfl) (Nat.le_of_ble_eq_true rfl) (vx_ret ?_)
  have hP9 := hP
  have hD9 := hD
  exact W.iret (v := 0) hx hb hr (fun t9 ht9 hW9 => ⟨⟨_, (vp_updL g (0 : Int32).toNatClampNeg 0), rfl, ⟨by rw [hk]; rfl, fun _ => rfl⟩, by rw [ht9]; exact hP9, va_K.moved hW9.alike hK, hD9⟩, hS.F ht9⟩) hS.2.2 dL_advance_19
set_option maxHeartbeats 4000000 in
set_option maxRecDepth 100000 in
theorem h_addPlace (l : Launch) (hlT : l.stackTraces = false) (dC : Nat → ClassId) (dI : Nat → Nat → Nat) (cI cV cJ cL : ClassId) (P F G T za : Nat) (fa ia : Nat → Nat) (O : Nat) (g : Nat → Int64) (p0 p1 : Int32) (sz : Nat) : vx_Met l yL_addPlace (Cond.codeWith yL_addPlace cL_addPlace 5 (some .int) [(0, 10, 13, 13), (0, 10, 17, 15)] :: TB) ({ frames := 24, cells := 1, slots := 6, locals := 1200 } : Room) (PXw [.ref P, .int p0, .int p1, .ref O] (dC, dI) [(P, .inr (5, [.ref F, .ref G, .ref T, .ref za, .ref (ia 0), .ref (ia 1), .ref (ia 2), .int 0, .int 0])), (F, .inr (0, [.ref (fa 0), .ref (fa 1), .ref (fa 2), .ref (fa 3), .ref (fa 4), .ref (fa 5), .ref (fa 6), .ref (fa 7), .ref (fa 8), .int 0, .int 0, .int 0])), (fa 0, .inl (cI, 12, .inl (fun _ => 0))), (fa 1, .inl (cI, 12, .inl (fun _ => 0))), (fa 2, .inl (cI, 144, .inl (fun _ => 0))), (fa 3, .inl (cI, 9, .inl (fun _ => 0))), (fa 4, .inl (cI, 18, .inl (fun _ => 0))), (fa 5, .inl (cI, 18, .inl (fun _ => 0))), (fa 6, .inl (cI, 18, .inl (fun _ => 0))), (fa 7, .inl (cI, 18, .inl (fun _ => 0))), (fa 8, .inl (cI, 18, .inl (fun _ => 0))), (O, .inl (cL, 1, .inr (.inl g)))] (TYP cI cV cJ cL) sz) (va_Qi (fun (r : Int32) (g : Nat → Int64) => r = b01 (outF p0 0 60 || outF p1 0 60) ∧ (b01 (outF p0 0 60 || outF p1 0 60) = 0 → g 0 = 0)) (QB (dC, dI) (fun (g : Nat → Int64) => [(O, .inl (cL, 1, .inr (.inl g)))]) (TYP cI cV cJ cL) (va_A [(P, .inr (5, [.ref F, .ref G, .ref T, .ref za, .ref (ia 0), .ref (ia 1), .ref (ia 2), .int 0, .int 0])), (F, .inr (0, [.ref (fa 0), .ref (fa 1), .ref (fa 2), .ref (fa 3), .ref (fa 4), .ref (fa 5), .ref (fa 6), .ref (fa 7), .ref (fa 8), .int 0, .int 0, .int 0])), (fa 0, .inl (cI, 12, .inl (fun _ => 0))), (fa 1, .inl (cI, 12, .inl (fun _ => 0))), (fa 2, .inl (cI, 144, .inl (fun _ => 0))), (fa 3, .inl (cI, 9, .inl (fun _ => 0))), (fa 4, .inl (cI, 18, .inl (fun _ => 0))), (fa 5, .inl (cI, 18, .inl (fun _ => 0))), (fa 6, .inl (cI, 18, .inl (fun _ => 0))), (fa 7, .inl (cI, 18, .inl (fun _ => 0))), (fa 8, .inl (cI, 18, .inl (fun _ => 0))), (O, .inl (cL, 1, .inr (.inl g)))] sz)) (va_A [(P, .inr (5, [.ref F, .ref G, .ref T, .ref za, .ref (ia 0), .ref (ia 1), .ref (ia 2), .int 0, .int 0])), (F, .inr (0, [.ref (fa 0), .ref (fa 1), .ref (fa 2), .ref (fa 3), .ref (fa 4), .ref (fa 5), .ref (fa 6), .ref (fa 7), .ref (fa 8), .int 0, .int 0, .int 0])), (fa 0, .inl (cI, 12, .inl (fun _ => 0))), (fa 1, .inl (cI, 12, .inl (fun _ => 0))), (fa 2, .inl (cI, 144, .inl (fun _ => 0))), (fa 3, .inl (cI, 9, .inl (fun _ => 0))), (fa 4, .inl (cI, 18, .inl (fun _ => 0))), (fa 5, .inl (cI, 18, .inl (fun _ => 0))), (fa 6, .inl (cI, 18, .inl (fun _ => 0))), (fa 7, .inl (cI, 18, .inl (fun _ => 0))), (fa 8, .inl (cI, 18, .inl (fun _ => 0))), (O, .inl (cL, 1, .inr (.inl g)))] sz)) (vx_X (fun _ : Unit => False) (fun _ _ _ => True) (va_A [(P, .inr (5, [.ref F, .ref G, .ref T, .ref za, .ref (ia 0), .ref (ia 1), .ref (ia 2), .int 0, .int 0])), (F, .inr (0, [.ref (fa 0), .ref (fa 1), .ref (fa 2), .ref (fa 3), .ref (fa 4), .ref (fa 5), .ref (fa 6), .ref (fa 7), .ref (fa 8), .int 0, .int 0, .int 0])), (fa 0, .inl (cI, 12, .inl (fun _ => 0))), (fa 1, .inl (cI, 12, .inl (fun _ => 0))), (fa 2, .inl (cI, 144, .inl (fun _ => 0))), (fa 3, .inl (cI, 9, .inl (fun _ => 0))), (fa 4, .inl (cI, 18, .inl (fun _ => 0))), (fa 5, .inl (cI, 18, .inl (fun _ => 0))), (fa 6, .inl (cI, 18, .inl (fun _ => 0))), (fa 7, .inl (cI, 18, .inl (fun _ => 0))), (fa 8, .inl (cI, 18, .inl (fun _ => 0))), (O, .inl (cL, 1, .inr (.inl g)))] sz)) 1 6 (va_A [(P, .inr (5, [.ref F, .ref G, .ref T, .ref za, .ref (ia 0), .ref (ia 1), .ref (ia 2), .int 0, .int 0])), (F, .inr (0, [.ref (fa 0), .ref (fa 1), .ref (fa 2), .ref (fa 3), .ref (fa 4), .ref (fa 5), .ref (fa 6), .ref (fa 7), .ref (fa 8), .int 0, .int 0, .int 0])), (fa 0, .inl (cI, 12, .inl (fun _ => 0))), (fa 1, .inl (cI, 12, .inl (fun _ => 0))), (fa 2, .inl (cI, 144, .inl (fun _ => 0))), (fa 3, .inl (cI, 9, .inl (fun _ => 0))), (fa 4, .inl (cI, 18, .inl (fun _ => 0))), (fa 5, .inl (cI, 18, .inl (fun _ => 0))), (fa 6, .inl (cI, 18, .inl (fun _ => 0))), (fa 7, .inl (cI, 18, .inl (fun _ => 0))), (fa 8, .inl (cI, 18, .inl (fun _ => 0))), (O, .inl (cL, 1, .inr (.inl g)))] sz) := by
  refine vx_ofWH (cc := cL_addPlace) (maxL := 5) (ret := (some .int)) (hh := [(0, 10, 13, 13), (0, 10, 17, 15)]) (by decide) rfl ?_
  intro p e s m args below meth c s₁ B hml hv
  obtain ⟨rfl, hsz, hP, hK, hD0, hN, hXs, hZs⟩ := hv
  have hx := B.exec
  have hb := B.bytes
  have hr := B.returns
  have hts := atoms_spec (ws := (Cond.codeWith yL_addPlace cL_addPlace 5 (some .int) [(0, 10, 13, 13), (0, 10, 17, 15)] :: TB)) B.pre
  have hown : s.vm.findClass RL = some m.cls := findClass_of_methodNamed B.named
  have hlocks := B.notSynchronized
  have ht9 := vx_table (x := yL_addPlace) B (hts _ List.mem_cons_self)
  subst hsz
  have hD := hD0.self (sz := s.heap.size)
  generalize hAe : va_A [(P, .inr (5, [.ref F, .ref G, .ref T, .ref za, .ref (ia 0), .ref (ia 1), .ref (ia 2), .int 0, .int 0])), (F, .inr (0, [.ref (fa 0), .ref (fa 1), .ref (fa 2), .ref (fa 3), .ref (fa 4), .ref (fa 5), .ref (fa 6), .ref (fa 7), .ref (fa 8), .int 0, .int 0, .int 0])), (fa 0, .inl (cI, 12, .inl (fun _ => 0))), (fa 1, .inl (cI, 12, .inl (fun _ => 0))), (fa 2, .inl (cI, 144, .inl (fun _ => 0))), (fa 3, .inl (cI, 9, .inl (fun _ => 0))), (fa 4, .inl (cI, 18, .inl (fun _ => 0))), (fa 5, .inl (cI, 18, .inl (fun _ => 0))), (fa 6, .inl (cI, 18, .inl (fun _ => 0))), (fa 7, .inl (cI, 18, .inl (fun _ => 0))), (fa 8, .inl (cI, 18, .inl (fun _ => 0))), (O, .inl (cL, 1, .inr (.inl g)))] s.heap.size = A at hD hZs ⊢
  have hA : ∀ q : Nat, s.heap.size ≤ q → A q := fun q h => by rw [← hAe]; exact Or.inr h
  have hS : va_S A s.heap s.heap [] := va_S.rf
  have hl := lv_entry ([.ref P, .int p0, .int p1, .ref O]) (n := 5) (Nat.le_of_ble_eq_true rfl)
  rw [lg_entry_eq]
  generalize (lg_sl ([.ref P, .int p0, .int p1, .ref O]) ++ List.replicate (5 - (lg_sl ([.ref P, .int p0, .int p1, .ref O])).length) Slot.unset).toArray = ls at hl ⊢
  have hl : lv_has ls 5 [(0, .ref P), (1, .int p0), (2, .int p1), (3, .ref O)] := hl
  refine lv_aload_n hx hb dL_addPlace_0 rfl (lv_at hl 3 rfl) ?_
  refine lv_iconst (v := 0) hx hb dL_addPlace_1 (by decide) ?_
  refine lv_aload_n hx hb dL_addPlace_2 rfl (lv_at hl 0 rfl) ?_
  refine lv_iload_n hx hb dL_addPlace_3 rfl (lv_at hl 1 rfl) ?_
  refine lv_iload_n hx hb dL_addPlace_4 rfl (lv_at hl 2 rfl) ?_
  refine x_Vi (ci := 5) (q0 := 0) (wc := [(P, .inr (5, [.ref F, .ref G, .ref T, .ref za, .ref (ia 0), .ref (ia 1), .ref (ia 2), .int 0, .int 0])), (F, .inr (0, [.ref (fa 0), .ref (fa 1), .ref (fa 2), .ref (fa 3), .ref (fa 4), .ref (fa 5), .ref (fa 6), .ref (fa 7), .ref (fa 8), .int 0, .int 0, .int 0])), (fa 0, .inl (cI, 12, .inl (fun _ => 0))), (fa 1, .inl (cI, 12, .inl (fun _ => 0))), (fa 2, .inl (cI, 144, .inl (fun _ => 0))), (fa 3, .inl (cI, 9, .inl (fun _ => 0))), (fa 4, .inl (cI, 18, .inl (fun _ => 0))), (fa 5, .inl (cI, 18, .inl (fun _ => 0))), (fa 6, .inl (cI, 18, .inl (fun _ => 0))), (fa 7, .inl (cI, 18, .inl (fun _ => 0))), (fa 8, .inl (cI, 18, .inl (fun _ => 0)))]) (wr := [(O, .inl (cL, 1, .inr (.inl g)))]) [.int p0, .int p1] [0, 1, 2, 3, 4, 5, 6, 7, 8, 9, 10] [11] ⟨hx, hb, hml, hown, hts⟩ (fun sz => c_X5_addPlace l hlT dC dI cI cV cJ cL P F G T za fa ia (fun _ _ => 0) 0 0 0 (by decide) (by decide) (by decide) 0 0 p0 p1 sz) q_ml_L_7 q_im_X5_addPlace q_se_X5_addPlace q_ini_X5 q_co_X5_addPlace (n := 2) (by decide +kernel) rfl ⟨rfl, rfl⟩ ⟨Nat.le_of_ble_eq_true rfl, Nat.le_of_ble_eq_true rfl⟩ hP hD hS hA hK hN hXs hZs rfl rfl (by decide) (by decide) (by decide) rfl rfl rfl hl.1 rfl (Nat.le_of_ble_eq_true rfl) dL_addPlace_5 ⟨Nat.le_of_ble_eq_true rfl, Nat.le_of_ble_eq_true rfl⟩ (fun E ce q9 H locs hpx hP hD hS hc1 hc2 hc3 => ?_) (fun r u9 H locs hpo hP hD hS => ?_)
  · obtain ⟨u9, hpx⟩ := hpx
    rcases hpx with ⟨h9, hk⟩ | ⟨h9, hk⟩
    rotate_left
    · exact absurd (by decide) hk
    obtain rfl : E = "java/lang/IllegalArgumentException" := h9
    have hP : va_P (dC, dI) cls [(O, .inl (cL, 1, .inr (.inl g)))] H := hP
    have hD : va_D A [(O, .inl (cL, 1, .inr (.inl g)))] := hD
    refine vx_catch (name := "java/lang/IllegalArgumentException") hown [] _ _ (ht9.trans rfl) (fun z hz => by cases hz) rfl (by decide) (hts _ (tb_in q_cl_L_13)) (va_Nw.use rfl hXs.1.2.2.2.1) hc1 hc2 hc3 ?_
    refine lv_astore (lv' := [(4, .ref q9), (0, .ref P), (1, .int p0), (2, .int p1), (3, .ref O)]) hx hb dL_addPlace_13 hl (by decide) rfl (fun ls hl => ?_)
    refine lv_iconst (v := 1) hx hb dL_addPlace_15 (by decide) ?_
    refine k_wid (k := 1) (n := 6) (Nat.le_of_ble_eq_true rfl) (Nat.le_of_ble_eq_true rfl) (vx_ret ?_)
    have hP9 := hP
    have hD9 := hD
    exact W.iret (v := 1) hx hb hr (fun t9 ht9 hW9 => ⟨⟨_, g, rfl, ⟨by rw [hk]; rfl, fun h => absurd h (by rw [hk]; decide)⟩, by rw [ht9]; exact hP9, va_K.moved hW9.alike hK, hD9⟩, hS.F ht9⟩) hS.2.2 dL_addPlace_16
  have hP : va_P (dC, dI) cls [(O, .inl (cL, 1, .inr (.inl g)))] H := hP
  have hD : va_D A [(O, .inl (cL, 1, .inr (.inl g)))] := hD
  obtain ⟨⟨hk, -⟩, rfl, -⟩ := hpo
  refine k_st1 (y := 0) rfl ?_
  refine lv_i2l (v := 0) hx hb dL_addPlace_8 (by decide) ?_
  refine va_last (D := (dC, dI)) hx hb hK hP hD hS 0 3 rfl rfl (i := 0) (n := 1) (vpd (by decide)) dL_addPlace_9 (fun H locs hP hD hS => ?_)
  have hP : va_P (dC, dI) cls [(O, .inl (cL, 1, .inr (.inl (vp_updL g (0 : Int32).toNatClampNeg 0))))] H := hP
  have hD : va_D A [(O, .inl (cL, 1, .inr (.inl (vp_updL g (0 : Int32).toNatClampNeg 0))))] := hD
  refine lv_goto (tgt := 21) hx hb dL_addPlace_10 (by decide) ?_
  refine lv_iconst (v := 0) hx hb dL_addPlace_21 (by decide) ?_
  refine k_wid (k := 1) (n := 6) (Nat.le_of_ble_eq_true rfl) (Nat.le_of_ble_eq_true rfl) (vx_ret ?_)
  have hP9 := hP
  have hD9 := hD
  exact W.iret (v := 0) hx hb hr (fun t9 ht9 hW9 => ⟨⟨_, (vp_updL g (0 : Int32).toNatClampNeg 0), rfl, ⟨by rw [hk]; rfl, fun _ => rfl⟩, by rw [ht9]; exact hP9, va_K.moved hW9.alike hK, hD9⟩, hS.F ht9⟩) hS.2.2 dL_addPlace_22
