theorem bz0 {b : Bool} (h : b01 (!b) = 0) : b = true := by cases b <;> simp_all [b01]
theorem bz1 {b : Bool} (h : ¬ b01 (!b) = 0) : b = false := by cases b <;> simp_all [b01]
theorem outF_f {x a b : Int32} (h : outF x a b = false) : ¬ x < a ∧ x ≤ b := by
  unfold outF at h
  rw [Bool.or_eq_false_iff, Bool.not_eq_false', decide_eq_false_iff_not, decide_eq_true_eq] at h
  exact h
theorem z_pos {x b : Int32} (h : outF x 1 b = false) : ¬ x ≤ 0 := by
  have h1 := (outF_f h).1
  intro h2
  apply h1
  rw [Int32.le_iff_toInt_le] at h2
  rw [Int32.lt_iff_toInt_lt]
  have e0 : (0 : Int32).toInt = 0 := rfl
  have e1 : (1 : Int32).toInt = 1 := rfl
  omega
theorem z_top {x a b : Int32} (h : outF x a b = false) : ¬ b < x := by
  have h1 := (outF_f h).2
  rw [Int32.le_iff_toInt_le] at h1
  rw [Int32.lt_iff_toInt_lt]
  omega
theorem z_none (x : Int32) : outF x 0 (-1) = true := by
  cases h : outF x 0 (-1) with
  | true => rfl
  | false =>
    have h1 := outF_f h
    rw [Int32.lt_iff_toInt_lt, Int32.le_iff_toInt_le] at h1
    have e0 : (0 : Int32).toInt = 0 := rfl
    have e1 : (-1 : Int32).toInt = -1 := rfl
    omega
set_option maxHeartbeats 4000000 in
set_option maxRecDepth 100000 in
theorem c_X6_init (l : Launch) (dC : Nat → ClassId) (dI : Nat → Nat → Nat) (cI cV cJ cL : ClassId) (o : Nat) (sz : Nat) : Met l yX6_init (Cond.code yX6_init cX6_init 1 none :: TB) ({ frames := 1, cells := 7, slots := 27, locals := 24 } : Room) (PW [.ref o] (dC, dI) [(o, .inr (6, [.int 0, .int 0, .int 0, .int 0, .int 0, .null, .null, .null, .null, .int 0, .null, .long 0]))] (TYP cI cV cJ cL) sz) (va_Qv (fun _ : Nat → Nat => True) (QB (dC, dI) (fun (u : Nat → Nat) => [(o, .inr (6, [.int 0, .int 0, .int 0, .int 0, .int 0, .ref ((u 0)), .ref ((u 1)), .ref ((u 2)), .ref ((u 3)), .int 0, .null, .long 0])), ((u 0), .inl (cJ, 12, .inr (.inr (.inr (.inr (fun _ => none))))))]) (TYP cI cV cJ cL) (va_A [(o, .inr (6, [.int 0, .int 0, .int 0, .int 0, .int 0, .null, .null, .null, .null, .int 0, .null, .long 0]))] sz)) (va_A [(o, .inr (6, [.int 0, .int 0, .int 0, .int 0, .int 0, .null, .null, .null, .null, .int 0, .null, .long 0]))] sz)) 7 27 (va_A [(o, .inr (6, [.int 0, .int 0, .int 0, .int 0, .int 0, .null, .null, .null, .null, .int 0, .null, .long 0]))] sz) := by
  refine Met.ofW (cc := cX6_init) (maxL := 1) (ret := none) (by decide) rfl ?_
  intro p e s m args below meth c s₁ B hml hv
  obtain ⟨rfl, hsz, hP, hK, hD0, hN⟩ := hv
  have hx := B.exec
  have hb := B.bytes
  have hr := B.returns
  have hts := atoms_spec (ws := (Cond.code yX6_init cX6_init 1 none :: TB)) B.pre
  have hown : s.vm.findClass RX6 = some m.cls := findClass_of_methodNamed B.named
  have hlocks := B.notSynchronized
  subst hsz
  have hD := hD0.self (sz := s.heap.size)
  generalize hAe : va_A [(o, .inr (6, [.int 0, .int 0, .int 0, .int 0, .int 0, .null, .null, .null, .null, .int 0, .null, .long 0]))] s.heap.size = A at hD ⊢
  have hA : ∀ q : Nat, s.heap.size ≤ q → A q := fun q h => by rw [← hAe]; exact Or.inr h
  have hS : va_S A s.heap s.heap [] := va_S.rf
  have hl := lv_entry ([.ref o]) (n := 1) (Nat.le_of_ble_eq_true rfl)
  rw [lg_entry_eq]
  generalize (lg_sl ([.ref o]) ++ List.replicate (1 - (lg_sl ([.ref o])).length) Slot.unset).toArray = ls at hl ⊢
  have hl : lv_has ls 1 [(0, .ref o)] := hl
  have hin : meth.name = "<init>" := (name_of_methodNamed B.named B.method).1
  refine lv_aload_n hx hb dX6_init_0 rfl (lv_at hl 0 rfl) ?_
  refine W.objInit hx hb hown (hts _ (tb_in q_ml_X6_1)) (hts _ (tb_in q_im_obj)) (hts _ (tb_in q_co_obj)) rfl (by rw [hml]; exact hl.1) rfl dX6_init_1 (Nat.le_of_ble_eq_true rfl) (Nat.le_of_ble_eq_true rfl) ?_
  refine W.eq (g2 := F0 m 4 ls []) rfl ?_
  refine lv_aload_n hx hb dX6_init_4 rfl (lv_at hl 0 rfl) ?_
  refine lv_bipush (v := 12) hx hb dX6_init_5 (by decide) ?_
  refine k_newJ hx hb hown (hts _ (tb_in q_cl_X6_9)) hN.aa hK hP hD hS hA 2 rfl (n := 12) (N' := 12) (by decide) (by decide) (Nat.le_of_ble_eq_true rfl) (Nat.le_of_ble_eq_true rfl) (Nat.le_of_ble_eq_true rfl) dX6_init_7 (fun q_1 H hP hD hS => ?_)
  have hP : va_P (dC, dI) cls [(o, .inr (6, [.int 0, .int 0, .int 0, .int 0, .int 0, .null, .null, .null, .null, .int 0, .null, .long 0])), (q_1, .inl (cJ, 12, .inr (.inr (.inr (.inr (fun _ => none))))))] H := hP
  have hD : va_D A [(o, .inr (6, [.int 0, .int 0, .int 0, .int 0, .int 0, .null, .null, .null, .null, .int 0, .null, .long 0])), (q_1, .inl (cJ, 12, .inr (.inr (.inr (.inr (fun _ => none))))))] := hD
  refine va_putF (D := (dC, dI)) (ci := 6) (v := .ref q_1) (ty := (.array (.array .int))) (C := RX6) (T := TX6) (N := 12) hx hb hts (fun w h => tb_in (inX6 w h)) tyX6 tyX6_ok nmX6 hown hK hP hD hS 0 rfl rfl 5 (by decide) (hts _ (tb_in q_fl_X6_11)) (fun _ h9 => h9) rfl hin rfl (by decide +kernel) rfl rfl (Nat.le_of_ble_eq_true rfl) dX6_init_10 (fun H locs hP hD hS => ?_)
  have hP : va_P (dC, dI) cls [(o, .inr (6, [.int 0, .int 0, .int 0, .int 0, .int 0, .ref q_1, .null, .null, .null, .int 0, .null, .long 0])), (q_1, .inl (cJ, 12, .inr (.inr (.inr (.inr (fun _ => none))))))] H := hP
  have hD : va_D A [(o, .inr (6, [.int 0, .int 0, .int 0, .int 0, .int 0, .ref q_1, .null, .null, .null, .int 0, .null, .long 0])), (q_1, .inl (cJ, 12, .inr (.inr (.inr (.inr (fun _ => none))))))] := hD
  refine lv_aload_n hx hb dX6_init_13 rfl (lv_at hl 0 rfl) ?_
  refine lv_iconst (v := 3) hx hb dX6_init_14 (by decide) ?_
  refine k_newJ hx hb hown (hts _ (tb_in q_cl_X6_9)) hN.aa hK hP hD hS hA 2 rfl (n := 3) (N' := 3) (by decide) (by decide) (Nat.le_of_ble_eq_true rfl) (Nat.le_of_ble_eq_true rfl) (Nat.le_of_ble_eq_true rfl) dX6_init_15 (fun q_2 H hP hD hS => ?_)
  have hP : va_P (dC, dI) cls [(o, .inr (6, [.int 0, .int 0, .int 0, .int 0, .int 0, .ref q_1, .null, .null, .null, .int 0, .null, .long 0])), (q_1, .inl (cJ, 12, .inr (.inr (.inr (.inr (fun _ => none)))))), (q_2, .inl (cJ, 3, .inr (.inr (.inr (.inr (fun _ => none))))))] H := hP
  have hD : va_D A [(o, .inr (6, [.int 0, .int 0, .int 0, .int 0, .int 0, .ref q_1, .null, .null, .null, .int 0, .null, .long 0])), (q_1, .inl (cJ, 12, .inr (.inr (.inr (.inr (fun _ => none)))))), (q_2, .inl (cJ, 3, .inr (.inr (.inr (.inr (fun _ => none))))))] := hD
  refine va_putF (D := (dC, dI)) (ci := 6) (v := .ref q_2) (ty := (.array (.array .int))) (C := RX6) (T := TX6) (N := 12) hx hb hts (fun w h => tb_in (inX6 w h)) tyX6 tyX6_ok nmX6 hown hK hP hD hS 0 rfl rfl 6 (by decide) (hts _ (tb_in q_fl_X6_15)) (fun _ h9 => h9) rfl hin rfl (by decide +kernel) rfl rfl (Nat.le_of_ble_eq_true rfl) dX6_init_18 (fun H locs hP hD hS => ?_)
  have hP : va_P (dC, dI) cls [(o, .inr (6, [.int 0, .int 0, .int 0, .int 0, .int 0, .ref q_1, .ref q_2, .null, .null, .int 0, .null, .long 0])), (q_1, .inl (cJ, 12, .inr (.inr (.inr (.inr (fun _ => none)))))), (q_2, .inl (cJ, 3, .inr (.inr (.inr (.inr (fun _ => none))))))] H := hP
  have hD : va_D A [(o, .inr (6, [.int 0, .int 0, .int 0, .int 0, .int 0, .ref q_1, .ref q_2, .null, .null, .int 0, .null, .long 0])), (q_1, .inl (cJ, 12, .inr (.inr (.inr (.inr (fun _ => none)))))), (q_2, .inl (cJ, 3, .inr (.inr (.inr (.inr (fun _ => none))))))] := hD
  refine lv_aload_n hx hb dX6_init_21 rfl (lv_at hl 0 rfl) ?_
  refine lv_bipush (v := 9) hx hb dX6_init_22 (by decide) ?_
  refine k_newJ hx hb hown (hts _ (tb_in q_cl_X6_9)) hN.aa hK hP hD hS hA 2 rfl (n := 9) (N' := 9) (by decide) (by decide) (Nat.le_of_ble_eq_true rfl) (Nat.le_of_ble_eq_true rfl) (Nat.le_of_ble_eq_true rfl) dX6_init_24 (fun q_3 H hP hD hS => ?_)
  have hP : va_P (dC, dI) cls [(o, .inr (6, [.int 0, .int 0, .int 0, .int 0, .int 0, .ref q_1, .ref q_2, .null, .null, .int 0, .null, .long 0])), (q_1, .inl (cJ, 12, .inr (.inr (.inr (.inr (fun _ => none)))))), (q_2, .inl (cJ, 3, .inr (.inr (.inr (.inr (fun _ => none)))))), (q_3, .inl (cJ, 9, .inr (.inr (.inr (.inr (fun _ => none))))))] H := hP
  have hD : va_D A [(o, .inr (6, [.int 0, .int 0, .int 0, .int 0, .int 0, .ref q_1, .ref q_2, .null, .null, .int 0, .null, .long 0])), (q_1, .inl (cJ, 12, .inr (.inr (.inr (.inr (fun _ => none)))))), (q_2, .inl (cJ, 3, .inr (.inr (.inr (.inr (fun _ => none)))))), (q_3, .inl (cJ, 9, .inr (.inr (.inr (.inr (fun _ => none))))))] := hD
  refine va_putF (D := (dC, dI)) (ci := 6) (v := .ref q_3) (ty := (.array (.array .int))) (C := RX6) (T := TX6) (N := 12) hx hb hts (fun w h => tb_in (inX6 w h)) tyX6 tyX6_ok nmX6 hown hK hP hD hS 0 rfl rfl 7 (by decide) (hts _ (tb_in q_fl_X6_18)) (fun _ h9 => h9) rfl hin rfl (by decide +kernel) rfl rfl (Nat.le_of_ble_eq_true rfl) dX6_init_27 (fun H locs hP hD hS => ?_)
  have hP : va_P (dC, dI) cls [(o, .inr (6, [.int 0, .int 0, .int 0, .int 0, .int 0, .ref q_1, .ref q_2, .ref q_3, .null, .int 0, .null, .long 0])), (q_1, .inl (cJ, 12, .inr (.inr (.inr (.inr (fun _ => none)))))), (q_2, .inl (cJ, 3, .inr (.inr (.inr (.inr (fun _ => none)))))), (q_3, .inl (cJ, 9, .inr (.inr (.inr (.inr (fun _ => none))))))] H := hP
  have hD : va_D A [(o, .inr (6, [.int 0, .int 0, .int 0, .int 0, .int 0, .ref q_1, .ref q_2, .ref q_3, .null, .int 0, .null, .long 0])), (q_1, .inl (cJ, 12, .inr (.inr (.inr (.inr (fun _ => none)))))), (q_2, .inl (cJ, 3, .inr (.inr (.inr (.inr (fun _ => none)))))), (q_3, .inl (cJ, 9, .inr (.inr (.inr (.inr (fun _ => none))))))] := hD
  refine lv_aload_n hx hb dX6_init_30 rfl (lv_at hl 0 rfl) ?_
  refine lv_iconst (v := 3) hx hb dX6_init_31 (by decide) ?_
  refine k_newJ hx hb hown (hts _ (tb_in q_cl_X6_9)) hN.aa hK hP hD hS hA 2 rfl (n := 3) (N' := 3) (by decide) (by decide) (Nat.le_of_ble_eq_true rfl) (Nat.le_of_ble_eq_true rfl) (Nat.le_of_ble_eq_true rfl) dX6_init_32 (fun q_4 H hP hD hS => ?_)
  have hP : va_P (dC, dI) cls [(o, .inr (6, [.int 0, .int 0, .int 0, .int 0, .int 0, .ref q_1, .ref q_2, .ref q_3, .null, .int 0, .null, .long 0])), (q_1, .inl (cJ, 12, .inr (.inr (.inr (.inr (fun _ => none)))))), (q_2, .inl (cJ, 3, .inr (.inr (.inr (.inr (fun _ => none)))))), (q_3, .inl (cJ, 9, .inr (.inr (.inr (.inr (fun _ => none)))))), (q_4, .inl (cJ, 3, .inr (.inr (.inr (.inr (fun _ => none))))))] H := hP
  have hD : va_D A [(o, .inr (6, [.int 0, .int 0, .int 0, .int 0, .int 0, .ref q_1, .ref q_2, .ref q_3, .null, .int 0, .null, .long 0])), (q_1, .inl (cJ, 12, .inr (.inr (.inr (.inr (fun _ => none)))))), (q_2, .inl (cJ, 3, .inr (.inr (.inr (.inr (fun _ => none)))))), (q_3, .inl (cJ, 9, .inr (.inr (.inr (.inr (fun _ => none)))))), (q_4, .inl (cJ, 3, .inr (.inr (.inr (.inr (fun _ => none))))))] := hD
  refine lv_dup hx hb dX6_init_35 rfl ?_
  refine lv_iconst (v := 0) hx hb dX6_init_36 (by decide) ?_
  refine lv_iconst (v := 0) hx hb dX6_init_37 (by decide) ?_
  refine k_newI hx hb (hts _ (tb_in q_ac_int)) hK hP hD hS hA 0 rfl (n := 0) (N' := 0) (by decide) (by decide) (Nat.le_of_ble_eq_true rfl) (Nat.le_of_ble_eq_true rfl) (Nat.le_of_ble_eq_true rfl) dX6_init_38 (fun q_5 H hP hD hS => ?_)
  have hP : va_P (dC, dI) cls [(o, .inr (6, [.int 0, .int 0, .int 0, .int 0, .int 0, .ref q_1, .ref q_2, .ref q_3, .null, .int 0, .null, .long 0])), (q_1, .inl (cJ, 12, .inr (.inr (.inr (.inr (fun _ => none)))))), (q_2, .inl (cJ, 3, .inr (.inr (.inr (.inr (fun _ => none)))))), (q_3, .inl (cJ, 9, .inr (.inr (.inr (.inr (fun _ => none)))))), (q_4, .inl (cJ, 3, .inr (.inr (.inr (.inr (fun _ => none)))))), (q_5, .inl (cI, 0, .inl (fun _ => 0)))] H := hP
  have hD : va_D A [(o, .inr (6, [.int 0, .int 0, .int 0, .int 0, .int 0, .ref q_1, .ref q_2, .ref q_3, .null, .int 0, .null, .long 0])), (q_1, .inl (cJ, 12, .inr (.inr (.inr (.inr (fun _ => none)))))), (q_2, .inl (cJ, 3, .inr (.inr (.inr (.inr (fun _ => none)))))), (q_3, .inl (cJ, 9, .inr (.inr (.inr (.inr (fun _ => none)))))), (q_4, .inl (cJ, 3, .inr (.inr (.inr (.inr (fun _ => none)))))), (q_5, .inl (cI, 0, .inl (fun _ => 0)))] := hD
  refine k_astJ hx hb hN.aa hK hP hD hS 4 2 5 0 rfl rfl rfl rfl (i := 0) (vpd (by decide)) dX6_init_40 (fun H locs hP hD hS => ?_)
  have hP : va_P (dC, dI) cls [(o, .inr (6, [.int 0, .int 0, .int 0, .int 0, .int 0, .ref q_1, .ref q_2, .ref q_3, .null, .int 0, .null, .long 0])), (q_1, .inl (cJ, 12, .inr (.inr (.inr (.inr (fun _ => none)))))), (q_2, .inl (cJ, 3, .inr (.inr (.inr (.inr (fun _ => none)))))), (q_3, .inl (cJ, 9, .inr (.inr (.inr (.inr (fun _ => none)))))), (q_4, .inl (cJ, 3, .inr (.inr (.inr (.inr (va_up (fun _ => none) (0 : Int32).toNatClampNeg (some q_5))))))), (q_5, .inl (cI, 0, .inl (fun _ => 0)))] H := hP
  have hD : va_D A [(o, .inr (6, [.int 0, .int 0, .int 0, .int 0, .int 0, .ref q_1, .ref q_2, .ref q_3, .null, .int 0, .null, .long 0])), (q_1, .inl (cJ, 12, .inr (.inr (.inr (.inr (fun _ => none)))))), (q_2, .inl (cJ, 3, .inr (.inr (.inr (.inr (fun _ => none)))))), (q_3, .inl (cJ, 9, .inr (.inr (.inr (.inr (fun _ => none)))))), (q_4, .inl (cJ, 3, .inr (.inr (.inr (.inr (va_up (fun _ => none) (0 : Int32).toNatClampNeg (some q_5))))))), (q_5, .inl (cI, 0, .inl (fun _ => 0)))] := hD
  refine lv_dup hx hb dX6_init_41 rfl ?_
  refine lv_iconst (v := 1) hx hb dX6_init_42 (by decide) ?_
  refine lv_iconst (v := 0) hx hb dX6_init_43 (by decide) ?_
  refine k_newI hx hb (hts _ (tb_in q_ac_int)) hK hP hD hS hA 0 rfl (n := 0) (N' := 0) (by decide) (by decide) (Nat.le_of_ble_eq_true rfl) (Nat.le_of_ble_eq_true rfl) (Nat.le_of_ble_eq_true rfl) dX6_init_44 (fun q_6 H hP hD hS => ?_)
  have hP : va_P (dC, dI) cls [(o, .inr (6, [.int 0, .int 0, .int 0, .int 0, .int 0, .ref q_1, .ref q_2, .ref q_3, .null, .int 0, .null, .long 0])), (q_1, .inl (cJ, 12, .inr (.inr (.inr (.inr (fun _ => none)))))), (q_2, .inl (cJ, 3, .inr (.inr (.inr (.inr (fun _ => none)))))), (q_3, .inl (cJ, 9, .inr (.inr (.inr (.inr (fun _ => none)))))), (q_4, .inl (cJ, 3, .inr (.inr (.inr (.inr (va_up (fun _ => none) (0 : Int32).toNatClampNeg (some q_5))))))), (q_5, .inl (cI, 0, .inl (fun _ => 0))), (q_6, .inl (cI, 0, .inl (fun _ => 0)))] H := hP
  have hD : va_D A [(o, .inr (6, [.int 0, .int 0, .int 0, .int 0, .int 0, .ref q_1, .ref q_2, .ref q_3, .null, .int 0, .null, .long 0])), (q_1, .inl (cJ, 12, .inr (.inr (.inr (.inr (fun _ => none)))))), (q_2, .inl (cJ, 3, .inr (.inr (.inr (.inr (fun _ => none)))))), (q_3, .inl (cJ, 9, .inr (.inr (.inr (.inr (fun _ => none)))))), (q_4, .inl (cJ, 3, .inr (.inr (.inr (.inr (va_up (fun _ => none) (0 : Int32).toNatClampNeg (some q_5))))))), (q_5, .inl (cI, 0, .inl (fun _ => 0))), (q_6, .inl (cI, 0, .inl (fun _ => 0)))] := hD
  refine k_astJ hx hb hN.aa hK hP hD hS 4 2 6 0 rfl rfl rfl rfl (i := 1) (vpd (by decide)) dX6_init_46 (fun H locs hP hD hS => ?_)
  have hP : va_P (dC, dI) cls [(o, .inr (6, [.int 0, .int 0, .int 0, .int 0, .int 0, .ref q_1, .ref q_2, .ref q_3, .null, .int 0, .null, .long 0])), (q_1, .inl (cJ, 12, .inr (.inr (.inr (.inr (fun _ => none)))))), (q_2, .inl (cJ, 3, .inr (.inr (.inr (.inr (fun _ => none)))))), (q_3, .inl (cJ, 9, .inr (.inr (.inr (.inr (fun _ => none)))))), (q_4, .inl (cJ, 3, .inr (.inr (.inr (.inr (va_up (va_up (fun _ => none) (0 : Int32).toNatClampNeg (some q_5)) (1 : Int32).toNatClampNeg (some q_6))))))), (q_5, .inl (cI, 0, .inl (fun _ => 0))), (q_6, .inl (cI, 0, .inl (fun _ => 0)))] H := hP
  have hD : va_D A [(o, .inr (6, [.int 0, .int 0, .int 0, .int 0, .int 0, .ref q_1, .ref q_2, .ref q_3, .null, .int 0, .null, .long 0])), (q_1, .inl (cJ, 12, .inr (.inr (.inr (.inr (fun _ => none)))))), (q_2, .inl (cJ, 3, .inr (.inr (.inr (.inr (fun _ => none)))))), (q_3, .inl (cJ, 9, .inr (.inr (.inr (.inr (fun _ => none)))))), (q_4, .inl (cJ, 3, .inr (.inr (.inr (.inr (va_up (va_up (fun _ => none) (0 : Int32).toNatClampNeg (some q_5)) (1 : Int32).toNatClampNeg (some q_6))))))), (q_5, .inl (cI, 0, .inl (fun _ => 0))), (q_6, .inl (cI, 0, .inl (fun _ => 0)))] := hD
  refine lv_dup hx hb dX6_init_47 rfl ?_
  refine lv_iconst (v := 2) hx hb dX6_init_48 (by decide) ?_
  refine lv_iconst (v := 0) hx hb dX6_init_49 (by decide) ?_
  refine k_newI hx hb (hts _ (tb_in q_ac_int)) hK hP hD hS hA 0 rfl (n := 0) (N' := 0) (by decide) (by decide) (Nat.le_of_ble_eq_true rfl) (Nat.le_of_ble_eq_true rfl) (Nat.le_of_ble_eq_true rfl) dX6_init_50 (fun q_7 H hP hD hS => ?_)
  have hP : va_P (dC, dI) cls [(o, .inr (6, [.int 0, .int 0, .int 0, .int 0, .int 0, .ref q_1, .ref q_2, .ref q_3, .null, .int 0, .null, .long 0])), (q_1, .inl (cJ, 12, .inr (.inr (.inr (.inr (fun _ => none)))))), (q_2, .inl (cJ, 3, .inr (.inr (.inr (.inr (fun _ => none)))))), (q_3, .inl (cJ, 9, .inr (.inr (.inr (.inr (fun _ => none)))))), (q_4, .inl (cJ, 3, .inr (.inr (.inr (.inr (va_up (va_up (fun _ => none) (0 : Int32).toNatClampNeg (some q_5)) (1 : Int32).toNatClampNeg (some q_6))))))), (q_5, .inl (cI, 0, .inl (fun _ => 0))), (q_6, .inl (cI, 0, .inl (fun _ => 0))), (q_7, .inl (cI, 0, .inl (fun _ => 0)))] H := hP
  have hD : va_D A [(o, .inr (6, [.int 0, .int 0, .int 0, .int 0, .int 0, .ref q_1, .ref q_2, .ref q_3, .null, .int 0, .null, .long 0])), (q_1, .inl (cJ, 12, .inr (.inr (.inr (.inr (fun _ => none)))))), (q_2, .inl (cJ, 3, .inr (.inr (.inr (.inr (fun _ => none)))))), (q_3, .inl (cJ, 9, .inr (.inr (.inr (.inr (fun _ => none)))))), (q_4, .inl (cJ, 3, .inr (.inr (.inr (.inr (va_up (va_up (fun _ => none) (0 : Int32).toNatClampNeg (some q_5)) (1 : Int32).toNatClampNeg (some q_6))))))), (q_5, .inl (cI, 0, .inl (fun _ => 0))), (q_6, .inl (cI, 0, .inl (fun _ => 0))), (q_7, .inl (cI, 0, .inl (fun _ => 0)))] := hD
  refine k_astJ hx hb hN.aa hK hP hD hS 4 2 7 0 rfl rfl rfl rfl (i := 2) (vpd (by decide)) dX6_init_52 (fun H locs hP hD hS => ?_)
  have hP : va_P (dC, dI) cls [(o, .inr (6, [.int 0, .int 0, .int 0, .int 0, .int 0, .ref q_1, .ref q_2, .ref q_3, .null, .int 0, .null, .long 0])), (q_1, .inl (cJ, 12, .inr (.inr (.inr (.inr (fun _ => none)))))), (q_2, .inl (cJ, 3, .inr (.inr (.inr (.inr (fun _ => none)))))), (q_3, .inl (cJ, 9, .inr (.inr (.inr (.inr (fun _ => none)))))), (q_4, .inl (cJ, 3, .inr (.inr (.inr (.inr (va_up (va_up (va_up (fun _ => none) (0 : Int32).toNatClampNeg (some q_5)) (1 : Int32).toNatClampNeg (some q_6)) (2 : Int32).toNatClampNeg (some q_7))))))), (q_5, .inl (cI, 0, .inl (fun _ => 0))), (q_6, .inl (cI, 0, .inl (fun _ => 0))), (q_7, .inl (cI, 0, .inl (fun _ => 0)))] H := hP
  have hD : va_D A [(o, .inr (6, [.int 0, .int 0, .int 0, .int 0, .int 0, .ref q_1, .ref q_2, .ref q_3, .null, .int 0, .null, .long 0])), (q_1, .inl (cJ, 12, .inr (.inr (.inr (.inr (fun _ => none)))))), (q_2, .inl (cJ, 3, .inr (.inr (.inr (.inr (fun _ => none)))))), (q_3, .inl (cJ, 9, .inr (.inr (.inr (.inr (fun _ => none)))))), (q_4, .inl (cJ, 3, .inr (.inr (.inr (.inr (va_up (va_up (va_up (fun _ => none) (0 : Int32).toNatClampNeg (some q_5)) (1 : Int32).toNatClampNeg (some q_6)) (2 : Int32).toNatClampNeg (some q_7))))))), (q_5, .inl (cI, 0, .inl (fun _ => 0))), (q_6, .inl (cI, 0, .inl (fun _ => 0))), (q_7, .inl (cI, 0, .inl (fun _ => 0)))] := hD
  refine va_put (D := (dC, dI)) (ci := 6) (v := .ref q_4) (ty := (.array (.array .int))) (C := RX6) (T := TX6) (N := 12) hx hb hts (fun w h => tb_in (inX6 w h)) tyX6 tyX6_ok nmX6 hown hK hP hD hS 0 rfl rfl 8 (by decide) (hts _ (tb_in q_fl_X6_21)) (fun _ h9 => h9) rfl (by decide +kernel) rfl rfl (Nat.le_of_ble_eq_true rfl) dX6_init_53 (fun H locs hP hD hS => ?_)
  have hP : va_P (dC, dI) cls [(o, .inr (6, [.int 0, .int 0, .int 0, .int 0, .int 0, .ref q_1, .ref q_2, .ref q_3, .ref q_4, .int 0, .null, .long 0])), (q_1, .inl (cJ, 12, .inr (.inr (.inr (.inr (fun _ => none)))))), (q_2, .inl (cJ, 3, .inr (.inr (.inr (.inr (fun _ => none)))))), (q_3, .inl (cJ, 9, .inr (.inr (.inr (.inr (fun _ => none)))))), (q_4, .inl (cJ, 3, .inr (.inr (.inr (.inr (va_up (va_up (va_up (fun _ => none) (0 : Int32).toNatClampNeg (some q_5)) (1 : Int32).toNatClampNeg (some q_6)) (2 : Int32).toNatClampNeg (some q_7))))))), (q_5, .inl (cI, 0, .inl (fun _ => 0))), (q_6, .inl (cI, 0, .inl (fun _ => 0))), (q_7, .inl (cI, 0, .inl (fun _ => 0)))] H := hP
  have hD : va_D A [(o, .inr (6, [.int 0, .int 0, .int 0, .int 0, .int 0, .ref q_1, .ref q_2, .ref q_3, .ref q_4, .int 0, .null, .long 0])), (q_1, .inl (cJ, 12, .inr (.inr (.inr (.inr (fun _ => none)))))), (q_2, .inl (cJ, 3, .inr (.inr (.inr (.inr (fun _ => none)))))), (q_3, .inl (cJ, 9, .inr (.inr (.inr (.inr (fun _ => none)))))), (q_4, .inl (cJ, 3, .inr (.inr (.inr (.inr (va_up (va_up (va_up (fun _ => none) (0 : Int32).toNatClampNeg (some q_5)) (1 : Int32).toNatClampNeg (some q_6)) (2 : Int32).toNatClampNeg (some q_7))))))), (q_5, .inl (cI, 0, .inl (fun _ => 0))), (q_6, .inl (cI, 0, .inl (fun _ => 0))), (q_7, .inl (cI, 0, .inl (fun _ => 0)))] := hD
  refine W.widen (k := 7) (n := 27) (Nat.le_of_ble_eq_true rfl) (Nat.le_of_ble_eq_true rfl) ?_
  have hP := hP.sub (ws' := [(o, .inr (6, [.int 0, .int 0, .int 0, .int 0, .int 0, .ref q_1, .ref q_2, .ref q_3, .ref q_4, .int 0, .null, .long 0])), (q_1, .inl (cJ, 12, .inr (.inr (.inr (.inr (fun _ => none))))))]) [0, 1] rfl
  have hD := hD.sub (ws' := [(o, .inr (6, [.int 0, .int 0, .int 0, .int 0, .int 0, .ref q_1, .ref q_2, .ref q_3, .ref q_4, .int 0, .null, .long 0])), (q_1, .inl (cJ, 12, .inr (.inr (.inr (.inr (fun _ => none))))))]) [0, 1] (by decide) rfl
  have hP9 := hP
  have hD9 := hD
  exact W.vret hx hb hr (fun t9 ht9 hW9 => ⟨⟨(adr [q_1, q_2, q_3, q_4]), rfl, trivial, by rw [ht9]; exact hP9, va_K.moved hW9.alike hK, hD9⟩, hS.F ht9⟩) hS.2.2 dX6_init_56
set_option maxHeartbeats 4000000 in
set_option maxRecDepth 100000 in
theorem c_X6_is (l : Launch) (x y z : Int32) : Met l yX6_is (Cond.code yX6_is cX6_is 3 (some .boolean) :: TB) ({ frames := 0, cells := 0, slots := 0, locals := 0 } : Room) (va_Pc [.int x, .int y, .int z] (fun _ => True)) (vp_Si (fun r => r = b01 (!outF x y z))) 0 0 (fun _ => False) := by
  refine Met.ofW (cc := cX6_is) (maxL := 3) (ret := (some .boolean)) (by decide) rfl ?_
  intro p e s m args below meth c s₁ B hml hv
  obtain ⟨rfl, -⟩ := hv
  have hx := B.exec
  have hb := B.bytes
  have hr := B.returns
  have hts := atoms_spec (ws := (Cond.code yX6_is cX6_is 3 (some .boolean) :: TB)) B.pre
  have hown : s.vm.findClass RX6 = some m.cls := findClass_of_methodNamed B.named
  have hlocks := B.notSynchronized
  have hl := lv_entry ([.int x, .int y, .int z]) (n := 3) (Nat.le_of_ble_eq_true rfl)
  rw [lg_entry_eq]
  generalize (lg_sl ([.int x, .int y, .int z]) ++ List.replicate (3 - (lg_sl ([.int x, .int y, .int z])).length) Slot.unset).toArray = ls at hl ⊢
  have hl : lv_has ls 3 [(0, .int x), (1, .int y), (2, .int z)] := hl
  refine lv_iload_n hx hb dX6_is_0 rfl (lv_at hl 0 rfl) ?_
  refine lv_iload_n hx hb dX6_is_1 rfl (lv_at hl 1 rfl) ?_
  refine lv_icmp_lt (tgt := 14) hx hb dX6_is_2 (by decide) (fun c_1 => ?_) (fun c_1 => ?_)
  · refine lv_iconst (v := 0) hx hb dX6_is_14 (by decide) ?_
    exact W.zret (v := 0) hx hb hr rfl (fun t9 ht9 hW9 => ⟨_, rfl, by simp [b01, outF, c_1]; try exact Int32.not_lt.mp c_1, ht9⟩) (fun _ h9 => absurd h9 List.not_mem_nil) dX6_is_15
  · refine lv_iload_n hx hb dX6_is_5 rfl (lv_at hl 0 rfl) ?_
    refine lv_iload_n hx hb dX6_is_6 rfl (lv_at hl 2 rfl) ?_
    refine lv_icmp_gt (tgt := 14) hx hb dX6_is_7 (by decide) (fun c_2 => ?_) (fun c_2 => ?_)
    · refine lv_iconst (v := 0) hx hb dX6_is_14 (by decide) ?_
      exact W.zret (v := 0) hx hb hr rfl (fun t9 ht9 hW9 => ⟨_, rfl, by simp [b01, outF, c_1, c_2]; try exact Int32.not_lt.mp c_2, ht9⟩) (fun _ h9 => absurd h9 List.not_mem_nil) dX6_is_15
    · refine lv_iconst (v := 1) hx hb dX6_is_10 (by decide) ?_
      refine lv_goto (tgt := 15) hx hb dX6_is_11 (by decide) ?_
      exact W.zret (v := 1) hx hb hr rfl (fun t9 ht9 hW9 => ⟨_, rfl, by simp [b01, outF, c_1, c_2]; try exact Int32.not_lt.mp c_2, ht9⟩) (fun _ h9 => absurd h9 List.not_mem_nil) dX6_is_15
set_option maxHeartbeats 4000000 in
set_option maxRecDepth 100000 in
theorem c_X6_isPlace (l : Launch) (dC : Nat → ClassId) (dI : Nat → Nat → Nat) (cI cV cJ cL : ClassId) (M a0 a1 a2 a3 : Nat) (th ck mo : Int32) (bp : Value) (sm : Int64) (x : Int32) (sz : Nat) : Met l yX6_isPlace (Cond.code yX6_isPlace cX6_isPlace 2 (some .boolean) :: TB) ({ frames := 1, cells := 0, slots := 0, locals := 24 } : Room) (PW [.ref M, .int x] (dC, dI) [(M, .inr (6, [.int th, .int 0, .int 0, .int 0, .int ck, .ref a0, .ref a1, .ref a2, .ref a3, .int mo, bp, .long sm]))] (TYP cI cV cJ cL) sz) (va_Qi (fun (r : Int32) (_ : Unit) => r = 0) (QB (dC, dI) (fun (_ : Unit) => [(M, .inr (6, [.int th, .int 0, .int 0, .int 0, .int ck, .ref a0, .ref a1, .ref a2, .ref a3, .int mo, bp, .long sm]))]) (TYP cI cV cJ cL) (va_A [(M, .inr (6, [.int th, .int 0, .int 0, .int 0, .int ck, .ref a0, .ref a1, .ref a2, .ref a3, .int mo, bp, .long sm]))] sz)) (va_A [(M, .inr (6, [.int th, .int 0, .int 0, .int 0, .int ck, .ref a0, .ref a1, .ref a2, .ref a3, .int mo, bp, .long sm]))] sz)) 0 0 (va_A [(M, .inr (6, [.int th, .int 0, .int 0, .int 0, .int ck, .ref a0, .ref a1, .ref a2, .ref a3, .int mo, bp, .long sm]))] sz) := by
  refine Met.ofW (cc := cX6_isPlace) (maxL := 2) (ret := (some .boolean)) (by decide) rfl ?_
  intro p e s m args below meth c s₁ B hml hv
  obtain ⟨rfl, hsz, hP, hK, hD0, hN⟩ := hv
  have hx := B.exec
  have hb := B.bytes
  have hr := B.returns
  have hts := atoms_spec (ws := (Cond.code yX6_isPlace cX6_isPlace 2 (some .boolean) :: TB)) B.pre
  have hown : s.vm.findClass RX6 = some m.cls := findClass_of_methodNamed B.named
  have hlocks := B.notSynchronized
  subst hsz
  have hD := hD0.self (sz := s.heap.size)
  generalize hAe : va_A [(M, .inr (6, [.int th, .int 0, .int 0, .int 0, .int ck, .ref a0, .ref a1, .ref a2, .ref a3, .int mo, bp, .long sm]))] s.heap.size = A at hD ⊢
  have hA : ∀ q : Nat, s.heap.size ≤ q → A q := fun q h => by rw [← hAe]; exact Or.inr h
  have hS : va_S A s.heap s.heap [] := va_S.rf
  have hl := lv_entry ([.ref M, .int x]) (n := 2) (Nat.le_of_ble_eq_true rfl)
  rw [lg_entry_eq]
  generalize (lg_sl ([.ref M, .int x]) ++ List.replicate (2 - (lg_sl ([.ref M, .int x])).length) Slot.unset).toArray = ls at hl ⊢
  have hl : lv_has ls 2 [(0, .ref M), (1, .int x)] := hl
  refine lv_iload_n hx hb dX6_isPlace_0 rfl (lv_at hl 1 rfl) ?_
  refine lv_iconst (v := 0) hx hb dX6_isPlace_1 (by decide) ?_
  refine lv_aload_n hx hb dX6_isPlace_2 rfl (lv_at hl 0 rfl) ?_
  refine va_get (D := (dC, dI)) (ci := 6) (v := .int 0) (C := RX6) (T := TX6) (N := 12) hx hb hts (fun w h => tb_in (inX6 w h)) hown hK hP 0 rfl rfl 1 (by decide) (hts _ (tb_in q_fl_X6_28)) (fun _ h9 => h9) rfl dX6_isPlace_3 ?_
  refine lv_iconst (v := 1) hx hb dX6_isPlace_6 (by decide) ?_
  refine lv_isub hx hb dX6_isPlace_7 ?_
  refine k_st1 (y := (-1)) (by decide) ?_
  refine k_Ti [.int x, .int 0, .int ((-1))] ⟨hx, hb, hml, hown, hts⟩ (c_X6_is l x 0 (-1)) q_ml_X6_31 q_st_X6_is q_ini_X6 q_co_X6_is (n := 3) (by decide +kernel) rfl ⟨rfl, rfl⟩ ⟨Nat.le_of_ble_eq_true rfl, Nat.le_of_ble_eq_true rfl⟩ hl.1 rfl (Nat.le_of_ble_eq_true rfl) dX6_isPlace_8 ⟨Nat.le_of_ble_eq_true rfl, Nat.le_of_ble_eq_true rfl⟩ (fun r_1 hr_1 => ?_)
  subst hr_1
  rw [z_none]
  refine k_st1 (y := 0) rfl ?_
  refine W.widen (k := 0) (n := 0) (Nat.le_of_ble_eq_true rfl) (Nat.le_of_ble_eq_true rfl) ?_
  have hP9 := hP
  have hD9 := hD
  exact W.zret (v := 0) hx hb hr rfl (fun t9 ht9 hW9 => ⟨⟨_, (), rfl, rfl, by rw [ht9]; exact hP9, va_K.moved hW9.alike hK, hD9⟩, hS.F ht9⟩) hS.2.2 dX6_isPlace_11
set_option maxHeartbeats 4000000 in
set_option maxRecDepth 100000 in
theorem c_X6_isVehicle (l : Launch) (dC : Nat → ClassId) (dI : Nat → Nat → Nat) (cI cV cJ cL : ClassId) (M a0 a1 a2 a3 : Nat) (th ck mo : Int32) (bp : Value) (sm : Int64) (x : Int32) (sz : Nat) : Met l yX6_isVehicle (Cond.code yX6_isVehicle cX6_isVehicle 2 (some .boolean) :: TB) ({ frames := 1, cells := 0, slots := 0, locals := 24 } : Room) (PW [.ref M, .int x] (dC, dI) [(M, .inr (6, [.int th, .int 0, .int 0, .int 0, .int ck, .ref a0, .ref a1, .ref a2, .ref a3, .int mo, bp, .long sm]))] (TYP cI cV cJ cL) sz) (va_Qi (fun (r : Int32) (_ : Unit) => r = 0) (QB (dC, dI) (fun (_ : Unit) => [(M, .inr (6, [.int th, .int 0, .int 0, .int 0, .int ck, .ref a0, .ref a1, .ref a2, .ref a3, .int mo, bp, .long sm]))]) (TYP cI cV cJ cL) (va_A [(M, .inr (6, [.int th, .int 0, .int 0, .int 0, .int ck, .ref a0, .ref a1, .ref a2, .ref a3, .int mo, bp, .long sm]))] sz)) (va_A [(M, .inr (6, [.int th, .int 0, .int 0, .int 0, .int ck, .ref a0, .ref a1, .ref a2, .ref a3, .int mo, bp, .long sm]))] sz)) 0 0 (va_A [(M, .inr (6, [.int th, .int 0, .int 0, .int 0, .int ck, .ref a0, .ref a1, .ref a2, .ref a3, .int mo, bp, .long sm]))] sz) := by
  refine Met.ofW (cc := cX6_isVehicle) (maxL := 2) (ret := (some .boolean)) (by decide) rfl ?_
  intro p e s m args below meth c s₁ B hml hv
  obtain ⟨rfl, hsz, hP, hK, hD0, hN⟩ := hv
  have hx := B.exec
  have hb := B.bytes
  have hr := B.returns
  have hts := atoms_spec (ws := (Cond.code yX6_isVehicle cX6_isVehicle 2 (some .boolean) :: TB)) B.pre
  have hown : s.vm.findClass RX6 = some m.cls := findClass_of_methodNamed B.named
  have hlocks := B.notSynchronized
  subst hsz
  have hD := hD0.self (sz := s.heap.size)
  generalize hAe : va_A [(M, .inr (6, [.int th, .int 0, .int 0, .int 0, .int ck, .ref a0, .ref a1, .ref a2, .ref a3, .int mo, bp, .long sm]))] s.heap.size = A at hD ⊢
  have hA : ∀ q : Nat, s.heap.size ≤ q → A q := fun q h => by rw [← hAe]; exact Or.inr h
  have hS : va_S A s.heap s.heap [] := va_S.rf
  have hl := lv_entry ([.ref M, .int x]) (n := 2) (Nat.le_of_ble_eq_true rfl)
  rw [lg_entry_eq]
  generalize (lg_sl ([.ref M, .int x]) ++ List.replicate (2 - (lg_sl ([.ref M, .int x])).length) Slot.unset).toArray = ls at hl ⊢
  have hl : lv_has ls 2 [(0, .ref M), (1, .int x)] := hl
  refine lv_iload_n hx hb dX6_isVehicle_0 rfl (lv_at hl 1 rfl) ?_
  refine lv_iconst (v := 0) hx hb dX6_isVehicle_1 (by decide) ?_
  refine lv_aload_n hx hb dX6_isVehicle_2 rfl (lv_at hl 0 rfl) ?_
  refine va_get (D := (dC, dI)) (ci := 6) (v := .int 0) (C := RX6) (T := TX6) (N := 12) hx hb hts (fun w h => tb_in (inX6 w h)) hown hK hP 0 rfl rfl 2 (by decide) (hts _ (tb_in q_fl_X6_35)) (fun _ h9 => h9) rfl dX6_isVehicle_3 ?_
  refine lv_iconst (v := 1) hx hb dX6_isVehicle_6 (by decide) ?_
  refine lv_isub hx hb dX6_isVehicle_7 ?_
  refine k_st1 (y := (-1)) (by decide) ?_
  refine k_Ti [.int x, .int 0, .int ((-1))] ⟨hx, hb, hml, hown, hts⟩ (c_X6_is l x 0 (-1)) q_ml_X6_31 q_st_X6_is q_ini_X6 q_co_X6_is (n := 3) (by decide +kernel) rfl ⟨rfl, rfl⟩ ⟨Nat.le_of_ble_eq_true rfl, Nat.le_of_ble_eq_true rfl⟩ hl.1 rfl (Nat.le_of_ble_eq_true rfl) dX6_isVehicle_8 ⟨Nat.le_of_ble_eq_true rfl, Nat.le_of_ble_eq_true rfl⟩ (fun r_1 hr_1 => ?_)
  subst hr_1
  rw [z_none]
  refine k_st1 (y := 0) rfl ?_
  refine W.widen (k := 0) (n := 0) (Nat.le_of_ble_eq_true rfl) (Nat.le_of_ble_eq_true rfl) ?_
  have hP9 := hP
  have hD9 := hD
  exact W.zret (v := 0) hx hb hr rfl (fun t9 ht9 hW9 => ⟨⟨_, (), rfl, rfl, by rw [ht9]; exact hP9, va_K.moved hW9.alike hK, hD9⟩, hS.F ht9⟩) hS.2.2 dX6_isVehicle_11
set_option maxHeartbeats 4000000 in
set_option maxRecDepth 100000 in
theorem c_X6_isJob (l : Launch) (dC : Nat → ClassId) (dI : Nat → Nat → Nat) (cI cV cJ cL : ClassId) (M a0 a1 a2 a3 : Nat) (th ck mo : Int32) (bp : Value) (sm : Int64) (x : Int32) (sz : Nat) : Met l yX6_isJob (Cond.code yX6_isJob cX6_isJob 2 (some .boolean) :: TB) ({ frames := 1, cells := 0, slots := 0, locals := 24 } : Room) (PW [.ref M, .int x] (dC, dI) [(M, .inr (6, [.int th, .int 0, .int 0, .int 0, .int ck, .ref a0, .ref a1, .ref a2, .ref a3, .int mo, bp, .long sm]))] (TYP cI cV cJ cL) sz) (va_Qi (fun (r : Int32) (_ : Unit) => r = 0) (QB (dC, dI) (fun (_ : Unit) => [(M, .inr (6, [.int th, .int 0, .int 0, .int 0, .int ck, .ref a0, .ref a1, .ref a2, .ref a3, .int mo, bp, .long sm]))]) (TYP cI cV cJ cL) (va_A [(M, .inr (6, [.int th, .int 0, .int 0, .int 0, .int ck, .ref a0, .ref a1, .ref a2, .ref a3, .int mo, bp, .long sm]))] sz)) (va_A [(M, .inr (6, [.int th, .int 0, .int 0, .int 0, .int ck, .ref a0, .ref a1, .ref a2, .ref a3, .int mo, bp, .long sm]))] sz)) 0 0 (va_A [(M, .inr (6, [.int th, .int 0, .int 0, .int 0, .int ck, .ref a0, .ref a1, .ref a2, .ref a3, .int mo, bp, .long sm]))] sz) := by
  refine Met.ofW (cc := cX6_isJob) (maxL := 2) (ret := (some .boolean)) (by decide) rfl ?_
  intro p e s m args below meth c s₁ B hml hv
  obtain ⟨rfl, hsz, hP, hK, hD0, hN⟩ := hv
  have hx := B.exec
  have hb := B.bytes
  have hr := B.returns
  have hts := atoms_spec (ws := (Cond.code yX6_isJob cX6_isJob 2 (some .boolean) :: TB)) B.pre
  have hown : s.vm.findClass RX6 = some m.cls := findClass_of_methodNamed B.named
  have hlocks := B.notSynchronized
  subst hsz
  have hD := hD0.self (sz := s.heap.size)
  generalize hAe : va_A [(M, .inr (6, [.int th, .int 0, .int 0, .int 0, .int ck, .ref a0, .ref a1, .ref a2, .ref a3, .int mo, bp, .long sm]))] s.heap.size = A at hD ⊢
  have hA : ∀ q : Nat, s.heap.size ≤ q → A q := fun q h => by rw [← hAe]; exact Or.inr h
  have hS : va_S A s.heap s.heap [] := va_S.rf
  have hl := lv_entry ([.ref M, .int x]) (n := 2) (Nat.le_of_ble_eq_true rfl)
  rw [lg_entry_eq]
  generalize (lg_sl ([.ref M, .int x]) ++ List.replicate (2 - (lg_sl ([.ref M, .int x])).length) Slot.unset).toArray = ls at hl ⊢
  have hl : lv_has ls 2 [(0, .ref M), (1, .int x)] := hl
  refine lv_iload_n hx hb dX6_isJob_0 rfl (lv_at hl 1 rfl) ?_
  refine lv_iconst (v := 0) hx hb dX6_isJob_1 (by decide) ?_
  refine lv_aload_n hx hb dX6_isJob_2 rfl (lv_at hl 0 rfl) ?_
  refine va_get (D := (dC, dI)) (ci := 6) (v := .int 0) (C := RX6) (T := TX6) (N := 12) hx hb hts (fun w h => tb_in (inX6 w h)) hown hK hP 0 rfl rfl 3 (by decide) (hts _ (tb_in q_fl_X6_38)) (fun _ h9 => h9) rfl dX6_isJob_3 ?_
  refine lv_iconst (v := 1) hx hb dX6_isJob_6 (by decide) ?_
  refine lv_isub hx hb dX6_isJob_7 ?_
  refine k_st1 (y := (-1)) (by decide) ?_
  refine k_Ti [.int x, .int 0, .int ((-1))] ⟨hx, hb, hml, hown, hts⟩ (c_X6_is l x 0 (-1)) q_ml_X6_31 q_st_X6_is q_ini_X6 q_co_X6_is (n := 3) (by decide +kernel) rfl ⟨rfl, rfl⟩ ⟨Nat.le_of_ble_eq_true rfl, Nat.le_of_ble_eq_true rfl⟩ hl.1 rfl (Nat.le_of_ble_eq_true rfl) dX6_isJob_8 ⟨Nat.le_of_ble_eq_true rfl, Nat.le_of_ble_eq_true rfl⟩ (fun r_1 hr_1 => ?_)
  subst hr_1
  rw [z_none]
  refine k_st1 (y := 0) rfl ?_
  refine W.widen (k := 0) (n := 0) (Nat.le_of_ble_eq_true rfl) (Nat.le_of_ble_eq_true rfl) ?_
  have hP9 := hP
  have hD9 := hD
  exact W.zret (v := 0) hx hb hr rfl (fun t9 ht9 hW9 => ⟨⟨_, (), rfl, rfl, by rw [ht9]; exact hP9, va_K.moved hW9.alike hK, hD9⟩, hS.F ht9⟩) hS.2.2 dX6_isJob_11
set_option maxHeartbeats 4000000 in
set_option maxRecDepth 100000 in
theorem c_X6_thrown (l : Launch) (dC : Nat → ClassId) (dI : Nat → Nat → Nat) (cI cV cJ cL : ClassId) (M a0 a1 a2 a3 : Nat) (th ck mo : Int32) (bp : Value) (sm : Int64) (pl : Int32) (sz : Nat) : Met l yX6_thrown (Cond.code yX6_thrown cX6_thrown 1 (some .int) :: TB) ({ frames := 1, cells := 0, slots := 0, locals := 24 } : Room) (PW [.ref M] (dC, dI) [(M, .inr (6, [.int th, .int pl, .int 0, .int 0, .int ck, .ref a0, .ref a1, .ref a2, .ref a3, .int mo, bp, .long sm]))] (TYP cI cV cJ cL) sz) (va_Qi (fun (r : Int32) (_ : Unit) => r = th) (QB (dC, dI) (fun (_ : Unit) => []) (TYP cI cV cJ cL) (va_A [(M, .inr (6, [.int th, .int pl, .int 0, .int 0, .int ck, .ref a0, .ref a1, .ref a2, .ref a3, .int mo, bp, .long sm]))] sz)) (va_A [(M, .inr (6, [.int th, .int pl, .int 0, .int 0, .int ck, .ref a0, .ref a1, .ref a2, .ref a3, .int mo, bp, .long sm]))] sz)) 0 0 (va_A [(M, .inr (6, [.int th, .int pl, .int 0, .int 0, .int ck, .ref a0, .ref a1, .ref a2, .ref a3, .int mo, bp, .long sm]))] sz) := by
  refine Met.ofW (cc := cX6_thrown) (maxL := 1) (ret := (some .int)) (by decide) rfl ?_
  intro p e s m args below meth c s₁ B hml hv
  obtain ⟨rfl, hsz, hP, hK, hD0, hN⟩ := hv
  have hx := B.exec
  have hb := B.bytes
  have hr := B.returns
  have hts := atoms_spec (ws := (Cond.code yX6_thrown cX6_thrown 1 (some .int) :: TB)) B.pre
  have hown : s.vm.findClass RX6 = some m.cls := findClass_of_methodNamed B.named
  have hlocks := B.notSynchronized
  subst hsz
  have hD := hD0.self (sz := s.heap.size)
  generalize hAe : va_A [(M, .inr (6, [.int th, .int pl, .int 0, .int 0, .int ck, .ref a0, .ref a1, .ref a2, .ref a3, .int mo, bp, .long sm]))] s.heap.size = A at hD ⊢
  have hA : ∀ q : Nat, s.heap.size ≤ q → A q := fun q h => by rw [← hAe]; exact Or.inr h
  have hS : va_S A s.heap s.heap [] := va_S.rf
  have hl := lv_entry ([.ref M]) (n := 1) (Nat.le_of_ble_eq_true rfl)
  rw [lg_entry_eq]
  generalize (lg_sl ([.ref M]) ++ List.replicate (1 - (lg_sl ([.ref M])).length) Slot.unset).toArray = ls at hl ⊢
  have hl : lv_has ls 1 [(0, .ref M)] := hl
  refine lv_aload_n hx hb dX6_thrown_0 rfl (lv_at hl 0 rfl) ?_
  refine va_get (D := (dC, dI)) (ci := 6) (v := .int th) (C := RX6) (T := TX6) (N := 12) hx hb hts (fun w h => tb_in (inX6 w h)) hown hK hP 0 rfl rfl 0 (by decide) (hts _ (tb_in q_fl_X6_24)) (fun _ h9 => h9) rfl dX6_thrown_1 ?_
  refine W.widen (k := 0) (n := 0) (Nat.le_of_ble_eq_true rfl) (Nat.le_of_ble_eq_true rfl) ?_
  have hP := hP.sub (ws' := []) [] rfl
  have hD := hD.sub (ws' := []) [] (by decide) rfl
  have hP9 := hP
  have hD9 := hD
  exact W.iret (v := th) hx hb hr (fun t9 ht9 hW9 => ⟨⟨_, (), rfl, rfl, by rw [ht9]; exact hP9, va_K.moved hW9.alike hK, hD9⟩, hS.F ht9⟩) hS.2.2 dX6_thrown_4
set_option maxHeartbeats 4000000 in
set_option maxRecDepth 100000 in
theorem c_X6_refuse (l : Launch) (dC : Nat → ClassId) (dI : Nat → Nat → Nat) (cI cV cJ cL : ClassId) (M a0 a1 a2 a3 : Nat) (th ck mo : Int32) (bp : Value) (sm : Int64) (n : Int32) (sz : Nat) : Met l yX6_refuse (Cond.code yX6_refuse cX6_refuse 2 (some .int) :: TB) ({ frames := 1, cells := 0, slots := 0, locals := 24 } : Room) (PW [.ref M, .int n] (dC, dI) [(M, .inr (6, [.int th, .int 0, .int 0, .int 0, .int ck, .ref a0, .ref a1, .ref a2, .ref a3, .int mo, bp, .long sm]))] (TYP cI cV cJ cL) sz) (va_Qi (fun (r : Int32) (_ : Unit) => r = 0) (QB (dC, dI) (fun (_ : Unit) => [(M, .inr (6, [.int n, .int 0, .int 0, .int 0, .int ck, .ref a0, .ref a1, .ref a2, .ref a3, .int mo, bp, .long sm]))]) (TYP cI cV cJ cL) (va_A [(M, .inr (6, [.int th, .int 0, .int 0, .int 0, .int ck, .ref a0, .ref a1, .ref a2, .ref a3, .int mo, bp, .long sm]))] sz)) (va_A [(M, .inr (6, [.int th, .int 0, .int 0, .int 0, .int ck, .ref a0, .ref a1, .ref a2, .ref a3, .int mo, bp, .long sm]))] sz)) 0 0 (va_A [(M, .inr (6, [.int th, .int 0, .int 0, .int 0, .int ck, .ref a0, .ref a1, .ref a2, .ref a3, .int mo, bp, .long sm]))] sz) := by
  refine Met.ofW (cc := cX6_refuse) (maxL := 2) (ret := (some .int)) (by decide) rfl ?_
  intro p e s m args below meth c s₁ B hml hv
  obtain ⟨rfl, hsz, hP, hK, hD0, hN⟩ := hv
  have hx := B.exec
  have hb := B.bytes
  have hr := B.returns
  have hts := atoms_spec (ws := (Cond.code yX6_refuse cX6_refuse 2 (some .int) :: TB)) B.pre
  have hown : s.vm.findClass RX6 = some m.cls := findClass_of_methodNamed B.named
  have hlocks := B.notSynchronized
  subst hsz
  have hD := hD0.self (sz := s.heap.size)
  generalize hAe : va_A [(M, .inr (6, [.int th, .int 0, .int 0, .int 0, .int ck, .ref a0, .ref a1, .ref a2, .ref a3, .int mo, bp, .long sm]))] s.heap.size = A at hD ⊢
  have hA : ∀ q : Nat, s.heap.size ≤ q → A q := fun q h => by rw [← hAe]; exact Or.inr h
  have hS : va_S A s.heap s.heap [] := va_S.rf
  have hl := lv_entry ([.ref M, .int n]) (n := 2) (Nat.le_of_ble_eq_true rfl)
  rw [lg_entry_eq]
  generalize (lg_sl ([.ref M, .int n]) ++ List.replicate (2 - (lg_sl ([.ref M, .int n])).length) Slot.unset).toArray = ls at hl ⊢
  have hl : lv_has ls 2 [(0, .ref M), (1, .int n)] := hl
  refine lv_aload_n hx hb dX6_refuse_0 rfl (lv_at hl 0 rfl) ?_
  refine lv_iload_n hx hb dX6_refuse_1 rfl (lv_at hl 1 rfl) ?_
  refine va_put (D := (dC, dI)) (ci := 6) (v := .int n) (ty := .int) (C := RX6) (T := TX6) (N := 12) hx hb hts (fun w h => tb_in (inX6 w h)) tyX6 tyX6_ok nmX6 hown hK hP hD hS 0 rfl rfl 0 (by decide) (hts _ (tb_in q_fl_X6_24)) (fun _ h9 => h9) rfl (by decide +kernel) rfl rfl (Nat.le_of_ble_eq_true rfl) dX6_refuse_2 (fun H locs hP hD hS => ?_)
  have hP : va_P (dC, dI) cls [(M, .inr (6, [.int n, .int 0, .int 0, .int 0, .int ck, .ref a0, .ref a1, .ref a2, .ref a3, .int mo, bp, .long sm]))] H := hP
  have hD : va_D A [(M, .inr (6, [.int n, .int 0, .int 0, .int 0, .int ck, .ref a0, .ref a1, .ref a2, .ref a3, .int mo, bp, .long sm]))] := hD
  refine lv_iconst (v := 0) hx hb dX6_refuse_5 (by decide) ?_
  refine W.widen (k := 0) (n := 0) (Nat.le_of_ble_eq_true rfl) (Nat.le_of_ble_eq_true rfl) ?_
  have hP9 := hP
  have hD9 := hD
  exact W.iret (v := 0) hx hb hr (fun t9 ht9 hW9 => ⟨⟨_, (), rfl, rfl, by rw [ht9]; exact hP9, va_K.moved hW9.alike hK, hD9⟩, hS.F ht9⟩) hS.2.2 dX6_refuse_6
set_option maxHeartbeats 4000000 in
set_option maxRecDepth 100000 in
theorem c_X6_lookAtMoves (l : Launch) (dC : Nat → ClassId) (dI : Nat → Nat → Nat) (cI cV cJ cL : ClassId) (M a0 a1 a2 a3 : Nat) (th ck mo : Int32) (bp : Value) (sm : Int64)  (sz : Nat) : Met l yX6_lookAtMoves (Cond.code yX6_lookAtMoves cX6_lookAtMoves 8 none :: TB) ({ frames := 1, cells := 0, slots := 0, locals := 24 } : Room) (PW [.ref M] (dC, dI) [(M, .inr (6, [.int th, .int 0, .int 0, .int 0, .int ck, .ref a0, .ref a1, .ref a2, .ref a3, .int mo, bp, .long sm]))] (TYP cI cV cJ cL) sz) (va_Qv (fun (_ : Unit) => True) (QB (dC, dI) (fun (_ : Unit) => [(M, .inr (6, [.int th, .int 0, .int 0, .int 0, .int ck, .ref a0, .ref a1, .ref a2, .ref a3, .int mo, bp, .long sm]))]) (TYP cI cV cJ cL) (va_A [(M, .inr (6, [.int th, .int 0, .int 0, .int 0, .int ck, .ref a0, .ref a1, .ref a2, .ref a3, .int mo, bp, .long sm]))] sz)) (va_A [(M, .inr (6, [.int th, .int 0, .int 0, .int 0, .int ck, .ref a0, .ref a1, .ref a2, .ref a3, .int mo, bp, .long sm]))] sz)) 0 0 (va_A [(M, .inr (6, [.int th, .int 0, .int 0, .int 0, .int ck, .ref a0, .ref a1, .ref a2, .ref a3, .int mo, bp, .long sm]))] sz) := by
  refine Met.ofW (cc := cX6_lookAtMoves) (maxL := 8) (ret := none) (by decide) rfl ?_
  intro p e s m args below meth c s₁ B hml hv
  obtain ⟨rfl, hsz, hP, hK, hD0, hN⟩ := hv
  have hx := B.exec
  have hb := B.bytes
  have hr := B.returns
  have hts := atoms_spec (ws := (Cond.code yX6_lookAtMoves cX6_lookAtMoves 8 none :: TB)) B.pre
  have hown : s.vm.findClass RX6 = some m.cls := findClass_of_methodNamed B.named
  have hlocks := B.notSynchronized
  subst hsz
  have hD := hD0.self (sz := s.heap.size)
  generalize hAe : va_A [(M, .inr (6, [.int th, .int 0, .int 0, .int 0, .int ck, .ref a0, .ref a1, .ref a2, .ref a3, .int mo, bp, .long sm]))] s.heap.size = A at hD ⊢
  have hA : ∀ q : Nat, s.heap.size ≤ q → A q := fun q h => by rw [← hAe]; exact Or.inr h
  have hS : va_S A s.heap s.heap [] := va_S.rf
  have hl := lv_entry ([.ref M]) (n := 8) (Nat.le_of_ble_eq_true rfl)
  rw [lg_entry_eq]
  generalize (lg_sl ([.ref M]) ++ List.replicate (8 - (lg_sl ([.ref M])).length) Slot.unset).toArray = ls at hl ⊢
  have hl : lv_has ls 8 [(0, .ref M)] := hl
  refine lv_iconst (v := 0) hx hb dX6_lookAtMoves_0 (by decide) ?_
  refine lv_istore_n (lv' := [(1, .int 0), (0, .ref M)]) hx hb dX6_lookAtMoves_1 rfl hl (by decide) rfl (fun ls hl => ?_)
  refine lv_iload_n hx hb dX6_lookAtMoves_2 rfl (lv_at hl 0 rfl) ?_
  refine lv_aload_n hx hb dX6_lookAtMoves_3 rfl (lv_at hl 1 rfl) ?_
  refine va_get (D := (dC, dI)) (ci := 6) (v := .int 0) (C := RX6) (T := TX6) (N := 12) hx hb hts (fun w h => tb_in (inX6 w h)) hown hK hP 0 rfl rfl 3 (by decide) (hts _ (tb_in q_fl_X6_38)) (fun _ h9 => h9) rfl dX6_lookAtMoves_4 ?_
  refine lv_icmp_ge (tgt := 143) hx hb dX6_lookAtMoves_7 (by decide) (fun c_1 => ?_) (fun c_1 => ?_)
  rotate_left
  · first | exact absurd c_1 (by decide) | exact absurd (by decide) c_1
  refine W.widen (k := 0) (n := 0) (Nat.le_of_ble_eq_true rfl) (Nat.le_of_ble_eq_true rfl) ?_
  have hP9 := hP
  have hD9 := hD
  exact W.vret hx hb hr (fun t9 ht9 hW9 => ⟨⟨(), rfl, trivial, by rw [ht9]; exact hP9, va_K.moved hW9.alike hK, hD9⟩, hS.F ht9⟩) hS.2.2 dX6_lookAtMoves_143
set_option maxHeartbeats 4000000 in
set_option maxRecDepth 100000 in
theorem c_X6_lookAtSwaps (l : Launch) (dC : Nat → ClassId) (dI : Nat → Nat → Nat) (cI cV cJ cL : ClassId) (M a0 a1 a2 a3 : Nat) (th ck mo : Int32) (bp : Value) (sm : Int64)  (sz : Nat) : Met l yX6_lookAtSwaps (Cond.code yX6_lookAtSwaps cX6_lookAtSwaps 5 none :: TB) ({ frames := 1, cells := 0, slots := 0, locals := 24 } : Room) (PW [.ref M] (dC, dI) [(M, .inr (6, [.int th, .int 0, .int 0, .int 0, .int ck, .ref a0, .ref a1, .ref a2, .ref a3, .int mo, bp, .long sm]))] (TYP cI cV cJ cL) sz) (va_Qv (fun (_ : Unit) => True) (QB (dC, dI) (fun (_ : Unit) => [(M, .inr (6, [.int th, .int 0, .int 0, .int 0, .int ck, .ref a0, .ref a1, .ref a2, .ref a3, .int mo, bp, .long sm]))]) (TYP cI cV cJ cL) (va_A [(M, .inr (6, [.int th, .int 0, .int 0, .int 0, .int ck, .ref a0, .ref a1, .ref a2, .ref a3, .int mo, bp, .long sm]))] sz)) (va_A [(M, .inr (6, [.int th, .int 0, .int 0, .int 0, .int ck, .ref a0, .ref a1, .ref a2, .ref a3, .int mo, bp, .long sm]))] sz)) 0 0 (va_A [(M, .inr (6, [.int th, .int 0, .int 0, .int 0, .int ck, .ref a0, .ref a1, .ref a2, .ref a3, .int mo, bp, .long sm]))] sz) := by
  refine Met.ofW (cc := cX6_lookAtSwaps) (maxL := 5) (ret := none) (by decide) rfl ?_
  intro p e s m args below meth c s₁ B hml hv
  obtain ⟨rfl, hsz, hP, hK, hD0, hN⟩ := hv
  have hx := B.exec
  have hb := B.bytes
  have hr := B.returns
  have hts := atoms_spec (ws := (Cond.code yX6_lookAtSwaps cX6_lookAtSwaps 5 none :: TB)) B.pre
  have hown : s.vm.findClass RX6 = some m.cls := findClass_of_methodNamed B.named
  have hlocks := B.notSynchronized
  subst hsz
  have hD := hD0.self (sz := s.heap.size)
  generalize hAe : va_A [(M, .inr (6, [.int th, .int 0, .int 0, .int 0, .int ck, .ref a0, .ref a1, .ref a2, .ref a3, .int mo, bp, .long sm]))] s.heap.size = A at hD ⊢
  have hA : ∀ q : Nat, s.heap.size ≤ q → A q := fun q h => by rw [← hAe]; exact Or.inr h
  have hS : va_S A s.heap s.heap [] := va_S.rf
  have hl := lv_entry ([.ref M]) (n := 5) (Nat.le_of_ble_eq_true rfl)
  rw [lg_entry_eq]
  generalize (lg_sl ([.ref M]) ++ List.replicate (5 - (lg_sl ([.ref M])).length) Slot.unset).toArray = ls at hl ⊢
  have hl : lv_has ls 5 [(0, .ref M)] := hl
  refine lv_iconst (v := 0) hx hb dX6_lookAtSwaps_0 (by decide) ?_
  refine lv_istore_n (lv' := [(1, .int 0), (0, .ref M)]) hx hb dX6_lookAtSwaps_1 rfl hl (by decide) rfl (fun ls hl => ?_)
  refine lv_iload_n hx hb dX6_lookAtSwaps_2 rfl (lv_at hl 0 rfl) ?_
  refine lv_aload_n hx hb dX6_lookAtSwaps_3 rfl (lv_at hl 1 rfl) ?_
  refine va_get (D := (dC, dI)) (ci := 6) (v := .int 0) (C := RX6) (T := TX6) (N := 12) hx hb hts (fun w h => tb_in (inX6 w h)) hown hK hP 0 rfl rfl 3 (by decide) (hts _ (tb_in q_fl_X6_38)) (fun _ h9 => h9) rfl dX6_lookAtSwaps_4 ?_
  refine lv_icmp_ge (tgt := 104) hx hb dX6_lookAtSwaps_7 (by decide) (fun c_1 => ?_) (fun c_1 => ?_)
  rotate_left
  · first | exact absurd c_1 (by decide) | exact absurd (by decide) c_1
  refine W.widen (k := 0) (n := 0) (Nat.le_of_ble_eq_true rfl) (Nat.le_of_ble_eq_true rfl) ?_
  have hP9 := hP
  have hD9 := hD
  exact W.vret hx hb hr (fun t9 ht9 hW9 => ⟨⟨(), rfl, trivial, by rw [ht9]; exact hP9, va_K.moved hW9.alike hK, hD9⟩, hS.F ht9⟩) hS.2.2 dX6_lookAtSwaps_104
set_option maxHeartbeats 4000000 in
set_option maxRecDepth 100000 in
theorem c_X6_lookAtTurns (l : Launch) (dC : Nat → ClassId) (dI : Nat → Nat → Nat) (cI cV cJ cL : ClassId) (M a0 a1 a2 a3 : Nat) (th ck mo : Int32) (bp : Value) (sm : Int64)  (sz : Nat) : Met l yX6_lookAtTurns (Cond.code yX6_lookAtTurns cX6_lookAtTurns 6 none :: TB) ({ frames := 1, cells := 0, slots := 0, locals := 24 } : Room) (PW [.ref M] (dC, dI) [(M, .inr (6, [.int th, .int 0, .int 0, .int 0, .int ck, .ref a0, .ref a1, .ref a2, .ref a3, .int mo, bp, .long sm]))] (TYP cI cV cJ cL) sz) (va_Qv (fun (_ : Unit) => True) (QB (dC, dI) (fun (_ : Unit) => [(M, .inr (6, [.int th, .int 0, .int 0, .int 0, .int ck, .ref a0, .ref a1, .ref a2, .ref a3, .int mo, bp, .long sm]))]) (TYP cI cV cJ cL) (va_A [(M, .inr (6, [.int th, .int 0, .int 0, .int 0, .int ck, .ref a0, .ref a1, .ref a2, .ref a3, .int mo, bp, .long sm]))] sz)) (va_A [(M, .inr (6, [.int th, .int 0, .int 0, .int 0, .int ck, .ref a0, .ref a1, .ref a2, .ref a3, .int mo, bp, .long sm]))] sz)) 0 0 (va_A [(M, .inr (6, [.int th, .int 0, .int 0, .int 0, .int ck, .ref a0, .ref a1, .ref a2, .ref a3, .int mo, bp, .long sm]))] sz) := by
  refine Met.ofW (cc := cX6_lookAtTurns) (maxL := 6) (ret := none) (by decide) rfl ?_
  intro p e s m args below meth c s₁ B hml hv
  obtain ⟨rfl, hsz, hP, hK, hD0, hN⟩ := hv
  have hx := B.exec
  have hb := B.bytes
  have hr := B.returns
  have hts := atoms_spec (ws := (Cond.code yX6_lookAtTurns cX6_lookAtTurns 6 none :: TB)) B.pre
  have hown : s.vm.findClass RX6 = some m.cls := findClass_of_methodNamed B.named
  have hlocks := B.notSynchronized
  subst hsz
  have hD := hD0.self (sz := s.heap.size)
  generalize hAe : va_A [(M, .inr (6, [.int th, .int 0, .int 0, .int 0, .int ck, .ref a0, .ref a1, .ref a2, .ref a3, .int mo, bp, .long sm]))] s.heap.size = A at hD ⊢
  have hA : ∀ q : Nat, s.heap.size ≤ q → A q := fun q h => by rw [← hAe]; exact Or.inr h
  have hS : va_S A s.heap s.heap [] := va_S.rf
  have hl := lv_entry ([.ref M]) (n := 6) (Nat.le_of_ble_eq_true rfl)
  rw [lg_entry_eq]
  generalize (lg_sl ([.ref M]) ++ List.replicate (6 - (lg_sl ([.ref M])).length) Slot.unset).toArray = ls at hl ⊢
  have hl : lv_has ls 6 [(0, .ref M)] := hl
  refine lv_iconst (v := 0) hx hb dX6_lookAtTurns_0 (by decide) ?_
  refine lv_istore_n (lv' := [(1, .int 0), (0, .ref M)]) hx hb dX6_lookAtTurns_1 rfl hl (by decide) rfl (fun ls hl => ?_)
  refine lv_iload_n hx hb dX6_lookAtTurns_2 rfl (lv_at hl 0 rfl) ?_
  refine lv_aload_n hx hb dX6_lookAtTurns_3 rfl (lv_at hl 1 rfl) ?_
  refine va_get (D := (dC, dI)) (ci := 6) (v := .int 0) (C := RX6) (T := TX6) (N := 12) hx hb hts (fun w h => tb_in (inX6 w h)) hown hK hP 0 rfl rfl 2 (by decide) (hts _ (tb_in q_fl_X6_35)) (fun _ h9 => h9) rfl dX6_lookAtTurns_4 ?_
  refine lv_icmp_ge (tgt := 131) hx hb dX6_lookAtTurns_7 (by decide) (fun c_1 => ?_) (fun c_1 => ?_)
  rotate_left
  · first | exact absurd c_1 (by decide) | exact absurd (by decide) c_1
  refine W.widen (k := 0) (n := 0) (Nat.le_of_ble_eq_true rfl) (Nat.le_of_ble_eq_true rfl) ?_
  have hP9 := hP
  have hD9 := hD
  exact W.vret hx hb hr (fun t9 ht9 hW9 => ⟨⟨(), rfl, trivial, by rw [ht9]; exact hP9, va_K.moved hW9.alike hK, hD9⟩, hS.F ht9⟩) hS.2.2 dX6_lookAtTurns_131
set_option maxHeartbeats 4000000 in
set_option maxRecDepth 100000 in
theorem c_X6_lookAtEnds (l : Launch) (dC : Nat → ClassId) (dI : Nat → Nat → Nat) (cI cV cJ cL : ClassId) (M a0 a1 a2 a3 : Nat) (th ck mo : Int32) (bp : Value) (sm : Int64)  (sz : Nat) : Met l yX6_lookAtEnds (Cond.code yX6_lookAtEnds cX6_lookAtEnds 7 none :: TB) ({ frames := 1, cells := 0, slots := 0, locals := 24 } : Room) (PW [.ref M] (dC, dI) [(M, .inr (6, [.int th, .int 0, .int 0, .int 0, .int ck, .ref a0, .ref a1, .ref a2, .ref a3, .int mo, bp, .long sm]))] (TYP cI cV cJ cL) sz) (va_Qv (fun (_ : Unit) => True) (QB (dC, dI) (fun (_ : Unit) => [(M, .inr (6, [.int th, .int 0, .int 0, .int 0, .int ck, .ref a0, .ref a1, .ref a2, .ref a3, .int mo, bp, .long sm]))]) (TYP cI cV cJ cL) (va_A [(M, .inr (6, [.int th, .int 0, .int 0, .int 0, .int ck, .ref a0, .ref a1, .ref a2, .ref a3, .int mo, bp, .long sm]))] sz)) (va_A [(M, .inr (6, [.int th, .int 0, .int 0, .int 0, .int ck, .ref a0, .ref a1, .ref a2, .ref a3, .int mo, bp, .long sm]))] sz)) 0 0 (va_A [(M, .inr (6, [.int th, .int 0, .int 0, .int 0, .int ck, .ref a0, .ref a1, .ref a2, .ref a3, .int mo, bp, .long sm]))] sz) := by
  refine Met.ofW (cc := cX6_lookAtEnds) (maxL := 7) (ret := none) (by decide) rfl ?_
  intro p e s m args below meth c s₁ B hml hv
  obtain ⟨rfl, hsz, hP, hK, hD0, hN⟩ := hv
  have hx := B.exec
  have hb := B.bytes
  have hr := B.returns
  have hts := atoms_spec (ws := (Cond.code yX6_lookAtEnds cX6_lookAtEnds 7 none :: TB)) B.pre
  have hown : s.vm.findClass RX6 = some m.cls := findClass_of_methodNamed B.named
  have hlocks := B.notSynchronized
  subst hsz
  have hD := hD0.self (sz := s.heap.size)
  generalize hAe : va_A [(M, .inr (6, [.int th, .int 0, .int 0, .int 0, .int ck, .ref a0, .ref a1, .ref a2, .ref a3, .int mo, bp, .long sm]))] s.heap.size = A at hD ⊢
  have hA : ∀ q : Nat, s.heap.size ≤ q → A q := fun q h => by rw [← hAe]; exact Or.inr h
  have hS : va_S A s.heap s.heap [] := va_S.rf
  have hl := lv_entry ([.ref M]) (n := 7) (Nat.le_of_ble_eq_true rfl)
  rw [lg_entry_eq]
  generalize (lg_sl ([.ref M]) ++ List.replicate (7 - (lg_sl ([.ref M])).length) Slot.unset).toArray = ls at hl ⊢
  have hl : lv_has ls 7 [(0, .ref M)] := hl
  refine lv_iconst (v := 0) hx hb dX6_lookAtEnds_0 (by decide) ?_
  refine lv_istore_n (lv' := [(1, .int 0), (0, .ref M)]) hx hb dX6_lookAtEnds_1 rfl hl (by decide) rfl (fun ls hl => ?_)
  refine lv_iload_n hx hb dX6_lookAtEnds_2 rfl (lv_at hl 0 rfl) ?_
  refine lv_aload_n hx hb dX6_lookAtEnds_3 rfl (lv_at hl 1 rfl) ?_
  refine va_get (D := (dC, dI)) (ci := 6) (v := .int 0) (C := RX6) (T := TX6) (N := 12) hx hb hts (fun w h => tb_in (inX6 w h)) hown hK hP 0 rfl rfl 2 (by decide) (hts _ (tb_in q_fl_X6_35)) (fun _ h9 => h9) rfl dX6_lookAtEnds_4 ?_
  refine lv_icmp_ge (tgt := 160) hx hb dX6_lookAtEnds_7 (by decide) (fun c_1 => ?_) (fun c_1 => ?_)
  rotate_left
  · first | exact absurd c_1 (by decide) | exact absurd (by decide) c_1
  refine W.widen (k := 0) (n := 0) (Nat.le_of_ble_eq_true rfl) (Nat.le_of_ble_eq_true rfl) ?_
  have hP9 := hP
  have hD9 := hD
  exact W.vret hx hb hr (fun t9 ht9 hW9 => ⟨⟨(), rfl, trivial, by rw [ht9]; exact hP9, va_K.moved hW9.alike hK, hD9⟩, hS.F ht9⟩) hS.2.2 dX6_lookAtEnds_160
set_option maxHeartbeats 4000000 in
set_option maxRecDepth 100000 in
theorem c_X6_costOfRoutes (l : Launch) (dC : Nat → ClassId) (dI : Nat → Nat → Nat) (cI cV cJ cL : ClassId) (M a0 a1 a2 a3 : Nat) (th ck mo : Int32) (bp : Value) (sm : Int64) (x : Nat) (sz : Nat) : Met l yX6_costOfRoutes (Cond.code yX6_costOfRoutes cX6_costOfRoutes 4 (some .int) :: TB) ({ frames := 1, cells := 0, slots := 0, locals := 24 } : Room) (PW [.ref M, .ref x] (dC, dI) [(M, .inr (6, [.int th, .int 0, .int 0, .int 0, .int ck, .ref a0, .ref a1, .ref a2, .ref a3, .int mo, bp, .long sm]))] (TYP cI cV cJ cL) sz) (va_Qi (fun (r : Int32) (_ : Unit) => r = 0) (QB (dC, dI) (fun (_ : Unit) => [(M, .inr (6, [.int th, .int 0, .int 0, .int 0, .int ck, .ref a0, .ref a1, .ref a2, .ref a3, .int mo, bp, .long sm]))]) (TYP cI cV cJ cL) (va_A [(M, .inr (6, [.int th, .int 0, .int 0, .int 0, .int ck, .ref a0, .ref a1, .ref a2, .ref a3, .int mo, bp, .long sm]))] sz)) (va_A [(M, .inr (6, [.int th, .int 0, .int 0, .int 0, .int ck, .ref a0, .ref a1, .ref a2, .ref a3, .int mo, bp, .long sm]))] sz)) 0 0 (va_A [(M, .inr (6, [.int th, .int 0, .int 0, .int 0, .int ck, .ref a0, .ref a1, .ref a2, .ref a3, .int mo, bp, .long sm]))] sz) := by
  refine Met.ofW (cc := cX6_costOfRoutes) (maxL := 4) (ret := (some .int)) (by decide) rfl ?_
  intro p e s m args below meth c s₁ B hml hv
  obtain ⟨rfl, hsz, hP, hK, hD0, hN⟩ := hv
  have hx := B.exec
  have hb := B.bytes
  have hr := B.returns
  have hts := atoms_spec (ws := (Cond.code yX6_costOfRoutes cX6_costOfRoutes 4 (some .int) :: TB)) B.pre
  have hown : s.vm.findClass RX6 = some m.cls := findClass_of_methodNamed B.named
  have hlocks := B.notSynchronized
  subst hsz
  have hD := hD0.self (sz := s.heap.size)
  generalize hAe : va_A [(M, .inr (6, [.int th, .int 0, .int 0, .int 0, .int ck, .ref a0, .ref a1, .ref a2, .ref a3, .int mo, bp, .long sm]))] s.heap.size = A at hD ⊢
  have hA : ∀ q : Nat, s.heap.size ≤ q → A q := fun q h => by rw [← hAe]; exact Or.inr h
  have hS : va_S A s.heap s.heap [] := va_S.rf
  have hl := lv_entry ([.ref M, .ref x]) (n := 4) (Nat.le_of_ble_eq_true rfl)
  rw [lg_entry_eq]
  generalize (lg_sl ([.ref M, .ref x]) ++ List.replicate (4 - (lg_sl ([.ref M, .ref x])).length) Slot.unset).toArray = ls at hl ⊢
  have hl : lv_has ls 4 [(0, .ref M), (1, .ref x)] := hl
  refine lv_iconst (v := 0) hx hb dX6_costOfRoutes_0 (by decide) ?_
  refine lv_istore_n (lv' := [(2, .int 0), (0, .ref M), (1, .ref x)]) hx hb dX6_costOfRoutes_1 rfl hl (by decide) rfl (fun ls hl => ?_)
  refine lv_iconst (v := 0) hx hb dX6_costOfRoutes_2 (by decide) ?_
  refine lv_istore_n (lv' := [(3, .int 0), (2, .int 0), (0, .ref M), (1, .ref x)]) hx hb dX6_costOfRoutes_3 rfl hl (by decide) rfl (fun ls hl => ?_)
  refine lv_iload_n hx hb dX6_costOfRoutes_4 rfl (lv_at hl 0 rfl) ?_
  refine lv_aload_n hx hb dX6_costOfRoutes_5 rfl (lv_at hl 2 rfl) ?_
  refine va_get (D := (dC, dI)) (ci := 6) (v := .int 0) (C := RX6) (T := TX6) (N := 12) hx hb hts (fun w h => tb_in (inX6 w h)) hown hK hP 0 rfl rfl 2 (by decide) (hts _ (tb_in q_fl_X6_35)) (fun _ h9 => h9) rfl dX6_costOfRoutes_6 ?_
  refine lv_icmp_ge (tgt := 29) hx hb dX6_costOfRoutes_9 (by decide) (fun c_1 => ?_) (fun c_1 => ?_)
  rotate_left
  · first | exact absurd c_1 (by decide) | exact absurd (by decide) c_1
  refine lv_iload_n hx hb dX6_costOfRoutes_29 rfl (lv_at hl 1 rfl) ?_
  refine W.widen (k := 0) (n := 0) (Nat.le_of_ble_eq_true rfl) (Nat.le_of_ble_eq_true rfl) ?_
  have hP9 := hP
  have hD9 := hD
  exact W.iret (v := 0) hx hb hr (fun t9 ht9 hW9 => ⟨⟨_, (), rfl, rfl, by rw [ht9]; exact hP9, va_K.moved hW9.alike hK, hD9⟩, hS.F ht9⟩) hS.2.2 dX6_costOfRoutes_30
set_option maxHeartbeats 4000000 in
set_option maxRecDepth 100000 in
theorem c_X6_costAll (l : Launch) (dC : Nat → ClassId) (dI : Nat → Nat → Nat) (cI cV cJ cL : ClassId) (M a0 a1 a2 a3 : Nat) (th ck mo : Int32) (bp : Value) (sm : Int64)  (sz : Nat) : Met l yX6_costAll (Cond.code yX6_costAll cX6_costAll 3 (some .int) :: TB) ({ frames := 2, cells := 0, slots := 0, locals := 47 } : Room) (PW [.ref M] (dC, dI) [(M, .inr (6, [.int th, .int 0, .int 0, .int 0, .int ck, .ref a0, .ref a1, .ref a2, .ref a3, .int mo, bp, .long sm]))] (TYP cI cV cJ cL) sz) (va_Qi (fun (r : Int32) (_ : Unit) => r = 0) (QB (dC, dI) (fun (_ : Unit) => [(M, .inr (6, [.int th, .int 0, .int 0, .int 0, .int ck, .ref a0, .ref a1, .ref a2, .ref a3, .int mo, bp, .long sm]))]) (TYP cI cV cJ cL) (va_A [(M, .inr (6, [.int th, .int 0, .int 0, .int 0, .int ck, .ref a0, .ref a1, .ref a2, .ref a3, .int mo, bp, .long sm]))] sz)) (va_A [(M, .inr (6, [.int th, .int 0, .int 0, .int 0, .int ck, .ref a0, .ref a1, .ref a2, .ref a3, .int mo, bp, .long sm]))] sz)) 0 0 (va_A [(M, .inr (6, [.int th, .int 0, .int 0, .int 0, .int ck, .ref a0, .ref a1, .ref a2, .ref a3, .int mo, bp, .long sm]))] sz) := by
  refine Met.ofW (cc := cX6_costAll) (maxL := 3) (ret := (some .int)) (by decide) rfl ?_
  intro p e s m args below meth c s₁ B hml hv
  obtain ⟨rfl, hsz, hP, hK, hD0, hN⟩ := hv
  have hx := B.exec
  have hb := B.bytes
  have hr := B.returns
  have hts := atoms_spec (ws := (Cond.code yX6_costAll cX6_costAll 3 (some .int) :: TB)) B.pre
  have hown : s.vm.findClass RX6 = some m.cls := findClass_of_methodNamed B.named
  have hlocks := B.notSynchronized
  subst hsz
  have hD := hD0.self (sz := s.heap.size)
  generalize hAe : va_A [(M, .inr (6, [.int th, .int 0, .int 0, .int 0, .int ck, .ref a0, .ref a1, .ref a2, .ref a3, .int mo, bp, .long sm]))] s.heap.size = A at hD ⊢
  have hA : ∀ q : Nat, s.heap.size ≤ q → A q := fun q h => by rw [← hAe]; exact Or.inr h
  have hS : va_S A s.heap s.heap [] := va_S.rf
  have hl := lv_entry ([.ref M]) (n := 3) (Nat.le_of_ble_eq_true rfl)
  rw [lg_entry_eq]
  generalize (lg_sl ([.ref M]) ++ List.replicate (3 - (lg_sl ([.ref M])).length) Slot.unset).toArray = ls at hl ⊢
  have hl : lv_has ls 3 [(0, .ref M)] := hl
  refine lv_aload_n hx hb dX6_costAll_0 rfl (lv_at hl 0 rfl) ?_
  refine lv_aload_n hx hb dX6_costAll_1 rfl (lv_at hl 0 rfl) ?_
  refine va_get (D := (dC, dI)) (ci := 6) (v := .ref a3) (C := RX6) (T := TX6) (N := 12) hx hb hts (fun w h => tb_in (inX6 w h)) hown hK hP 0 rfl rfl 8 (by decide) (hts _ (tb_in q_fl_X6_21)) (fun _ h9 => h9) rfl dX6_costAll_2 ?_
  refine n_Vi (ci := 6) (q0 := 0) (wc := [(M, .inr (6, [.int th, .int 0, .int 0, .int 0, .int ck, .ref a0, .ref a1, .ref a2, .ref a3, .int mo, bp, .long sm]))]) (wr := []) [.ref a3] [0] [] ⟨hx, hb, hml, hown, hts⟩ (fun sz => c_X6_costOfRoutes l dC dI cI cV cJ cL M a0 a1 a2 a3 th ck mo (bp) sm a3 sz) q_ml_X6_119 q_im_X6_costOfRoutes q_se_X6_costOfRoutes q_ini_X6 q_co_X6_costOfRoutes (n := 1) (by decide +kernel) rfl ⟨rfl, rfl⟩ ⟨Nat.le_of_ble_eq_true rfl, Nat.le_of_ble_eq_true rfl⟩ hP hD hS hA hK hN rfl rfl (by decide) (by decide) (by decide) rfl rfl rfl hl.1 rfl (Nat.le_of_ble_eq_true rfl) dX6_costAll_5 ⟨Nat.le_of_ble_eq_true rfl, Nat.le_of_ble_eq_true rfl⟩ (fun r_2 u_1 H locs hu_1 hP hD hS => ?_)
  have hP : va_P (dC, dI) cls [(M, .inr (6, [.int th, .int 0, .int 0, .int 0, .int ck, .ref a0, .ref a1, .ref a2, .ref a3, .int mo, bp, .long sm]))] H := hP
  have hD : va_D A [(M, .inr (6, [.int th, .int 0, .int 0, .int 0, .int ck, .ref a0, .ref a1, .ref a2, .ref a3, .int mo, bp, .long sm]))] := hD
  obtain rfl := hu_1
  refine lv_istore_n (lv' := [(1, .int 0), (0, .ref M)]) hx hb dX6_costAll_8 rfl hl (by decide) rfl (fun ls hl => ?_)
  refine lv_iconst (v := 0) hx hb dX6_costAll_9 (by decide) ?_
  refine lv_istore_n (lv' := [(2, .int 0), (1, .int 0), (0, .ref M)]) hx hb dX6_costAll_10 rfl hl (by decide) rfl (fun ls hl => ?_)
  refine lv_iload_n hx hb dX6_costAll_11 rfl (lv_at hl 0 rfl) ?_
  refine lv_aload_n hx hb dX6_costAll_12 rfl (lv_at hl 2 rfl) ?_
  refine va_get (D := (dC, dI)) (ci := 6) (v := .int 0) (C := RX6) (T := TX6) (N := 12) hx hb hts (fun w h => tb_in (inX6 w h)) hown hK hP 0 rfl rfl 3 (by decide) (hts _ (tb_in q_fl_X6_38)) (fun _ h9 => h9) rfl dX6_costAll_13 ?_
  refine lv_icmp_ge (tgt := 49) hx hb dX6_costAll_16 (by decide) (fun c_3 => ?_) (fun c_3 => ?_)
  rotate_left
  · first | exact absurd c_3 (by decide) | exact absurd (by decide) c_3
  refine lv_iload_n hx hb dX6_costAll_49 rfl (lv_at hl 1 rfl) ?_
  refine W.widen (k := 0) (n := 0) (Nat.le_of_ble_eq_true rfl) (Nat.le_of_ble_eq_true rfl) ?_
  have hP9 := hP
  have hD9 := hD
  exact W.iret (v := 0) hx hb hr (fun t9 ht9 hW9 => ⟨⟨_, (), rfl, rfl, by rw [ht9]; exact hP9, va_K.moved hW9.alike hK, hD9⟩, hS.F ht9⟩) hS.2.2 dX6_costAll_50
set_option maxHeartbeats 4000000 in
set_option maxRecDepth 100000 in
theorem c_X6_areRight (l : Launch) (dC : Nat → ClassId) (dI : Nat → Nat → Nat) (cI cV cJ cL : ClassId) (M a0 a1 a2 a3 : Nat) (th ck mo : Int32) (bp : Value) (sm : Int64)  (sz : Nat) : Met l yX6_areRight (Cond.code yX6_areRight cX6_areRight 3 (some .boolean) :: TB) ({ frames := 1, cells := 0, slots := 0, locals := 24 } : Room) (PW [.ref M] (dC, dI) [(M, .inr (6, [.int th, .int 0, .int 0, .int 0, .int ck, .ref a0, .ref a1, .ref a2, .ref a3, .int mo, bp, .long sm]))] (TYP cI cV cJ cL) sz) (va_Qi (fun (r : Int32) (_ : Unit) => r = 1) (QB (dC, dI) (fun (_ : Unit) => [(M, .inr (6, [.int th, .int 0, .int 0, .int 0, .int ck, .ref a0, .ref a1, .ref a2, .ref a3, .int mo, bp, .long sm]))]) (TYP cI cV cJ cL) (va_A [(M, .inr (6, [.int th, .int 0, .int 0, .int 0, .int ck, .ref a0, .ref a1, .ref a2, .ref a3, .int mo, bp, .long sm]))] sz)) (va_A [(M, .inr (6, [.int th, .int 0, .int 0, .int 0, .int ck, .ref a0, .ref a1, .ref a2, .ref a3, .int mo, bp, .long sm]))] sz)) 0 0 (va_A [(M, .inr (6, [.int th, .int 0, .int 0, .int 0, .int ck, .ref a0, .ref a1, .ref a2, .ref a3, .int mo, bp, .long sm]))] sz) := by
  refine Met.ofW (cc := cX6_areRight) (maxL := 3) (ret := (some .boolean)) (by decide) rfl ?_
  intro p e s m args below meth c s₁ B hml hv
  obtain ⟨rfl, hsz, hP, hK, hD0, hN⟩ := hv
  have hx := B.exec
  have hb := B.bytes
  have hr := B.returns
  have hts := atoms_spec (ws := (Cond.code yX6_areRight cX6_areRight 3 (some .boolean) :: TB)) B.pre
  have hown : s.vm.findClass RX6 = some m.cls := findClass_of_methodNamed B.named
  have hlocks := B.notSynchronized
  subst hsz
  have hD := hD0.self (sz := s.heap.size)
  generalize hAe : va_A [(M, .inr (6, [.int th, .int 0, .int 0, .int 0, .int ck, .ref a0, .ref a1, .ref a2, .ref a3, .int mo, bp, .long sm]))] s.heap.size = A at hD ⊢
  have hA : ∀ q : Nat, s.heap.size ≤ q → A q := fun q h => by rw [← hAe]; exact Or.inr h
  have hS : va_S A s.heap s.heap [] := va_S.rf
  have hl := lv_entry ([.ref M]) (n := 3) (Nat.le_of_ble_eq_true rfl)
  rw [lg_entry_eq]
  generalize (lg_sl ([.ref M]) ++ List.replicate (3 - (lg_sl ([.ref M])).length) Slot.unset).toArray = ls at hl ⊢
  have hl : lv_has ls 3 [(0, .ref M)] := hl
  refine lv_iconst (v := 1) hx hb dX6_areRight_0 (by decide) ?_
  refine lv_istore_n (lv' := [(1, .int 1), (0, .ref M)]) hx hb dX6_areRight_1 rfl hl (by decide) rfl (fun ls hl => ?_)
  refine lv_iconst (v := 0) hx hb dX6_areRight_2 (by decide) ?_
  refine lv_istore_n (lv' := [(2, .int 0), (1, .int 1), (0, .ref M)]) hx hb dX6_areRight_3 rfl hl (by decide) rfl (fun ls hl => ?_)
  refine lv_iload_n hx hb dX6_areRight_4 rfl (lv_at hl 0 rfl) ?_
  refine lv_aload_n hx hb dX6_areRight_5 rfl (lv_at hl 2 rfl) ?_
  refine va_get (D := (dC, dI)) (ci := 6) (v := .int 0) (C := RX6) (T := TX6) (N := 12) hx hb hts (fun w h => tb_in (inX6 w h)) hown hK hP 0 rfl rfl 2 (by decide) (hts _ (tb_in q_fl_X6_35)) (fun _ h9 => h9) rfl dX6_areRight_6 ?_
  refine lv_icmp_ge (tgt := 32) hx hb dX6_areRight_9 (by decide) (fun c_1 => ?_) (fun c_1 => ?_)
  rotate_left
  · first | exact absurd c_1 (by decide) | exact absurd (by decide) c_1
  refine lv_iload_n hx hb dX6_areRight_32 rfl (lv_at hl 1 rfl) ?_
  refine W.widen (k := 0) (n := 0) (Nat.le_of_ble_eq_true rfl) (Nat.le_of_ble_eq_true rfl) ?_
  have hP9 := hP
  have hD9 := hD
  exact W.zret (v := 1) hx hb hr rfl (fun t9 ht9 hW9 => ⟨⟨_, (), rfl, rfl, by rw [ht9]; exact hP9, va_K.moved hW9.alike hK, hD9⟩, hS.F ht9⟩) hS.2.2 dX6_areRight_33
set_option maxHeartbeats 4000000 in
set_option maxRecDepth 100000 in
theorem c_X6_setNow (l : Launch) (dC : Nat → ClassId) (dI : Nat → Nat → Nat) (cI cV cJ cL : ClassId) (M a0 a1 a2 a3 : Nat) (th ck mo : Int32) (bp : Value) (sm : Int64)  (sz : Nat) : Met l yX6_setNow (Cond.code yX6_setNow cX6_setNow 3 (some .int) :: TB) ({ frames := 1, cells := 0, slots := 0, locals := 24 } : Room) (PW [.ref M] (dC, dI) [(M, .inr (6, [.int th, .int 0, .int 0, .int 0, .int ck, .ref a0, .ref a1, .ref a2, .ref a3, .int mo, bp, .long sm]))] (TYP cI cV cJ cL) sz) (va_Qi (fun (r : Int32) (_ : Unit) => r = 0) (QB (dC, dI) (fun (_ : Unit) => [(M, .inr (6, [.int th, .int 0, .int 0, .int 0, .int ck, .ref a0, .ref a1, .ref a2, .ref a3, .int mo, bp, .long sm]))]) (TYP cI cV cJ cL) (va_A [(M, .inr (6, [.int th, .int 0, .int 0, .int 0, .int ck, .ref a0, .ref a1, .ref a2, .ref a3, .int mo, bp, .long sm]))] sz)) (va_A [(M, .inr (6, [.int th, .int 0, .int 0, .int 0, .int ck, .ref a0, .ref a1, .ref a2, .ref a3, .int mo, bp, .long sm]))] sz)) 0 0 (va_A [(M, .inr (6, [.int th, .int 0, .int 0, .int 0, .int ck, .ref a0, .ref a1, .ref a2, .ref a3, .int mo, bp, .long sm]))] sz) := by
  refine Met.ofW (cc := cX6_setNow) (maxL := 3) (ret := (some .int)) (by decide) rfl ?_
  intro p e s m args below meth c s₁ B hml hv
  obtain ⟨rfl, hsz, hP, hK, hD0, hN⟩ := hv
  have hx := B.exec
  have hb := B.bytes
  have hr := B.returns
  have hts := atoms_spec (ws := (Cond.code yX6_setNow cX6_setNow 3 (some .int) :: TB)) B.pre
  have hown : s.vm.findClass RX6 = some m.cls := findClass_of_methodNamed B.named
  have hlocks := B.notSynchronized
  subst hsz
  have hD := hD0.self (sz := s.heap.size)
  generalize hAe : va_A [(M, .inr (6, [.int th, .int 0, .int 0, .int 0, .int ck, .ref a0, .ref a1, .ref a2, .ref a3, .int mo, bp, .long sm]))] s.heap.size = A at hD ⊢
  have hA : ∀ q : Nat, s.heap.size ≤ q → A q := fun q h => by rw [← hAe]; exact Or.inr h
  have hS : va_S A s.heap s.heap [] := va_S.rf
  have hl := lv_entry ([.ref M]) (n := 3) (Nat.le_of_ble_eq_true rfl)
  rw [lg_entry_eq]
  generalize (lg_sl ([.ref M]) ++ List.replicate (3 - (lg_sl ([.ref M])).length) Slot.unset).toArray = ls at hl ⊢
  have hl : lv_has ls 3 [(0, .ref M)] := hl
  refine lv_iconst (v := 0) hx hb dX6_setNow_0 (by decide) ?_
  refine lv_istore_n (lv' := [(1, .int 0), (0, .ref M)]) hx hb dX6_setNow_1 rfl hl (by decide) rfl (fun ls hl => ?_)
  refine lv_iconst (v := 0) hx hb dX6_setNow_2 (by decide) ?_
  refine lv_istore_n (lv' := [(2, .int 0), (1, .int 0), (0, .ref M)]) hx hb dX6_setNow_3 rfl hl (by decide) rfl (fun ls hl => ?_)
  refine lv_iload_n hx hb dX6_setNow_4 rfl (lv_at hl 0 rfl) ?_
  refine lv_aload_n hx hb dX6_setNow_5 rfl (lv_at hl 2 rfl) ?_
  refine va_get (D := (dC, dI)) (ci := 6) (v := .int 0) (C := RX6) (T := TX6) (N := 12) hx hb hts (fun w h => tb_in (inX6 w h)) hown hK hP 0 rfl rfl 2 (by decide) (hts _ (tb_in q_fl_X6_35)) (fun _ h9 => h9) rfl dX6_setNow_6 ?_
  refine lv_icmp_ge (tgt := 32) hx hb dX6_setNow_9 (by decide) (fun c_1 => ?_) (fun c_1 => ?_)
  rotate_left
  · first | exact absurd c_1 (by decide) | exact absurd (by decide) c_1
  refine lv_iload_n hx hb dX6_setNow_32 rfl (lv_at hl 1 rfl) ?_
  refine W.widen (k := 0) (n := 0) (Nat.le_of_ble_eq_true rfl) (Nat.le_of_ble_eq_true rfl) ?_
  have hP9 := hP
  have hD9 := hD
  exact W.iret (v := 0) hx hb hr (fun t9 ht9 hW9 => ⟨⟨_, (), rfl, rfl, by rw [ht9]; exact hP9, va_K.moved hW9.alike hK, hD9⟩, hS.F ht9⟩) hS.2.2 dX6_setNow_33
set_option maxHeartbeats 4000000 in
set_option maxRecDepth 100000 in
theorem c_X6_gainOf (l : Launch) (dC : Nat → ClassId) (dI : Nat → Nat → Nat) (cI cV cJ cL : ClassId) (M a0 a1 a2 a3 : Nat) (th ck mo : Int32) (bp : Value) (sm : Int64) (x : Int32) (sz : Nat) : Met l yX6_gainOf (Cond.code yX6_gainOf cX6_gainOf 2 (some .int) :: TB) ({ frames := 2, cells := 0, slots := 0, locals := 51 } : Room) (PW [.ref M, .int x] (dC, dI) [(M, .inr (6, [.int th, .int 0, .int 0, .int 0, .int ck, .ref a0, .ref a1, .ref a2, .ref a3, .int mo, bp, .long sm]))] (TYP cI cV cJ cL) sz) (va_Qi (fun (r : Int32) (_ : Unit) => r = 0) (QB (dC, dI) (fun (_ : Unit) => [(M, .inr (6, [.int th, .int 0, .int 0, .int 0, .int ck, .ref a0, .ref a1, .ref a2, .ref a3, .int 0, .ref a3, .long sm]))]) (TYP cI cV cJ cL) (va_A [(M, .inr (6, [.int th, .int 0, .int 0, .int 0, .int ck, .ref a0, .ref a1, .ref a2, .ref a3, .int mo, bp, .long sm]))] sz)) (va_A [(M, .inr (6, [.int th, .int 0, .int 0, .int 0, .int ck, .ref a0, .ref a1, .ref a2, .ref a3, .int mo, bp, .long sm]))] sz)) 0 0 (va_A [(M, .inr (6, [.int th, .int 0, .int 0, .int 0, .int ck, .ref a0, .ref a1, .ref a2, .ref a3, .int mo, bp, .long sm]))] sz) := by
  refine Met.ofW (cc := cX6_gainOf) (maxL := 2) (ret := (some .int)) (by decide) rfl ?_
  intro p e s m args below meth c s₁ B hml hv
  obtain ⟨rfl, hsz, hP, hK, hD0, hN⟩ := hv
  have hx := B.exec
  have hb := B.bytes
  have hr := B.returns
  have hts := atoms_spec (ws := (Cond.code yX6_gainOf cX6_gainOf 2 (some .int) :: TB)) B.pre
  have hown : s.vm.findClass RX6 = some m.cls := findClass_of_methodNamed B.named
  have hlocks := B.notSynchronized
  subst hsz
  have hD := hD0.self (sz := s.heap.size)
  generalize hAe : va_A [(M, .inr (6, [.int th, .int 0, .int 0, .int 0, .int ck, .ref a0, .ref a1, .ref a2, .ref a3, .int mo, bp, .long sm]))] s.heap.size = A at hD ⊢
  have hA : ∀ q : Nat, s.heap.size ≤ q → A q := fun q h => by rw [← hAe]; exact Or.inr h
  have hS : va_S A s.heap s.heap [] := va_S.rf
  have hl := lv_entry ([.ref M, .int x]) (n := 2) (Nat.le_of_ble_eq_true rfl)
  rw [lg_entry_eq]
  generalize (lg_sl ([.ref M, .int x]) ++ List.replicate (2 - (lg_sl ([.ref M, .int x])).length) Slot.unset).toArray = ls at hl ⊢
  have hl : lv_has ls 2 [(0, .ref M), (1, .int x)] := hl
  refine lv_aload_n hx hb dX6_gainOf_0 rfl (lv_at hl 0 rfl) ?_
  refine lv_iconst (v := 0) hx hb dX6_gainOf_1 (by decide) ?_
  refine va_put (D := (dC, dI)) (ci := 6) (v := .int 0) (ty := .int) (C := RX6) (T := TX6) (N := 12) hx hb hts (fun w h => tb_in (inX6 w h)) tyX6 tyX6_ok nmX6 hown hK hP hD hS 0 rfl rfl 9 (by decide) (hts _ (tb_in q_fl_X6_123)) (fun _ h9 => h9) rfl (by decide +kernel) rfl rfl (Nat.le_of_ble_eq_true rfl) dX6_gainOf_2 (fun H locs hP hD hS => ?_)
  have hP : va_P (dC, dI) cls [(M, .inr (6, [.int th, .int 0, .int 0, .int 0, .int ck, .ref a0, .ref a1, .ref a2, .ref a3, .int 0, bp, .long sm]))] H := hP
  have hD : va_D A [(M, .inr (6, [.int th, .int 0, .int 0, .int 0, .int ck, .ref a0, .ref a1, .ref a2, .ref a3, .int 0, bp, .long sm]))] := hD
  refine lv_aload_n hx hb dX6_gainOf_5 rfl (lv_at hl 0 rfl) ?_
  refine lv_aload_n hx hb dX6_gainOf_6 rfl (lv_at hl 0 rfl) ?_
  refine va_get (D := (dC, dI)) (ci := 6) (v := .ref a3) (C := RX6) (T := TX6) (N := 12) hx hb hts (fun w h => tb_in (inX6 w h)) hown hK hP 0 rfl rfl 8 (by decide) (hts _ (tb_in q_fl_X6_21)) (fun _ h9 => h9) rfl dX6_gainOf_7 ?_
  refine va_put (D := (dC, dI)) (ci := 6) (v := .ref a3) (ty := (.array (.array .int))) (C := RX6) (T := TX6) (N := 12) hx hb hts (fun w h => tb_in (inX6 w h)) tyX6 tyX6_ok nmX6 hown hK hP hD hS 0 rfl rfl 10 (by decide) (hts _ (tb_in q_fl_X6_126)) (fun _ h9 => h9) rfl (by decide +kernel) rfl rfl (Nat.le_of_ble_eq_true rfl) dX6_gainOf_10 (fun H locs hP hD hS => ?_)
  have hP : va_P (dC, dI) cls [(M, .inr (6, [.int th, .int 0, .int 0, .int 0, .int ck, .ref a0, .ref a1, .ref a2, .ref a3, .int 0, .ref a3, .long sm]))] H := hP
  have hD : va_D A [(M, .inr (6, [.int th, .int 0, .int 0, .int 0, .int ck, .ref a0, .ref a1, .ref a2, .ref a3, .int 0, .ref a3, .long sm]))] := hD
  refine lv_iload_n hx hb dX6_gainOf_13 rfl (lv_at hl 1 rfl) ?_
  refine lv_if_ne (tgt := 24) hx hb dX6_gainOf_14 (by decide) (fun c_1 => ?_) (fun c_1 => ?_)
  · refine lv_iload_n hx hb dX6_gainOf_24 rfl (lv_at hl 1 rfl) ?_
    refine lv_iconst (v := 1) hx hb dX6_gainOf_25 (by decide) ?_
    refine lv_icmp_ne (tgt := 36) hx hb dX6_gainOf_26 (by decide) (fun c_2 => ?_) (fun c_2 => ?_)
    · refine lv_iload_n hx hb dX6_gainOf_36 rfl (lv_at hl 1 rfl) ?_
      refine lv_iconst (v := 2) hx hb dX6_gainOf_37 (by decide) ?_
      refine lv_icmp_ne (tgt := 48) hx hb dX6_gainOf_38 (by decide) (fun c_3 => ?_) (fun c_3 => ?_)
      · refine lv_aload_n hx hb dX6_gainOf_48 rfl (lv_at hl 0 rfl) ?_
        refine n_Vv (ci := 6) (q0 := 0) (wc := [(M, .inr (6, [.int th, .int 0, .int 0, .int 0, .int ck, .ref a0, .ref a1, .ref a2, .ref a3, .int 0, .ref a3, .long sm]))]) (wr := []) [] [0] [] ⟨hx, hb, hml, hown, hts⟩ (fun sz => c_X6_lookAtEnds l dC dI cI cV cJ cL M a0 a1 a2 a3 th ck 0 (.ref a3) sm  sz) q_ml_X6_165 q_im_X6_lookAtEnds q_se_X6_lookAtEnds q_ini_X6 q_co_X6_lookAtEnds (n := 0) (by decide +kernel) rfl ⟨rfl, rfl⟩ ⟨Nat.le_of_ble_eq_true rfl, Nat.le_of_ble_eq_true rfl⟩ hP hD hS hA hK hN rfl rfl (by decide) (by decide) (by decide) rfl rfl rfl hl.1 rfl (Nat.le_of_ble_eq_true rfl) dX6_gainOf_49 ⟨Nat.le_of_ble_eq_true rfl, Nat.le_of_ble_eq_true rfl⟩ (fun u_4 H locs hu_4 hP hD hS => ?_)
        have hP : va_P (dC, dI) cls [(M, .inr (6, [.int th, .int 0, .int 0, .int 0, .int ck, .ref a0, .ref a1, .ref a2, .ref a3, .int 0, .ref a3, .long sm]))] H := hP
        have hD : va_D A [(M, .inr (6, [.int th, .int 0, .int 0, .int 0, .int ck, .ref a0, .ref a1, .ref a2, .ref a3, .int 0, .ref a3, .long sm]))] := hD
        refine lv_aload_n hx hb dX6_gainOf_52 rfl (lv_at hl 0 rfl) ?_
        refine va_get (D := (dC, dI)) (ci := 6) (v := .int 0) (C := RX6) (T := TX6) (N := 12) hx hb hts (fun w h => tb_in (inX6 w h)) hown hK hP 0 rfl rfl 9 (by decide) (hts _ (tb_in q_fl_X6_123)) (fun _ h9 => h9) rfl dX6_gainOf_53 ?_
        refine W.widen (k := 0) (n := 0) (Nat.le_of_ble_eq_true rfl) (Nat.le_of_ble_eq_true rfl) ?_
        have hP9 := hP
        have hD9 := hD
        exact W.iret (v := 0) hx hb hr (fun t9 ht9 hW9 => ⟨⟨_, (), rfl, rfl, by rw [ht9]; exact hP9, va_K.moved hW9.alike hK, hD9⟩, hS.F ht9⟩) hS.2.2 dX6_gainOf_56
      · refine lv_aload_n hx hb dX6_gainOf_41 rfl (lv_at hl 0 rfl) ?_
        refine n_Vv (ci := 6) (q0 := 0) (wc := [(M, .inr (6, [.int th, .int 0, .int 0, .int 0, .int ck, .ref a0, .ref a1, .ref a2, .ref a3, .int 0, .ref a3, .long sm]))]) (wr := []) [] [0] [] ⟨hx, hb, hml, hown, hts⟩ (fun sz => c_X6_lookAtTurns l dC dI cI cV cJ cL M a0 a1 a2 a3 th ck 0 (.ref a3) sm  sz) q_ml_X6_162 q_im_X6_lookAtTurns q_se_X6_lookAtTurns q_ini_X6 q_co_X6_lookAtTurns (n := 0) (by decide +kernel) rfl ⟨rfl, rfl⟩ ⟨Nat.le_of_ble_eq_true rfl, Nat.le_of_ble_eq_true rfl⟩ hP hD hS hA hK hN rfl rfl (by decide) (by decide) (by decide) rfl rfl rfl hl.1 rfl (Nat.le_of_ble_eq_true rfl) dX6_gainOf_42 ⟨Nat.le_of_ble_eq_true rfl, Nat.le_of_ble_eq_true rfl⟩ (fun u_5 H locs hu_5 hP hD hS => ?_)
        have hP : va_P (dC, dI) cls [(M, .inr (6, [.int th, .int 0, .int 0, .int 0, .int ck, .ref a0, .ref a1, .ref a2, .ref a3, .int 0, .ref a3, .long sm]))] H := hP
        have hD : va_D A [(M, .inr (6, [.int th, .int 0, .int 0, .int 0, .int ck, .ref a0, .ref a1, .ref a2, .ref a3, .int 0, .ref a3, .long sm]))] := hD
        refine lv_goto (tgt := 52) hx hb dX6_gainOf_45 (by decide) ?_
        refine lv_aload_n hx hb dX6_gainOf_52 rfl (lv_at hl 0 rfl) ?_
        refine va_get (D := (dC, dI)) (ci := 6) (v := .int 0) (C := RX6) (T := TX6) (N := 12) hx hb hts (fun w h => tb_in (inX6 w h)) hown hK hP 0 rfl rfl 9 (by decide) (hts _ (tb_in q_fl_X6_123)) (fun _ h9 => h9) rfl dX6_gainOf_53 ?_
        refine W.widen (k := 0) (n := 0) (Nat.le_of_ble_eq_true rfl) (Nat.le_of_ble_eq_true rfl) ?_
        have hP9 := hP
        have hD9 := hD
        exact W.iret (v := 0) hx hb hr (fun t9 ht9 hW9 => ⟨⟨_, (), rfl, rfl, by rw [ht9]; exact hP9, va_K.moved hW9.alike hK, hD9⟩, hS.F ht9⟩) hS.2.2 dX6_gainOf_56
    · refine lv_aload_n hx hb dX6_gainOf_29 rfl (lv_at hl 0 rfl) ?_
      refine n_Vv (ci := 6) (q0 := 0) (wc := [(M, .inr (6, [.int th, .int 0, .int 0, .int 0, .int ck, .ref a0, .ref a1, .ref a2, .ref a3, .int 0, .ref a3, .long sm]))]) (wr := []) [] [0] [] ⟨hx, hb, hml, hown, hts⟩ (fun sz => c_X6_lookAtSwaps l dC dI cI cV cJ cL M a0 a1 a2 a3 th ck 0 (.ref a3) sm  sz) q_ml_X6_159 q_im_X6_lookAtSwaps q_se_X6_lookAtSwaps q_ini_X6 q_co_X6_lookAtSwaps (n := 0) (by decide +kernel) rfl ⟨rfl, rfl⟩ ⟨Nat.le_of_ble_eq_true rfl, Nat.le_of_ble_eq_true rfl⟩ hP hD hS hA hK hN rfl rfl (by decide) (by decide) (by decide) rfl rfl rfl hl.1 rfl (Nat.le_of_ble_eq_true rfl) dX6_gainOf_30 ⟨Nat.le_of_ble_eq_true rfl, Nat.le_of_ble_eq_true rfl⟩ (fun u_6 H locs hu_6 hP hD hS => ?_)
      have hP : va_P (dC, dI) cls [(M, .inr (6, [.int th, .int 0, .int 0, .int 0, .int ck, .ref a0, .ref a1, .ref a2, .ref a3, .int 0, .ref a3, .long sm]))] H := hP
      have hD : va_D A [(M, .inr (6, [.int th, .int 0, .int 0, .int 0, .int ck, .ref a0, .ref a1, .ref a2, .ref a3, .int 0, .ref a3, .long sm]))] := hD
      refine lv_goto (tgt := 52) hx hb dX6_gainOf_33 (by decide) ?_
      refine lv_aload_n hx hb dX6_gainOf_52 rfl (lv_at hl 0 rfl) ?_
      refine va_get (D := (dC, dI)) (ci := 6) (v := .int 0) (C := RX6) (T := TX6) (N := 12) hx hb hts (fun w h => tb_in (inX6 w h)) hown hK hP 0 rfl rfl 9 (by decide) (hts _ (tb_in q_fl_X6_123)) (fun _ h9 => h9) rfl dX6_gainOf_53 ?_
      refine W.widen (k := 0) (n := 0) (Nat.le_of_ble_eq_true rfl) (Nat.le_of_ble_eq_true rfl) ?_
      have hP9 := hP
      have hD9 := hD
      exact W.iret (v := 0) hx hb hr (fun t9 ht9 hW9 => ⟨⟨_, (), rfl, rfl, by rw [ht9]; exact hP9, va_K.moved hW9.alike hK, hD9⟩, hS.F ht9⟩) hS.2.2 dX6_gainOf_56
  · refine lv_aload_n hx hb dX6_gainOf_17 rfl (lv_at hl 0 rfl) ?_
    refine n_Vv (ci := 6) (q0 := 0) (wc := [(M, .inr (6, [.int th, .int 0, .int 0, .int 0, .int ck, .ref a0, .ref a1, .ref a2, .ref a3, .int 0, .ref a3, .long sm]))]) (wr := []) [] [0] [] ⟨hx, hb, hml, hown, hts⟩ (fun sz => c_X6_lookAtMoves l dC dI cI cV cJ cL M a0 a1 a2 a3 th ck 0 (.ref a3) sm  sz) q_ml_X6_156 q_im_X6_lookAtMoves q_se_X6_lookAtMoves q_ini_X6 q_co_X6_lookAtMoves (n := 0) (by decide +kernel) rfl ⟨rfl, rfl⟩ ⟨Nat.le_of_ble_eq_true rfl, Nat.le_of_ble_eq_true rfl⟩ hP hD hS hA hK hN rfl rfl (by decide) (by decide) (by decide) rfl rfl rfl hl.1 rfl (Nat.le_of_ble_eq_true rfl) dX6_gainOf_18 ⟨Nat.le_of_ble_eq_true rfl, Nat.le_of_ble_eq_true rfl⟩ (fun u_7 H locs hu_7 hP hD hS => ?_)
    have hP : va_P (dC, dI) cls [(M, .inr (6, [.int th, .int 0, .int 0, .int 0, .int ck, .ref a0, .ref a1, .ref a2, .ref a3, .int 0, .ref a3, .long sm]))] H := hP
    have hD : va_D A [(M, .inr (6, [.int th, .int 0, .int 0, .int 0, .int ck, .ref a0, .ref a1, .ref a2, .ref a3, .int 0, .ref a3, .long sm]))] := hD
    refine lv_goto (tgt := 52) hx hb dX6_gainOf_21 (by decide) ?_
    refine lv_aload_n hx hb dX6_gainOf_52 rfl (lv_at hl 0 rfl) ?_
    refine va_get (D := (dC, dI)) (ci := 6) (v := .int 0) (C := RX6) (T := TX6) (N := 12) hx hb hts (fun w h => tb_in (inX6 w h)) hown hK hP 0 rfl rfl 9 (by decide) (hts _ (tb_in q_fl_X6_123)) (fun _ h9 => h9) rfl dX6_gainOf_53 ?_
    refine W.widen (k := 0) (n := 0) (Nat.le_of_ble_eq_true rfl) (Nat.le_of_ble_eq_true rfl) ?_
    have hP9 := hP
    have hD9 := hD
    exact W.iret (v := 0) hx hb hr (fun t9 ht9 hW9 => ⟨⟨_, (), rfl, rfl, by rw [ht9]; exact hP9, va_K.moved hW9.alike hK, hD9⟩, hS.F ht9⟩) hS.2.2 dX6_gainOf_56
set_option maxHeartbeats 4000000 in
set_option maxRecDepth 100000 in
theorem c_X6_make (l : Launch) (dC : Nat → ClassId) (dI : Nat → Nat → Nat) (cI cV cJ cL : ClassId) (M a0 a1 a2 a3 : Nat) (th ck mo : Int32) (bp : Value) (sm : Int64) (x : Int32) (sz : Nat) : Met l yX6_make (Cond.code yX6_make cX6_make 3 (some .int) :: TB) ({ frames := 3, cells := 0, slots := 0, locals := 72 } : Room) (PW [.ref M, .int x] (dC, dI) [(M, .inr (6, [.int th, .int 0, .int 0, .int 0, .int ck, .ref a0, .ref a1, .ref a2, .ref a3, .int mo, bp, .long sm]))] (TYP cI cV cJ cL) sz) (va_Qi (fun (r : Int32) (_ : Unit) => r = 0) (QB (dC, dI) (fun (_ : Unit) => [(M, .inr (6, [.int th, .int 0, .int 0, .int 0, .int ck, .ref a0, .ref a1, .ref a2, .ref a3, .int 0, .ref a3, .long sm]))]) (TYP cI cV cJ cL) (va_A [(M, .inr (6, [.int th, .int 0, .int 0, .int 0, .int ck, .ref a0, .ref a1, .ref a2, .ref a3, .int mo, bp, .long sm]))] sz)) (va_A [(M, .inr (6, [.int th, .int 0, .int 0, .int 0, .int ck, .ref a0, .ref a1, .ref a2, .ref a3, .int mo, bp, .long sm]))] sz)) 0 0 (va_A [(M, .inr (6, [.int th, .int 0, .int 0, .int 0, .int ck, .ref a0, .ref a1, .ref a2, .ref a3, .int mo, bp, .long sm]))] sz) := by
  refine Met.ofW (cc := cX6_make) (maxL := 3) (ret := (some .int)) (by decide) rfl ?_
  intro p e s m args below meth c s₁ B hml hv
  obtain ⟨rfl, hsz, hP, hK, hD0, hN⟩ := hv
  have hx := B.exec
  have hb := B.bytes
  have hr := B.returns
  have hts := atoms_spec (ws := (Cond.code yX6_make cX6_make 3 (some .int) :: TB)) B.pre
  have hown : s.vm.findClass RX6 = some m.cls := findClass_of_methodNamed B.named
  have hlocks := B.notSynchronized
  subst hsz
  have hD := hD0.self (sz := s.heap.size)
  generalize hAe : va_A [(M, .inr (6, [.int th, .int 0, .int 0, .int 0, .int ck, .ref a0, .ref a1, .ref a2, .ref a3, .int mo, bp, .long sm]))] s.heap.size = A at hD ⊢
  have hA : ∀ q : Nat, s.heap.size ≤ q → A q := fun q h => by rw [← hAe]; exact Or.inr h
  have hS : va_S A s.heap s.heap [] := va_S.rf
  have hl := lv_entry ([.ref M, .int x]) (n := 3) (Nat.le_of_ble_eq_true rfl)
  rw [lg_entry_eq]
  generalize (lg_sl ([.ref M, .int x]) ++ List.replicate (3 - (lg_sl ([.ref M, .int x])).length) Slot.unset).toArray = ls at hl ⊢
  have hl : lv_has ls 3 [(0, .ref M), (1, .int x)] := hl
  refine lv_aload_n hx hb dX6_make_0 rfl (lv_at hl 0 rfl) ?_
  refine lv_iload_n hx hb dX6_make_1 rfl (lv_at hl 1 rfl) ?_
  refine n_Vi (ci := 6) (q0 := 0) (wc := [(M, .inr (6, [.int th, .int 0, .int 0, .int 0, .int ck, .ref a0, .ref a1, .ref a2, .ref a3, .int mo, bp, .long sm]))]) (wr := []) [.int x] [0] [] ⟨hx, hb, hml, hown, hts⟩ (fun sz => c_X6_gainOf l dC dI cI cV cJ cL M a0 a1 a2 a3 th ck mo (bp) sm x sz) q_ml_X6_168 q_im_X6_gainOf q_se_X6_gainOf q_ini_X6 q_co_X6_gainOf (n := 1) (by decide +kernel) rfl ⟨rfl, rfl⟩ ⟨Nat.le_of_ble_eq_true rfl, Nat.le_of_ble_eq_true rfl⟩ hP hD hS hA hK hN rfl rfl (by decide) (by decide) (by decide) rfl rfl rfl hl.1 rfl (Nat.le_of_ble_eq_true rfl) dX6_make_2 ⟨Nat.le_of_ble_eq_true rfl, Nat.le_of_ble_eq_true rfl⟩ (fun r_2 u_1 H locs hu_1 hP hD hS => ?_)
  have hP : va_P (dC, dI) cls [(M, .inr (6, [.int th, .int 0, .int 0, .int 0, .int ck, .ref a0, .ref a1, .ref a2, .ref a3, .int 0, .ref a3, .long sm]))] H := hP
  have hD : va_D A [(M, .inr (6, [.int th, .int 0, .int 0, .int 0, .int ck, .ref a0, .ref a1, .ref a2, .ref a3, .int 0, .ref a3, .long sm]))] := hD
  obtain rfl := hu_1
  refine lv_istore_n (lv' := [(2, .int 0), (0, .ref M), (1, .int x)]) hx hb dX6_make_5 rfl hl (by decide) rfl (fun ls hl => ?_)
  refine lv_aload_n hx hb dX6_make_6 rfl (lv_at hl 1 rfl) ?_
  refine lv_aload_n hx hb dX6_make_7 rfl (lv_at hl 1 rfl) ?_
  refine va_get (D := (dC, dI)) (ci := 6) (v := .ref a3) (C := RX6) (T := TX6) (N := 12) hx hb hts (fun w h => tb_in (inX6 w h)) hown hK hP 0 rfl rfl 10 (by decide) (hts _ (tb_in q_fl_X6_126)) (fun _ h9 => h9) rfl dX6_make_8 ?_
  refine va_put (D := (dC, dI)) (ci := 6) (v := .ref a3) (ty := (.array (.array .int))) (C := RX6) (T := TX6) (N := 12) hx hb hts (fun w h => tb_in (inX6 w h)) tyX6 tyX6_ok nmX6 hown hK hP hD hS 0 rfl rfl 8 (by decide) (hts _ (tb_in q_fl_X6_21)) (fun _ h9 => h9) rfl (by decide +kernel) rfl rfl (Nat.le_of_ble_eq_true rfl) dX6_make_11 (fun H locs hP hD hS => ?_)
  have hP : va_P (dC, dI) cls [(M, .inr (6, [.int th, .int 0, .int 0, .int 0, .int ck, .ref a0, .ref a1, .ref a2, .ref a3, .int 0, .ref a3, .long sm]))] H := hP
  have hD : va_D A [(M, .inr (6, [.int th, .int 0, .int 0, .int 0, .int ck, .ref a0, .ref a1, .ref a2, .ref a3, .int 0, .ref a3, .long sm]))] := hD
  refine lv_iload_n hx hb dX6_make_14 rfl (lv_at hl 0 rfl) ?_
  refine W.widen (k := 0) (n := 0) (Nat.le_of_ble_eq_true rfl) (Nat.le_of_ble_eq_true rfl) ?_
  have hP9 := hP
  have hD9 := hD
  exact W.iret (v := 0) hx hb hr (fun t9 ht9 hW9 => ⟨⟨_, (), rfl, rfl, by rw [ht9]; exact hP9, va_K.moved hW9.alike hK, hD9⟩, hS.F ht9⟩) hS.2.2 dX6_make_15
set_option maxHeartbeats 4000000 in
set_option maxRecDepth 100000 in
theorem c_X6_add (l : Launch) (dC : Nat → ClassId) (dI : Nat → Nat → Nat) (cI cV cJ cL : ClassId) (M a0 a1 a2 a3 : Nat) (th ck mo : Int32) (bp : Value) (sm : Int64) (x : Int32) (y : Int64) (hy : sm * 31 + x.toInt64 = y) (sz : Nat) : Met l yX6_add (Cond.code yX6_add cX6_add 2 none :: TB) ({ frames := 1, cells := 0, slots := 0, locals := 24 } : Room) (PW [.ref M, .int x] (dC, dI) [(M, .inr (6, [.int th, .int 0, .int 0, .int 0, .int ck, .ref a0, .ref a1, .ref a2, .ref a3, .int mo, bp, .long sm]))] (TYP cI cV cJ cL) sz) (va_Qv (fun (_ : Unit) => True) (QB (dC, dI) (fun (_ : Unit) => [(M, .inr (6, [.int th, .int 0, .int 0, .int 0, .int ck, .ref a0, .ref a1, .ref a2, .ref a3, .int mo, bp, .long y]))]) (TYP cI cV cJ cL) (va_A [(M, .inr (6, [.int th, .int 0, .int 0, .int 0, .int ck, .ref a0, .ref a1, .ref a2, .ref a3, .int mo, bp, .long sm]))] sz)) (va_A [(M, .inr (6, [.int th, .int 0, .int 0, .int 0, .int ck, .ref a0, .ref a1, .ref a2, .ref a3, .int mo, bp, .long sm]))] sz)) 0 0 (va_A [(M, .inr (6, [.int th, .int 0, .int 0, .int 0, .int ck, .ref a0, .ref a1, .ref a2, .ref a3, .int mo, bp, .long sm]))] sz) := by
  refine Met.ofW (cc := cX6_add) (maxL := 2) (ret := none) (by decide) rfl ?_
  intro p e s m args below meth c s₁ B hml hv
  obtain ⟨rfl, hsz, hP, hK, hD0, hN⟩ := hv
  have hx := B.exec
  have hb := B.bytes
  have hr := B.returns
  have hts := atoms_spec (ws := (Cond.code yX6_add cX6_add 2 none :: TB)) B.pre
  have hown : s.vm.findClass RX6 = some m.cls := findClass_of_methodNamed B.named
  have hlocks := B.notSynchronized
  subst hsz
  have hD := hD0.self (sz := s.heap.size)
  generalize hAe : va_A [(M, .inr (6, [.int th, .int 0, .int 0, .int 0, .int ck, .ref a0, .ref a1, .ref a2, .ref a3, .int mo, bp, .long sm]))] s.heap.size = A at hD ⊢
  have hA : ∀ q : Nat, s.heap.size ≤ q → A q := fun q h => by rw [← hAe]; exact Or.inr h
  have hS : va_S A s.heap s.heap [] := va_S.rf
  have hl := lv_entry ([.ref M, .int x]) (n := 2) (Nat.le_of_ble_eq_true rfl)
  rw [lg_entry_eq]
  generalize (lg_sl ([.ref M, .int x]) ++ List.replicate (2 - (lg_sl ([.ref M, .int x])).length) Slot.unset).toArray = ls at hl ⊢
  have hl : lv_has ls 2 [(0, .ref M), (1, .int x)] := hl
  refine lv_aload_n hx hb dX6_add_0 rfl (lv_at hl 0 rfl) ?_
  refine lv_aload_n hx hb dX6_add_1 rfl (lv_at hl 0 rfl) ?_
  refine va_get (D := (dC, dI)) (ci := 6) (v := .long sm) (C := RX6) (T := TX6) (N := 12) hx hb hts (fun w h => tb_in (inX6 w h)) hown hK hP 0 rfl rfl 11 (by decide) (hts _ (tb_in q_fl_X6_237)) (fun _ h9 => h9) rfl dX6_add_2 ?_
  refine lv_ldc2 (v := 31) hx hb hown (hts _ (tb_in q_cg_X6_241)) dX6_add_5 ?_
  refine lv_lmul hx hb dX6_add_8 ?_
  refine lv_iload_n hx hb dX6_add_9 rfl (lv_at hl 1 rfl) ?_
  refine lv_i2l hx hb dX6_add_10 rfl ?_
  refine lv_ladd hx hb dX6_add_11 ?_
  refine k_sl1 (y := y) hy ?_
  refine va_put (D := (dC, dI)) (ci := 6) (v := .long y) (ty := .long) (C := RX6) (T := TX6) (N := 12) hx hb hts (fun w h => tb_in (inX6 w h)) tyX6 tyX6_ok nmX6 hown hK hP hD hS 0 rfl rfl 11 (by decide) (hts _ (tb_in q_fl_X6_237)) (fun _ h9 => h9) rfl (by decide +kernel) rfl rfl (Nat.le_of_ble_eq_true rfl) dX6_add_12 (fun H locs hP hD hS => ?_)
  have hP : va_P (dC, dI) cls [(M, .inr (6, [.int th, .int 0, .int 0, .int 0, .int ck, .ref a0, .ref a1, .ref a2, .ref a3, .int mo, bp, .long y]))] H := hP
  have hD : va_D A [(M, .inr (6, [.int th, .int 0, .int 0, .int 0, .int ck, .ref a0, .ref a1, .ref a2, .ref a3, .int mo, bp, .long y]))] := hD
  refine W.widen (k := 0) (n := 0) (Nat.le_of_ble_eq_true rfl) (Nat.le_of_ble_eq_true rfl) ?_
  have hP9 := hP
  have hD9 := hD
  exact W.vret hx hb hr (fun t9 ht9 hW9 => ⟨⟨(), rfl, trivial, by rw [ht9]; exact hP9, va_K.moved hW9.alike hK, hD9⟩, hS.F ht9⟩) hS.2.2 dX6_add_15
set_option maxHeartbeats 4000000 in
set_option maxRecDepth 100000 in
theorem c_X6_addVehicle (l : Launch) (dC : Nat → ClassId) (dI : Nat → Nat → Nat) (cI cV cJ cL : ClassId) (M a0 a1 a2 a3 : Nat) (p0 p1 p2 p3 p4 p5 : Int32)  (sz : Nat) : Met l yX6_addVehicle (Cond.code yX6_addVehicle cX6_addVehicle 8 (some .int) :: TB) ({ frames := 2, cells := 0, slots := 0, locals := 45 } : Room) (PW [.ref M, .int p0, .int p1, .int p2, .int p3, .int p4, .int p5] (dC, dI) [(M, .inr (6, [.int 0, .int 0, .int 0, .int 0, .int 0, .ref a0, .ref a1, .ref a2, .ref a3, .int 0, .null, .long 0]))] (TYP cI cV cJ cL) sz) (va_Qi (fun (r : Int32) (u : Int32 × Int32 × Int32 × Value) => u.1 = 1 ∧ (1 = 0 → r = 0)) (QB (dC, dI) (fun (u : Int32 × Int32 × Int32 × Value) => [(M, .inr (6, [.int u.1, .int u.2.1, .int 0, .int 0, .int u.2.2.1, .ref a0, .ref a1, .ref a2, .ref a3, .int 0, u.2.2.2, .long 0]))]) (TYP cI cV cJ cL) (va_A [(M, .inr (6, [.int 0, .int 0, .int 0, .int 0, .int 0, .ref a0, .ref a1, .ref a2, .ref a3, .int 0, .null, .long 0]))] sz)) (va_A [(M, .inr (6, [.int 0, .int 0, .int 0, .int 0, .int 0, .ref a0, .ref a1, .ref a2, .ref a3, .int 0, .null, .long 0]))] sz)) 0 0 (va_A [(M, .inr (6, [.int 0, .int 0, .int 0, .int 0, .int 0, .ref a0, .ref a1, .ref a2, .ref a3, .int 0, .null, .long 0]))] sz) := by
  refine Met.ofW (cc := cX6_addVehicle) (maxL := 8) (ret := (some .int)) (by decide) rfl ?_
  intro p e s m args below meth c s₁ B hml hv
  obtain ⟨rfl, hsz, hP, hK, hD0, hN⟩ := hv
  have hx := B.exec
  have hb := B.bytes
  have hr := B.returns
  have hts := atoms_spec (ws := (Cond.code yX6_addVehicle cX6_addVehicle 8 (some .int) :: TB)) B.pre
  have hown : s.vm.findClass RX6 = some m.cls := findClass_of_methodNamed B.named
  have hlocks := B.notSynchronized
  subst hsz
  have hD := hD0.self (sz := s.heap.size)
  generalize hAe : va_A [(M, .inr (6, [.int 0, .int 0, .int 0, .int 0, .int 0, .ref a0, .ref a1, .ref a2, .ref a3, .int 0, .null, .long 0]))] s.heap.size = A at hD ⊢
  have hA : ∀ q : Nat, s.heap.size ≤ q → A q := fun q h => by rw [← hAe]; exact Or.inr h
  have hS : va_S A s.heap s.heap [] := va_S.rf
  have hl := lv_entry ([.ref M, .int p0, .int p1, .int p2, .int p3, .int p4, .int p5]) (n := 8) (Nat.le_of_ble_eq_true rfl)
  rw [lg_entry_eq]
  generalize (lg_sl ([.ref M, .int p0, .int p1, .int p2, .int p3, .int p4, .int p5]) ++ List.replicate (8 - (lg_sl ([.ref M, .int p0, .int p1, .int p2, .int p3, .int p4, .int p5])).length) Slot.unset).toArray = ls at hl ⊢
  have hl : lv_has ls 8 [(0, .ref M), (1, .int p0), (2, .int p1), (3, .int p2), (4, .int p3), (5, .int p4), (6, .int p5)] := hl
  refine lv_aload_n hx hb dX6_addVehicle_0 rfl (lv_at hl 0 rfl) ?_
  refine lv_iconst (v := 0) hx hb dX6_addVehicle_1 (by decide) ?_
  refine va_put (D := (dC, dI)) (ci := 6) (v := .int 0) (ty := .int) (C := RX6) (T := TX6) (N := 12) hx hb hts (fun w h => tb_in (inX6 w h)) tyX6 tyX6_ok nmX6 hown hK hP hD hS 0 rfl rfl 0 (by decide) (hts _ (tb_in q_fl_X6_24)) (fun _ h9 => h9) rfl (by decide +kernel) rfl rfl (Nat.le_of_ble_eq_true rfl) dX6_addVehicle_2 (fun H locs hP hD hS => ?_)
  have hP : va_P (dC, dI) cls [(M, .inr (6, [.int 0, .int 0, .int 0, .int 0, .int 0, .ref a0, .ref a1, .ref a2, .ref a3, .int 0, .null, .long 0]))] H := hP
  have hD : va_D A [(M, .inr (6, [.int 0, .int 0, .int 0, .int 0, .int 0, .ref a0, .ref a1, .ref a2, .ref a3, .int 0, .null, .long 0]))] := hD
  refine lv_aload_n hx hb dX6_addVehicle_5 rfl (lv_at hl 0 rfl) ?_
  refine lv_iload_n hx hb dX6_addVehicle_6 rfl (lv_at hl 1 rfl) ?_
  refine n_Vz (ci := 6) (q0 := 0) (wc := [(M, .inr (6, [.int 0, .int 0, .int 0, .int 0, .int 0, .ref a0, .ref a1, .ref a2, .ref a3, .int 0, .null, .long 0]))]) (wr := []) [.int p0] [0] [] ⟨hx, hb, hml, hown, hts⟩ (fun sz => c_X6_isPlace l dC dI cI cV cJ cL M a0 a1 a2 a3 0 0 0 (.null) 0 p0 sz) q_ml_X6_174 q_im_X6_isPlace q_se_X6_isPlace q_ini_X6 q_co_X6_isPlace (n := 1) (by decide +kernel) rfl ⟨rfl, rfl⟩ ⟨Nat.le_of_ble_eq_true rfl, Nat.le_of_ble_eq_true rfl⟩ hP hD hS hA hK hN rfl rfl (by decide) (by decide) (by decide) rfl rfl rfl hl.1 rfl (Nat.le_of_ble_eq_true rfl) dX6_addVehicle_7 ⟨Nat.le_of_ble_eq_true rfl, Nat.le_of_ble_eq_true rfl⟩ (fun r_2 u_1 H locs hu_1 hP hD hS => ?_)
  have hP : va_P (dC, dI) cls [(M, .inr (6, [.int 0, .int 0, .int 0, .int 0, .int 0, .ref a0, .ref a1, .ref a2, .ref a3, .int 0, .null, .long 0]))] H := hP
  have hD : va_D A [(M, .inr (6, [.int 0, .int 0, .int 0, .int 0, .int 0, .ref a0, .ref a1, .ref a2, .ref a3, .int 0, .null, .long 0]))] := hD
  obtain rfl := hu_1
  refine lv_if_ne (tgt := 19) hx hb dX6_addVehicle_10 (by decide) (fun c_3 => ?_) (fun c_3 => ?_)
  · first | exact absurd c_3 (by decide) | exact absurd (by decide) c_3
  refine lv_aload_n hx hb dX6_addVehicle_13 rfl (lv_at hl 0 rfl) ?_
  refine lv_iconst (v := 1) hx hb dX6_addVehicle_14 (by decide) ?_
  refine n_Vi (ci := 6) (q0 := 0) (wc := [(M, .inr (6, [.int 0, .int 0, .int 0, .int 0, .int 0, .ref a0, .ref a1, .ref a2, .ref a3, .int 0, .null, .long 0]))]) (wr := []) [.int 1] [0] [] ⟨hx, hb, hml, hown, hts⟩ (fun sz => c_X6_refuse l dC dI cI cV cJ cL M a0 a1 a2 a3 0 0 0 (.null) 0 1 sz) q_ml_X6_171 q_im_X6_refuse q_se_X6_refuse q_ini_X6 q_co_X6_refuse (n := 1) (by decide +kernel) rfl ⟨rfl, rfl⟩ ⟨Nat.le_of_ble_eq_true rfl, Nat.le_of_ble_eq_true rfl⟩ hP hD hS hA hK hN rfl rfl (by decide) (by decide) (by decide) rfl rfl rfl hl.1 rfl (Nat.le_of_ble_eq_true rfl) dX6_addVehicle_15 ⟨Nat.le_of_ble_eq_true rfl, Nat.le_of_ble_eq_true rfl⟩ (fun r_5 u_4 H locs hu_4 hP hD hS => ?_)
  have hP : va_P (dC, dI) cls [(M, .inr (6, [.int 1, .int 0, .int 0, .int 0, .int 0, .ref a0, .ref a1, .ref a2, .ref a3, .int 0, .null, .long 0]))] H := hP
  have hD : va_D A [(M, .inr (6, [.int 1, .int 0, .int 0, .int 0, .int 0, .ref a0, .ref a1, .ref a2, .ref a3, .int 0, .null, .long 0]))] := hD
  obtain rfl := hu_4
  refine W.widen (k := 0) (n := 0) (Nat.le_of_ble_eq_true rfl) (Nat.le_of_ble_eq_true rfl) ?_
  have hP := hP.sub (ws' := [(M, .inr (6, [.int 1, .int 0, .int 0, .int 0, .int 0, .ref a0, .ref a1, .ref a2, .ref a3, .int 0, .null, .long 0]))]) [0] rfl
  have hD := hD.sub (ws' := [(M, .inr (6, [.int 1, .int 0, .int 0, .int 0, .int 0, .ref a0, .ref a1, .ref a2, .ref a3, .int 0, .null, .long 0]))]) [0] (by decide) rfl
  have hP9 := hP
  have hD9 := hD
  exact W.iret (v := 0) hx hb hr (fun t9 ht9 hW9 => ⟨⟨_, (1, 0, 0, .null), rfl, ⟨rfl, (fun _ => rfl)⟩, by rw [ht9]; exact hP9, va_K.moved hW9.alike hK, hD9⟩, hS.F ht9⟩) hS.2.2 dX6_addVehicle_18
set_option maxHeartbeats 4000000 in
set_option maxRecDepth 100000 in
theorem c_X6_addJob (l : Launch) (dC : Nat → ClassId) (dI : Nat → Nat → Nat) (cI cV cJ cL : ClassId) (M a0 a1 a2 a3 : Nat) (p0 p1 p2 p3 p4 : Int32)  (sz : Nat) : Met l yX6_addJob (Cond.code yX6_addJob cX6_addJob 7 (some .int) :: TB) ({ frames := 2, cells := 0, slots := 0, locals := 45 } : Room) (PW [.ref M, .int p0, .int p1, .int p2, .int p3, .int p4] (dC, dI) [(M, .inr (6, [.int 0, .int 0, .int 0, .int 0, .int 0, .ref a0, .ref a1, .ref a2, .ref a3, .int 0, .null, .long 0]))] (TYP cI cV cJ cL) sz) (va_Qi (fun (r : Int32) (u : Int32 × Int32 × Int32 × Value) => u.1 = 1 ∧ (1 = 0 → r = 0)) (QB (dC, dI) (fun (u : Int32 × Int32 × Int32 × Value) => [(M, .inr (6, [.int u.1, .int u.2.1, .int 0, .int 0, .int u.2.2.1, .ref a0, .ref a1, .ref a2, .ref a3, .int 0, u.2.2.2, .long 0]))]) (TYP cI cV cJ cL) (va_A [(M, .inr (6, [.int 0, .int 0, .int 0, .int 0, .int 0, .ref a0, .ref a1, .ref a2, .ref a3, .int 0, .null, .long 0]))] sz)) (va_A [(M, .inr (6, [.int 0, .int 0, .int 0, .int 0, .int 0, .ref a0, .ref a1, .ref a2, .ref a3, .int 0, .null, .long 0]))] sz)) 0 0 (va_A [(M, .inr (6, [.int 0, .int 0, .int 0, .int 0, .int 0, .ref a0, .ref a1, .ref a2, .ref a3, .int 0, .null, .long 0]))] sz) := by
  refine Met.ofW (cc := cX6_addJob) (maxL := 7) (ret := (some .int)) (by decide) rfl ?_
  intro p e s m args below meth c s₁ B hml hv
  obtain ⟨rfl, hsz, hP, hK, hD0, hN⟩ := hv
  have hx := B.exec
  have hb := B.bytes
  have hr := B.returns
  have hts := atoms_spec (ws := (Cond.code yX6_addJob cX6_addJob 7 (some .int) :: TB)) B.pre
  have hown : s.vm.findClass RX6 = some m.cls := findClass_of_methodNamed B.named
  have hlocks := B.notSynchronized
  subst hsz
  have hD := hD0.self (sz := s.heap.size)
  generalize hAe : va_A [(M, .inr (6, [.int 0, .int 0, .int 0, .int 0, .int 0, .ref a0, .ref a1, .ref a2, .ref a3, .int 0, .null, .long 0]))] s.heap.size = A at hD ⊢
  have hA : ∀ q : Nat, s.heap.size ≤ q → A q := fun q h => by rw [← hAe]; exact Or.inr h
  have hS : va_S A s.heap s.heap [] := va_S.rf
  have hl := lv_entry ([.ref M, .int p0, .int p1, .int p2, .int p3, .int p4]) (n := 7) (Nat.le_of_ble_eq_true rfl)
  rw [lg_entry_eq]
  generalize (lg_sl ([.ref M, .int p0, .int p1, .int p2, .int p3, .int p4]) ++ List.replicate (7 - (lg_sl ([.ref M, .int p0, .int p1, .int p2, .int p3, .int p4])).length) Slot.unset).toArray = ls at hl ⊢
  have hl : lv_has ls 7 [(0, .ref M), (1, .int p0), (2, .int p1), (3, .int p2), (4, .int p3), (5, .int p4)] := hl
  refine lv_aload_n hx hb dX6_addJob_0 rfl (lv_at hl 0 rfl) ?_
  refine lv_iconst (v := 0) hx hb dX6_addJob_1 (by decide) ?_
  refine va_put (D := (dC, dI)) (ci := 6) (v := .int 0) (ty := .int) (C := RX6) (T := TX6) (N := 12) hx hb hts (fun w h => tb_in (inX6 w h)) tyX6 tyX6_ok nmX6 hown hK hP hD hS 0 rfl rfl 0 (by decide) (hts _ (tb_in q_fl_X6_24)) (fun _ h9 => h9) rfl (by decide +kernel) rfl rfl (Nat.le_of_ble_eq_true rfl) dX6_addJob_2 (fun H locs hP hD hS => ?_)
  have hP : va_P (dC, dI) cls [(M, .inr (6, [.int 0, .int 0, .int 0, .int 0, .int 0, .ref a0, .ref a1, .ref a2, .ref a3, .int 0, .null, .long 0]))] H := hP
  have hD : va_D A [(M, .inr (6, [.int 0, .int 0, .int 0, .int 0, .int 0, .ref a0, .ref a1, .ref a2, .ref a3, .int 0, .null, .long 0]))] := hD
  refine lv_aload_n hx hb dX6_addJob_5 rfl (lv_at hl 0 rfl) ?_
  refine lv_iload_n hx hb dX6_addJob_6 rfl (lv_at hl 1 rfl) ?_
  refine n_Vz (ci := 6) (q0 := 0) (wc := [(M, .inr (6, [.int 0, .int 0, .int 0, .int 0, .int 0, .ref a0, .ref a1, .ref a2, .ref a3, .int 0, .null, .long 0]))]) (wr := []) [.int p0] [0] [] ⟨hx, hb, hml, hown, hts⟩ (fun sz => c_X6_isPlace l dC dI cI cV cJ cL M a0 a1 a2 a3 0 0 0 (.null) 0 p0 sz) q_ml_X6_174 q_im_X6_isPlace q_se_X6_isPlace q_ini_X6 q_co_X6_isPlace (n := 1) (by decide +kernel) rfl ⟨rfl, rfl⟩ ⟨Nat.le_of_ble_eq_true rfl, Nat.le_of_ble_eq_true rfl⟩ hP hD hS hA hK hN rfl rfl (by decide) (by decide) (by decide) rfl rfl rfl hl.1 rfl (Nat.le_of_ble_eq_true rfl) dX6_addJob_7 ⟨Nat.le_of_ble_eq_true rfl, Nat.le_of_ble_eq_true rfl⟩ (fun r_2 u_1 H locs hu_1 hP hD hS => ?_)
  have hP : va_P (dC, dI) cls [(M, .inr (6, [.int 0, .int 0, .int 0, .int 0, .int 0, .ref a0, .ref a1, .ref a2, .ref a3, .int 0, .null, .long 0]))] H := hP
  have hD : va_D A [(M, .inr (6, [.int 0, .int 0, .int 0, .int 0, .int 0, .ref a0, .ref a1, .ref a2, .ref a3, .int 0, .null, .long 0]))] := hD
  obtain rfl := hu_1
  refine lv_if_eq (tgt := 21) hx hb dX6_addJob_10 (by decide) (fun c_3 => ?_) (fun c_3 => ?_)
  rotate_left
  · first | exact absurd c_3 (by decide) | exact absurd (by decide) c_3
  refine lv_aload_n hx hb dX6_addJob_21 rfl (lv_at hl 0 rfl) ?_
  refine lv_iconst (v := 1) hx hb dX6_addJob_22 (by decide) ?_
  refine n_Vi (ci := 6) (q0 := 0) (wc := [(M, .inr (6, [.int 0, .int 0, .int 0, .int 0, .int 0, .ref a0, .ref a1, .ref a2, .ref a3, .int 0, .null, .long 0]))]) (wr := []) [.int 1] [0] [] ⟨hx, hb, hml, hown, hts⟩ (fun sz => c_X6_refuse l dC dI cI cV cJ cL M a0 a1 a2 a3 0 0 0 (.null) 0 1 sz) q_ml_X6_171 q_im_X6_refuse q_se_X6_refuse q_ini_X6 q_co_X6_refuse (n := 1) (by decide +kernel) rfl ⟨rfl, rfl⟩ ⟨Nat.le_of_ble_eq_true rfl, Nat.le_of_ble_eq_true rfl⟩ hP hD hS hA hK hN rfl rfl (by decide) (by decide) (by decide) rfl rfl rfl hl.1 rfl (Nat.le_of_ble_eq_true rfl) dX6_addJob_23 ⟨Nat.le_of_ble_eq_true rfl, Nat.le_of_ble_eq_true rfl⟩ (fun r_5 u_4 H locs hu_4 hP hD hS => ?_)
  have hP : va_P (dC, dI) cls [(M, .inr (6, [.int 1, .int 0, .int 0, .int 0, .int 0, .ref a0, .ref a1, .ref a2, .ref a3, .int 0, .null, .long 0]))] H := hP
  have hD : va_D A [(M, .inr (6, [.int 1, .int 0, .int 0, .int 0, .int 0, .ref a0, .ref a1, .ref a2, .ref a3, .int 0, .null, .long 0]))] := hD
  obtain rfl := hu_4
  refine W.widen (k := 0) (n := 0) (Nat.le_of_ble_eq_true rfl) (Nat.le_of_ble_eq_true rfl) ?_
  have hP := hP.sub (ws' := [(M, .inr (6, [.int 1, .int 0, .int 0, .int 0, .int 0, .ref a0, .ref a1, .ref a2, .ref a3, .int 0, .null, .long 0]))]) [0] rfl
  have hD := hD.sub (ws' := [(M, .inr (6, [.int 1, .int 0, .int 0, .int 0, .int 0, .ref a0, .ref a1, .ref a2, .ref a3, .int 0, .null, .long 0]))]) [0] (by decide) rfl
  have hP9 := hP
  have hD9 := hD
  exact W.iret (v := 0) hx hb hr (fun t9 ht9 hW9 => ⟨⟨_, (1, 0, 0, .null), rfl, ⟨rfl, (fun _ => rfl)⟩, by rw [ht9]; exact hP9, va_K.moved hW9.alike hK, hD9⟩, hS.F ht9⟩) hS.2.2 dX6_addJob_26
set_option maxHeartbeats 4000000 in
set_option maxRecDepth 100000 in
theorem c_X6_insert (l : Launch) (dC : Nat → ClassId) (dI : Nat → Nat → Nat) (cI cV cJ cL : ClassId) (M a0 a1 a2 a3 : Nat) (p0 : Int32)  (sz : Nat) : Met l yX6_insert (Cond.code yX6_insert cX6_insert 2 (some .int) :: TB) ({ frames := 2, cells := 0, slots := 0, locals := 45 } : Room) (PW [.ref M, .int p0] (dC, dI) [(M, .inr (6, [.int 0, .int 0, .int 0, .int 0, .int 0, .ref a0, .ref a1, .ref a2, .ref a3, .int 0, .null, .long 0]))] (TYP cI cV cJ cL) sz) (va_Qi (fun (r : Int32) (u : Int32 × Int32 × Int32 × Value) => u.1 = 1 ∧ (1 = 0 → r = 0)) (QB (dC, dI) (fun (u : Int32 × Int32 × Int32 × Value) => [(M, .inr (6, [.int u.1, .int u.2.1, .int 0, .int 0, .int u.2.2.1, .ref a0, .ref a1, .ref a2, .ref a3, .int 0, u.2.2.2, .long 0]))]) (TYP cI cV cJ cL) (va_A [(M, .inr (6, [.int 0, .int 0, .int 0, .int 0, .int 0, .ref a0, .ref a1, .ref a2, .ref a3, .int 0, .null, .long 0]))] sz)) (va_A [(M, .inr (6, [.int 0, .int 0, .int 0, .int 0, .int 0, .ref a0, .ref a1, .ref a2, .ref a3, .int 0, .null, .long 0]))] sz)) 0 0 (va_A [(M, .inr (6, [.int 0, .int 0, .int 0, .int 0, .int 0, .ref a0, .ref a1, .ref a2, .ref a3, .int 0, .null, .long 0]))] sz) := by
  refine Met.ofW (cc := cX6_insert) (maxL := 2) (ret := (some .int)) (by decide) rfl ?_
  intro p e s m args below meth c s₁ B hml hv
  obtain ⟨rfl, hsz, hP, hK, hD0, hN⟩ := hv
  have hx := B.exec
  have hb := B.bytes
  have hr := B.returns
  have hts := atoms_spec (ws := (Cond.code yX6_insert cX6_insert 2 (some .int) :: TB)) B.pre
  have hown : s.vm.findClass RX6 = some m.cls := findClass_of_methodNamed B.named
  have hlocks := B.notSynchronized
  subst hsz
  have hD := hD0.self (sz := s.heap.size)
  generalize hAe : va_A [(M, .inr (6, [.int 0, .int 0, .int 0, .int 0, .int 0, .ref a0, .ref a1, .ref a2, .ref a3, .int 0, .null, .long 0]))] s.heap.size = A at hD ⊢
  have hA : ∀ q : Nat, s.heap.size ≤ q → A q := fun q h => by rw [← hAe]; exact Or.inr h
  have hS : va_S A s.heap s.heap [] := va_S.rf
  have hl := lv_entry ([.ref M, .int p0]) (n := 2) (Nat.le_of_ble_eq_true rfl)
  rw [lg_entry_eq]
  generalize (lg_sl ([.ref M, .int p0]) ++ List.replicate (2 - (lg_sl ([.ref M, .int p0])).length) Slot.unset).toArray = ls at hl ⊢
  have hl : lv_has ls 2 [(0, .ref M), (1, .int p0)] := hl
  refine lv_aload_n hx hb dX6_insert_0 rfl (lv_at hl 0 rfl) ?_
  refine lv_iconst (v := 0) hx hb dX6_insert_1 (by decide) ?_
  refine va_put (D := (dC, dI)) (ci := 6) (v := .int 0) (ty := .int) (C := RX6) (T := TX6) (N := 12) hx hb hts (fun w h => tb_in (inX6 w h)) tyX6 tyX6_ok nmX6 hown hK hP hD hS 0 rfl rfl 0 (by decide) (hts _ (tb_in q_fl_X6_24)) (fun _ h9 => h9) rfl (by decide +kernel) rfl rfl (Nat.le_of_ble_eq_true rfl) dX6_insert_2 (fun H locs hP hD hS => ?_)
  have hP : va_P (dC, dI) cls [(M, .inr (6, [.int 0, .int 0, .int 0, .int 0, .int 0, .ref a0, .ref a1, .ref a2, .ref a3, .int 0, .null, .long 0]))] H := hP
  have hD : va_D A [(M, .inr (6, [.int 0, .int 0, .int 0, .int 0, .int 0, .ref a0, .ref a1, .ref a2, .ref a3, .int 0, .null, .long 0]))] := hD
  refine lv_aload_n hx hb dX6_insert_5 rfl (lv_at hl 0 rfl) ?_
  refine lv_iload_n hx hb dX6_insert_6 rfl (lv_at hl 1 rfl) ?_
  refine n_Vz (ci := 6) (q0 := 0) (wc := [(M, .inr (6, [.int 0, .int 0, .int 0, .int 0, .int 0, .ref a0, .ref a1, .ref a2, .ref a3, .int 0, .null, .long 0]))]) (wr := []) [.int p0] [0] [] ⟨hx, hb, hml, hown, hts⟩ (fun sz => c_X6_isJob l dC dI cI cV cJ cL M a0 a1 a2 a3 0 0 0 (.null) 0 p0 sz) q_ml_X6_177 q_im_X6_isJob q_se_X6_isJob q_ini_X6 q_co_X6_isJob (n := 1) (by decide +kernel) rfl ⟨rfl, rfl⟩ ⟨Nat.le_of_ble_eq_true rfl, Nat.le_of_ble_eq_true rfl⟩ hP hD hS hA hK hN rfl rfl (by decide) (by decide) (by decide) rfl rfl rfl hl.1 rfl (Nat.le_of_ble_eq_true rfl) dX6_insert_7 ⟨Nat.le_of_ble_eq_true rfl, Nat.le_of_ble_eq_true rfl⟩ (fun r_2 u_1 H locs hu_1 hP hD hS => ?_)
  have hP : va_P (dC, dI) cls [(M, .inr (6, [.int 0, .int 0, .int 0, .int 0, .int 0, .ref a0, .ref a1, .ref a2, .ref a3, .int 0, .null, .long 0]))] H := hP
  have hD : va_D A [(M, .inr (6, [.int 0, .int 0, .int 0, .int 0, .int 0, .ref a0, .ref a1, .ref a2, .ref a3, .int 0, .null, .long 0]))] := hD
  obtain rfl := hu_1
  refine lv_if_ne (tgt := 19) hx hb dX6_insert_10 (by decide) (fun c_3 => ?_) (fun c_3 => ?_)
  · first | exact absurd c_3 (by decide) | exact absurd (by decide) c_3
  refine lv_aload_n hx hb dX6_insert_13 rfl (lv_at hl 0 rfl) ?_
  refine lv_iconst (v := 1) hx hb dX6_insert_14 (by decide) ?_
  refine n_Vi (ci := 6) (q0 := 0) (wc := [(M, .inr (6, [.int 0, .int 0, .int 0, .int 0, .int 0, .ref a0, .ref a1, .ref a2, .ref a3, .int 0, .null, .long 0]))]) (wr := []) [.int 1] [0] [] ⟨hx, hb, hml, hown, hts⟩ (fun sz => c_X6_refuse l dC dI cI cV cJ cL M a0 a1 a2 a3 0 0 0 (.null) 0 1 sz) q_ml_X6_171 q_im_X6_refuse q_se_X6_refuse q_ini_X6 q_co_X6_refuse (n := 1) (by decide +kernel) rfl ⟨rfl, rfl⟩ ⟨Nat.le_of_ble_eq_true rfl, Nat.le_of_ble_eq_true rfl⟩ hP hD hS hA hK hN rfl rfl (by decide) (by decide) (by decide) rfl rfl rfl hl.1 rfl (Nat.le_of_ble_eq_true rfl) dX6_insert_15 ⟨Nat.le_of_ble_eq_true rfl, Nat.le_of_ble_eq_true rfl⟩ (fun r_5 u_4 H locs hu_4 hP hD hS => ?_)
  have hP : va_P (dC, dI) cls [(M, .inr (6, [.int 1, .int 0, .int 0, .int 0, .int 0, .ref a0, .ref a1, .ref a2, .ref a3, .int 0, .null, .long 0]))] H := hP
  have hD : va_D A [(M, .inr (6, [.int 1, .int 0, .int 0, .int 0, .int 0, .ref a0, .ref a1, .ref a2, .ref a3, .int 0, .null, .long 0]))] := hD
  obtain rfl := hu_4
  refine W.widen (k := 0) (n := 0) (Nat.le_of_ble_eq_true rfl) (Nat.le_of_ble_eq_true rfl) ?_
  have hP := hP.sub (ws' := [(M, .inr (6, [.int 1, .int 0, .int 0, .int 0, .int 0, .ref a0, .ref a1, .ref a2, .ref a3, .int 0, .null, .long 0]))]) [0] rfl
  have hD := hD.sub (ws' := [(M, .inr (6, [.int 1, .int 0, .int 0, .int 0, .int 0, .ref a0, .ref a1, .ref a2, .ref a3, .int 0, .null, .long 0]))]) [0] (by decide) rfl
  have hP9 := hP
  have hD9 := hD
  exact W.iret (v := 0) hx hb hr (fun t9 ht9 hW9 => ⟨⟨_, (1, 0, 0, .null), rfl, ⟨rfl, (fun _ => rfl)⟩, by rw [ht9]; exact hP9, va_K.moved hW9.alike hK, hD9⟩, hS.F ht9⟩) hS.2.2 dX6_insert_18
set_option maxHeartbeats 4000000 in
set_option maxRecDepth 100000 in
theorem c_X6_insertAt (l : Launch) (dC : Nat → ClassId) (dI : Nat → Nat → Nat) (cI cV cJ cL : ClassId) (M a0 a1 a2 a3 : Nat) (p0 p1 p2 p3 : Int32)  (sz : Nat) : Met l yX6_insertAt (Cond.code yX6_insertAt cX6_insertAt 7 (some .int) :: TB) ({ frames := 2, cells := 0, slots := 0, locals := 45 } : Room) (PW [.ref M, .int p0, .int p1, .int p2, .int p3] (dC, dI) [(M, .inr (6, [.int 0, .int 0, .int 0, .int 0, .int 0, .ref a0, .ref a1, .ref a2, .ref a3, .int 0, .null, .long 0]))] (TYP cI cV cJ cL) sz) (va_Qi (fun (r : Int32) (u : Int32 × Int32 × Int32 × Value) => u.1 = 1 ∧ (1 = 0 → r = 0)) (QB (dC, dI) (fun (u : Int32 × Int32 × Int32 × Value) => [(M, .inr (6, [.int u.1, .int u.2.1, .int 0, .int 0, .int u.2.2.1, .ref a0, .ref a1, .ref a2, .ref a3, .int 0, u.2.2.2, .long 0]))]) (TYP cI cV cJ cL) (va_A [(M, .inr (6, [.int 0, .int 0, .int 0, .int 0, .int 0, .ref a0, .ref a1, .ref a2, .ref a3, .int 0, .null, .long 0]))] sz)) (va_A [(M, .inr (6, [.int 0, .int 0, .int 0, .int 0, .int 0, .ref a0, .ref a1, .ref a2, .ref a3, .int 0, .null, .long 0]))] sz)) 0 0 (va_A [(M, .inr (6, [.int 0, .int 0, .int 0, .int 0, .int 0, .ref a0, .ref a1, .ref a2, .ref a3, .int 0, .null, .long 0]))] sz) := by
  refine Met.ofW (cc := cX6_insertAt) (maxL := 7) (ret := (some .int)) (by decide) rfl ?_
  intro p e s m args below meth c s₁ B hml hv
  obtain ⟨rfl, hsz, hP, hK, hD0, hN⟩ := hv
  have hx := B.exec
  have hb := B.bytes
  have hr := B.returns
  have hts := atoms_spec (ws := (Cond.code yX6_insertAt cX6_insertAt 7 (some .int) :: TB)) B.pre
  have hown : s.vm.findClass RX6 = some m.cls := findClass_of_methodNamed B.named
  have hlocks := B.notSynchronized
  subst hsz
  have hD := hD0.self (sz := s.heap.size)
  generalize hAe : va_A [(M, .inr (6, [.int 0, .int 0, .int 0, .int 0, .int 0, .ref a0, .ref a1, .ref a2, .ref a3, .int 0, .null, .long 0]))] s.heap.size = A at hD ⊢
  have hA : ∀ q : Nat, s.heap.size ≤ q → A q := fun q h => by rw [← hAe]; exact Or.inr h
  have hS : va_S A s.heap s.heap [] := va_S.rf
  have hl := lv_entry ([.ref M, .int p0, .int p1, .int p2, .int p3]) (n := 7) (Nat.le_of_ble_eq_true rfl)
  rw [lg_entry_eq]
  generalize (lg_sl ([.ref M, .int p0, .int p1, .int p2, .int p3]) ++ List.replicate (7 - (lg_sl ([.ref M, .int p0, .int p1, .int p2, .int p3])).length) Slot.unset).toArray = ls at hl ⊢
  have hl : lv_has ls 7 [(0, .ref M), (1, .int p0), (2, .int p1), (3, .int p2), (4, .int p3)] := hl
  refine lv_aload_n hx hb dX6_insertAt_0 rfl (lv_at hl 0 rfl) ?_
  refine lv_iconst (v := 0) hx hb dX6_insertAt_1 (by decide) ?_
  refine va_put (D := (dC, dI)) (ci := 6) (v := .int 0) (ty := .int) (C := RX6) (T := TX6) (N := 12) hx hb hts (fun w h => tb_in (inX6 w h)) tyX6 tyX6_ok nmX6 hown hK hP hD hS 0 rfl rfl 0 (by decide) (hts _ (tb_in q_fl_X6_24)) (fun _ h9 => h9) rfl (by decide +kernel) rfl rfl (Nat.le_of_ble_eq_true rfl) dX6_insertAt_2 (fun H locs hP hD hS => ?_)
  have hP : va_P (dC, dI) cls [(M, .inr (6, [.int 0, .int 0, .int 0, .int 0, .int 0, .ref a0, .ref a1, .ref a2, .ref a3, .int 0, .null, .long 0]))] H := hP
  have hD : va_D A [(M, .inr (6, [.int 0, .int 0, .int 0, .int 0, .int 0, .ref a0, .ref a1, .ref a2, .ref a3, .int 0, .null, .long 0]))] := hD
  refine lv_aload_n hx hb dX6_insertAt_5 rfl (lv_at hl 0 rfl) ?_
  refine lv_iload_n hx hb dX6_insertAt_6 rfl (lv_at hl 1 rfl) ?_
  refine n_Vz (ci := 6) (q0 := 0) (wc := [(M, .inr (6, [.int 0, .int 0, .int 0, .int 0, .int 0, .ref a0, .ref a1, .ref a2, .ref a3, .int 0, .null, .long 0]))]) (wr := []) [.int p0] [0] [] ⟨hx, hb, hml, hown, hts⟩ (fun sz => c_X6_isJob l dC dI cI cV cJ cL M a0 a1 a2 a3 0 0 0 (.null) 0 p0 sz) q_ml_X6_177 q_im_X6_isJob q_se_X6_isJob q_ini_X6 q_co_X6_isJob (n := 1) (by decide +kernel) rfl ⟨rfl, rfl⟩ ⟨Nat.le_of_ble_eq_true rfl, Nat.le_of_ble_eq_true rfl⟩ hP hD hS hA hK hN rfl rfl (by decide) (by decide) (by decide) rfl rfl rfl hl.1 rfl (Nat.le_of_ble_eq_true rfl) dX6_insertAt_7 ⟨Nat.le_of_ble_eq_true rfl, Nat.le_of_ble_eq_true rfl⟩ (fun r_2 u_1 H locs hu_1 hP hD hS => ?_)
  have hP : va_P (dC, dI) cls [(M, .inr (6, [.int 0, .int 0, .int 0, .int 0, .int 0, .ref a0, .ref a1, .ref a2, .ref a3, .int 0, .null, .long 0]))] H := hP
  have hD : va_D A [(M, .inr (6, [.int 0, .int 0, .int 0, .int 0, .int 0, .ref a0, .ref a1, .ref a2, .ref a3, .int 0, .null, .long 0]))] := hD
  obtain rfl := hu_1
  refine lv_if_eq (tgt := 21) hx hb dX6_insertAt_10 (by decide) (fun c_3 => ?_) (fun c_3 => ?_)
  rotate_left
  · first | exact absurd c_3 (by decide) | exact absurd (by decide) c_3
  refine lv_aload_n hx hb dX6_insertAt_21 rfl (lv_at hl 0 rfl) ?_
  refine lv_iconst (v := 1) hx hb dX6_insertAt_22 (by decide) ?_
  refine n_Vi (ci := 6) (q0 := 0) (wc := [(M, .inr (6, [.int 0, .int 0, .int 0, .int 0, .int 0, .ref a0, .ref a1, .ref a2, .ref a3, .int 0, .null, .long 0]))]) (wr := []) [.int 1] [0] [] ⟨hx, hb, hml, hown, hts⟩ (fun sz => c_X6_refuse l dC dI cI cV cJ cL M a0 a1 a2 a3 0 0 0 (.null) 0 1 sz) q_ml_X6_171 q_im_X6_refuse q_se_X6_refuse q_ini_X6 q_co_X6_refuse (n := 1) (by decide +kernel) rfl ⟨rfl, rfl⟩ ⟨Nat.le_of_ble_eq_true rfl, Nat.le_of_ble_eq_true rfl⟩ hP hD hS hA hK hN rfl rfl (by decide) (by decide) (by decide) rfl rfl rfl hl.1 rfl (Nat.le_of_ble_eq_true rfl) dX6_insertAt_23 ⟨Nat.le_of_ble_eq_true rfl, Nat.le_of_ble_eq_true rfl⟩ (fun r_5 u_4 H locs hu_4 hP hD hS => ?_)
  have hP : va_P (dC, dI) cls [(M, .inr (6, [.int 1, .int 0, .int 0, .int 0, .int 0, .ref a0, .ref a1, .ref a2, .ref a3, .int 0, .null, .long 0]))] H := hP
  have hD : va_D A [(M, .inr (6, [.int 1, .int 0, .int 0, .int 0, .int 0, .ref a0, .ref a1, .ref a2, .ref a3, .int 0, .null, .long 0]))] := hD
  obtain rfl := hu_4
  refine W.widen (k := 0) (n := 0) (Nat.le_of_ble_eq_true rfl) (Nat.le_of_ble_eq_true rfl) ?_
  have hP := hP.sub (ws' := [(M, .inr (6, [.int 1, .int 0, .int 0, .int 0, .int 0, .ref a0, .ref a1, .ref a2, .ref a3, .int 0, .null, .long 0]))]) [0] rfl
  have hD := hD.sub (ws' := [(M, .inr (6, [.int 1, .int 0, .int 0, .int 0, .int 0, .ref a0, .ref a1, .ref a2, .ref a3, .int 0, .null, .long 0]))]) [0] (by decide) rfl
  have hP9 := hP
  have hD9 := hD
  exact W.iret (v := 0) hx hb hr (fun t9 ht9 hW9 => ⟨⟨_, (1, 0, 0, .null), rfl, ⟨rfl, (fun _ => rfl)⟩, by rw [ht9]; exact hP9, va_K.moved hW9.alike hK, hD9⟩, hS.F ht9⟩) hS.2.2 dX6_insertAt_26
set_option maxHeartbeats 4000000 in
set_option maxRecDepth 100000 in
theorem c_X6_take (l : Launch) (dC : Nat → ClassId) (dI : Nat → Nat → Nat) (cI cV cJ cL : ClassId) (M a0 a1 a2 a3 : Nat) (p0 : Int32)  (sz : Nat) : Met l yX6_take (Cond.code yX6_take cX6_take 2 (some .int) :: TB) ({ frames := 2, cells := 0, slots := 0, locals := 45 } : Room) (PW [.ref M, .int p0] (dC, dI) [(M, .inr (6, [.int 0, .int 0, .int 0, .int 0, .int 0, .ref a0, .ref a1, .ref a2, .ref a3, .int 0, .null, .long 0]))] (TYP cI cV cJ cL) sz) (va_Qi (fun (r : Int32) (u : Int32 × Int32 × Int32 × Value) => u.1 = 1 ∧ (1 = 0 → r = 0)) (QB (dC, dI) (fun (u : Int32 × Int32 × Int32 × Value) => [(M, .inr (6, [.int u.1, .int u.2.1, .int 0, .int 0, .int u.2.2.1, .ref a0, .ref a1, .ref a2, .ref a3, .int 0, u.2.2.2, .long 0]))]) (TYP cI cV cJ cL) (va_A [(M, .inr (6, [.int 0, .int 0, .int 0, .int 0, .int 0, .ref a0, .ref a1, .ref a2, .ref a3, .int 0, .null, .long 0]))] sz)) (va_A [(M, .inr (6, [.int 0, .int 0, .int 0, .int 0, .int 0, .ref a0, .ref a1, .ref a2, .ref a3, .int 0, .null, .long 0]))] sz)) 0 0 (va_A [(M, .inr (6, [.int 0, .int 0, .int 0, .int 0, .int 0, .ref a0, .ref a1, .ref a2, .ref a3, .int 0, .null, .long 0]))] sz) := by
  refine Met.ofW (cc := cX6_take) (maxL := 2) (ret := (some .int)) (by decide) rfl ?_
  intro p e s m args below meth c s₁ B hml hv
  obtain ⟨rfl, hsz, hP, hK, hD0, hN⟩ := hv
  have hx := B.exec
  have hb := B.bytes
  have hr := B.returns
  have hts := atoms_spec (ws := (Cond.code yX6_take cX6_take 2 (some .int) :: TB)) B.pre
  have hown : s.vm.findClass RX6 = some m.cls := findClass_of_methodNamed B.named
  have hlocks := B.notSynchronized
  subst hsz
  have hD := hD0.self (sz := s.heap.size)
  generalize hAe : va_A [(M, .inr (6, [.int 0, .int 0, .int 0, .int 0, .int 0, .ref a0, .ref a1, .ref a2, .ref a3, .int 0, .null, .long 0]))] s.heap.size = A at hD ⊢
  have hA : ∀ q : Nat, s.heap.size ≤ q → A q := fun q h => by rw [← hAe]; exact Or.inr h
  have hS : va_S A s.heap s.heap [] := va_S.rf
  have hl := lv_entry ([.ref M, .int p0]) (n := 2) (Nat.le_of_ble_eq_true rfl)
  rw [lg_entry_eq]
  generalize (lg_sl ([.ref M, .int p0]) ++ List.replicate (2 - (lg_sl ([.ref M, .int p0])).length) Slot.unset).toArray = ls at hl ⊢
  have hl : lv_has ls 2 [(0, .ref M), (1, .int p0)] := hl
  refine lv_aload_n hx hb dX6_take_0 rfl (lv_at hl 0 rfl) ?_
  refine lv_iconst (v := 0) hx hb dX6_take_1 (by decide) ?_
  refine va_put (D := (dC, dI)) (ci := 6) (v := .int 0) (ty := .int) (C := RX6) (T := TX6) (N := 12) hx hb hts (fun w h => tb_in (inX6 w h)) tyX6 tyX6_ok nmX6 hown hK hP hD hS 0 rfl rfl 0 (by decide) (hts _ (tb_in q_fl_X6_24)) (fun _ h9 => h9) rfl (by decide +kernel) rfl rfl (Nat.le_of_ble_eq_true rfl) dX6_take_2 (fun H locs hP hD hS => ?_)
  have hP : va_P (dC, dI) cls [(M, .inr (6, [.int 0, .int 0, .int 0, .int 0, .int 0, .ref a0, .ref a1, .ref a2, .ref a3, .int 0, .null, .long 0]))] H := hP
  have hD : va_D A [(M, .inr (6, [.int 0, .int 0, .int 0, .int 0, .int 0, .ref a0, .ref a1, .ref a2, .ref a3, .int 0, .null, .long 0]))] := hD
  refine lv_aload_n hx hb dX6_take_5 rfl (lv_at hl 0 rfl) ?_
  refine lv_iload_n hx hb dX6_take_6 rfl (lv_at hl 1 rfl) ?_
  refine n_Vz (ci := 6) (q0 := 0) (wc := [(M, .inr (6, [.int 0, .int 0, .int 0, .int 0, .int 0, .ref a0, .ref a1, .ref a2, .ref a3, .int 0, .null, .long 0]))]) (wr := []) [.int p0] [0] [] ⟨hx, hb, hml, hown, hts⟩ (fun sz => c_X6_isJob l dC dI cI cV cJ cL M a0 a1 a2 a3 0 0 0 (.null) 0 p0 sz) q_ml_X6_177 q_im_X6_isJob q_se_X6_isJob q_ini_X6 q_co_X6_isJob (n := 1) (by decide +kernel) rfl ⟨rfl, rfl⟩ ⟨Nat.le_of_ble_eq_true rfl, Nat.le_of_ble_eq_true rfl⟩ hP hD hS hA hK hN rfl rfl (by decide) (by decide) (by decide) rfl rfl rfl hl.1 rfl (Nat.le_of_ble_eq_true rfl) dX6_take_7 ⟨Nat.le_of_ble_eq_true rfl, Nat.le_of_ble_eq_true rfl⟩ (fun r_2 u_1 H locs hu_1 hP hD hS => ?_)
  have hP : va_P (dC, dI) cls [(M, .inr (6, [.int 0, .int 0, .int 0, .int 0, .int 0, .ref a0, .ref a1, .ref a2, .ref a3, .int 0, .null, .long 0]))] H := hP
  have hD : va_D A [(M, .inr (6, [.int 0, .int 0, .int 0, .int 0, .int 0, .ref a0, .ref a1, .ref a2, .ref a3, .int 0, .null, .long 0]))] := hD
  obtain rfl := hu_1
  refine lv_if_ne (tgt := 19) hx hb dX6_take_10 (by decide) (fun c_3 => ?_) (fun c_3 => ?_)
  · first | exact absurd c_3 (by decide) | exact absurd (by decide) c_3
  refine lv_aload_n hx hb dX6_take_13 rfl (lv_at hl 0 rfl) ?_
  refine lv_iconst (v := 1) hx hb dX6_take_14 (by decide) ?_
  refine n_Vi (ci := 6) (q0 := 0) (wc := [(M, .inr (6, [.int 0, .int 0, .int 0, .int 0, .int 0, .ref a0, .ref a1, .ref a2, .ref a3, .int 0, .null, .long 0]))]) (wr := []) [.int 1] [0] [] ⟨hx, hb, hml, hown, hts⟩ (fun sz => c_X6_refuse l dC dI cI cV cJ cL M a0 a1 a2 a3 0 0 0 (.null) 0 1 sz) q_ml_X6_171 q_im_X6_refuse q_se_X6_refuse q_ini_X6 q_co_X6_refuse (n := 1) (by decide +kernel) rfl ⟨rfl, rfl⟩ ⟨Nat.le_of_ble_eq_true rfl, Nat.le_of_ble_eq_true rfl⟩ hP hD hS hA hK hN rfl rfl (by decide) (by decide) (by decide) rfl rfl rfl hl.1 rfl (Nat.le_of_ble_eq_true rfl) dX6_take_15 ⟨Nat.le_of_ble_eq_true rfl, Nat.le_of_ble_eq_true rfl⟩ (fun r_5 u_4 H locs hu_4 hP hD hS => ?_)
  have hP : va_P (dC, dI) cls [(M, .inr (6, [.int 1, .int 0, .int 0, .int 0, .int 0, .ref a0, .ref a1, .ref a2, .ref a3, .int 0, .null, .long 0]))] H := hP
  have hD : va_D A [(M, .inr (6, [.int 1, .int 0, .int 0, .int 0, .int 0, .ref a0, .ref a1, .ref a2, .ref a3, .int 0, .null, .long 0]))] := hD
  obtain rfl := hu_4
  refine W.widen (k := 0) (n := 0) (Nat.le_of_ble_eq_true rfl) (Nat.le_of_ble_eq_true rfl) ?_
  have hP := hP.sub (ws' := [(M, .inr (6, [.int 1, .int 0, .int 0, .int 0, .int 0, .ref a0, .ref a1, .ref a2, .ref a3, .int 0, .null, .long 0]))]) [0] rfl
  have hD := hD.sub (ws' := [(M, .inr (6, [.int 1, .int 0, .int 0, .int 0, .int 0, .ref a0, .ref a1, .ref a2, .ref a3, .int 0, .null, .long 0]))]) [0] (by decide) rfl
  have hP9 := hP
  have hD9 := hD
  exact W.iret (v := 0) hx hb hr (fun t9 ht9 hW9 => ⟨⟨_, (1, 0, 0, .null), rfl, ⟨rfl, (fun _ => rfl)⟩, by rw [ht9]; exact hP9, va_K.moved hW9.alike hK, hD9⟩, hS.F ht9⟩) hS.2.2 dX6_take_18
set_option maxHeartbeats 4000000 in
set_option maxRecDepth 100000 in
theorem c_X6_repair (l : Launch) (dC : Nat → ClassId) (dI : Nat → Nat → Nat) (cI cV cJ cL : ClassId) (M a0 a1 a2 a3 : Nat) (p0 : Int32)  (sz : Nat) : Met l yX6_repair (Cond.code yX6_repair cX6_repair 3 (some .int) :: TB) ({ frames := 2, cells := 0, slots := 0, locals := 45 } : Room) (PW [.ref M, .int p0] (dC, dI) [(M, .inr (6, [.int 0, .int 0, .int 0, .int 0, .int 0, .ref a0, .ref a1, .ref a2, .ref a3, .int 0, .null, .long 0]))] (TYP cI cV cJ cL) sz) (va_Qi (fun (r : Int32) (u : Int32 × Int32 × Int32 × Value) => u.1 = 1 ∧ (1 = 0 → r = 0)) (QB (dC, dI) (fun (u : Int32 × Int32 × Int32 × Value) => [(M, .inr (6, [.int u.1, .int u.2.1, .int 0, .int 0, .int u.2.2.1, .ref a0, .ref a1, .ref a2, .ref a3, .int 0, u.2.2.2, .long 0]))]) (TYP cI cV cJ cL) (va_A [(M, .inr (6, [.int 0, .int 0, .int 0, .int 0, .int 0, .ref a0, .ref a1, .ref a2, .ref a3, .int 0, .null, .long 0]))] sz)) (va_A [(M, .inr (6, [.int 0, .int 0, .int 0, .int 0, .int 0, .ref a0, .ref a1, .ref a2, .ref a3, .int 0, .null, .long 0]))] sz)) 0 0 (va_A [(M, .inr (6, [.int 0, .int 0, .int 0, .int 0, .int 0, .ref a0, .ref a1, .ref a2, .ref a3, .int 0, .null, .long 0]))] sz) := by
  refine Met.ofW (cc := cX6_repair) (maxL := 3) (ret := (some .int)) (by decide) rfl ?_
  intro p e s m args below meth c s₁ B hml hv
  obtain ⟨rfl, hsz, hP, hK, hD0, hN⟩ := hv
  have hx := B.exec
  have hb := B.bytes
  have hr := B.returns
  have hts := atoms_spec (ws := (Cond.code yX6_repair cX6_repair 3 (some .int) :: TB)) B.pre
  have hown : s.vm.findClass RX6 = some m.cls := findClass_of_methodNamed B.named
  have hlocks := B.notSynchronized
  subst hsz
  have hD := hD0.self (sz := s.heap.size)
  generalize hAe : va_A [(M, .inr (6, [.int 0, .int 0, .int 0, .int 0, .int 0, .ref a0, .ref a1, .ref a2, .ref a3, .int 0, .null, .long 0]))] s.heap.size = A at hD ⊢
  have hA : ∀ q : Nat, s.heap.size ≤ q → A q := fun q h => by rw [← hAe]; exact Or.inr h
  have hS : va_S A s.heap s.heap [] := va_S.rf
  have hl := lv_entry ([.ref M, .int p0]) (n := 3) (Nat.le_of_ble_eq_true rfl)
  rw [lg_entry_eq]
  generalize (lg_sl ([.ref M, .int p0]) ++ List.replicate (3 - (lg_sl ([.ref M, .int p0])).length) Slot.unset).toArray = ls at hl ⊢
  have hl : lv_has ls 3 [(0, .ref M), (1, .int p0)] := hl
  refine lv_aload_n hx hb dX6_repair_0 rfl (lv_at hl 0 rfl) ?_
  refine lv_iconst (v := 0) hx hb dX6_repair_1 (by decide) ?_
  refine va_put (D := (dC, dI)) (ci := 6) (v := .int 0) (ty := .int) (C := RX6) (T := TX6) (N := 12) hx hb hts (fun w h => tb_in (inX6 w h)) tyX6 tyX6_ok nmX6 hown hK hP hD hS 0 rfl rfl 0 (by decide) (hts _ (tb_in q_fl_X6_24)) (fun _ h9 => h9) rfl (by decide +kernel) rfl rfl (Nat.le_of_ble_eq_true rfl) dX6_repair_2 (fun H locs hP hD hS => ?_)
  have hP : va_P (dC, dI) cls [(M, .inr (6, [.int 0, .int 0, .int 0, .int 0, .int 0, .ref a0, .ref a1, .ref a2, .ref a3, .int 0, .null, .long 0]))] H := hP
  have hD : va_D A [(M, .inr (6, [.int 0, .int 0, .int 0, .int 0, .int 0, .ref a0, .ref a1, .ref a2, .ref a3, .int 0, .null, .long 0]))] := hD
  refine lv_aload_n hx hb dX6_repair_5 rfl (lv_at hl 0 rfl) ?_
  refine lv_iload_n hx hb dX6_repair_6 rfl (lv_at hl 1 rfl) ?_
  refine n_Vz (ci := 6) (q0 := 0) (wc := [(M, .inr (6, [.int 0, .int 0, .int 0, .int 0, .int 0, .ref a0, .ref a1, .ref a2, .ref a3, .int 0, .null, .long 0]))]) (wr := []) [.int p0] [0] [] ⟨hx, hb, hml, hown, hts⟩ (fun sz => c_X6_isVehicle l dC dI cI cV cJ cL M a0 a1 a2 a3 0 0 0 (.null) 0 p0 sz) q_ml_X6_191 q_im_X6_isVehicle q_se_X6_isVehicle q_ini_X6 q_co_X6_isVehicle (n := 1) (by decide +kernel) rfl ⟨rfl, rfl⟩ ⟨Nat.le_of_ble_eq_true rfl, Nat.le_of_ble_eq_true rfl⟩ hP hD hS hA hK hN rfl rfl (by decide) (by decide) (by decide) rfl rfl rfl hl.1 rfl (Nat.le_of_ble_eq_true rfl) dX6_repair_7 ⟨Nat.le_of_ble_eq_true rfl, Nat.le_of_ble_eq_true rfl⟩ (fun r_2 u_1 H locs hu_1 hP hD hS => ?_)
  have hP : va_P (dC, dI) cls [(M, .inr (6, [.int 0, .int 0, .int 0, .int 0, .int 0, .ref a0, .ref a1, .ref a2, .ref a3, .int 0, .null, .long 0]))] H := hP
  have hD : va_D A [(M, .inr (6, [.int 0, .int 0, .int 0, .int 0, .int 0, .ref a0, .ref a1, .ref a2, .ref a3, .int 0, .null, .long 0]))] := hD
  obtain rfl := hu_1
  refine lv_if_ne (tgt := 19) hx hb dX6_repair_10 (by decide) (fun c_3 => ?_) (fun c_3 => ?_)
  · first | exact absurd c_3 (by decide) | exact absurd (by decide) c_3
  refine lv_aload_n hx hb dX6_repair_13 rfl (lv_at hl 0 rfl) ?_
  refine lv_iconst (v := 1) hx hb dX6_repair_14 (by decide) ?_
  refine n_Vi (ci := 6) (q0 := 0) (wc := [(M, .inr (6, [.int 0, .int 0, .int 0, .int 0, .int 0, .ref a0, .ref a1, .ref a2, .ref a3, .int 0, .null, .long 0]))]) (wr := []) [.int 1] [0] [] ⟨hx, hb, hml, hown, hts⟩ (fun sz => c_X6_refuse l dC dI cI cV cJ cL M a0 a1 a2 a3 0 0 0 (.null) 0 1 sz) q_ml_X6_171 q_im_X6_refuse q_se_X6_refuse q_ini_X6 q_co_X6_refuse (n := 1) (by decide +kernel) rfl ⟨rfl, rfl⟩ ⟨Nat.le_of_ble_eq_true rfl, Nat.le_of_ble_eq_true rfl⟩ hP hD hS hA hK hN rfl rfl (by decide) (by decide) (by decide) rfl rfl rfl hl.1 rfl (Nat.le_of_ble_eq_true rfl) dX6_repair_15 ⟨Nat.le_of_ble_eq_true rfl, Nat.le_of_ble_eq_true rfl⟩ (fun r_5 u_4 H locs hu_4 hP hD hS => ?_)
  have hP : va_P (dC, dI) cls [(M, .inr (6, [.int 1, .int 0, .int 0, .int 0, .int 0, .ref a0, .ref a1, .ref a2, .ref a3, .int 0, .null, .long 0]))] H := hP
  have hD : va_D A [(M, .inr (6, [.int 1, .int 0, .int 0, .int 0, .int 0, .ref a0, .ref a1, .ref a2, .ref a3, .int 0, .null, .long 0]))] := hD
  obtain rfl := hu_4
  refine W.widen (k := 0) (n := 0) (Nat.le_of_ble_eq_true rfl) (Nat.le_of_ble_eq_true rfl) ?_
  have hP := hP.sub (ws' := [(M, .inr (6, [.int 1, .int 0, .int 0, .int 0, .int 0, .ref a0, .ref a1, .ref a2, .ref a3, .int 0, .null, .long 0]))]) [0] rfl
  have hD := hD.sub (ws' := [(M, .inr (6, [.int 1, .int 0, .int 0, .int 0, .int 0, .ref a0, .ref a1, .ref a2, .ref a3, .int 0, .null, .long 0]))]) [0] (by decide) rfl
  have hP9 := hP
  have hD9 := hD
  exact W.iret (v := 0) hx hb hr (fun t9 ht9 hW9 => ⟨⟨_, (1, 0, 0, .null), rfl, ⟨rfl, (fun _ => rfl)⟩, by rw [ht9]; exact hP9, va_K.moved hW9.alike hK, hD9⟩, hS.F ht9⟩) hS.2.2 dX6_repair_18
set_option maxHeartbeats 4000000 in
set_option maxRecDepth 100000 in
theorem c_X6_way (l : Launch) (dC : Nat → ClassId) (dI : Nat → Nat → Nat) (cI cV cJ cL : ClassId) (M a0 a1 a2 a3 : Nat) (p0 p1 : Int32)  (sz : Nat) : Met l yX6_way (Cond.code yX6_way cX6_way 3 (some .int) :: TB) ({ frames := 2, cells := 0, slots := 0, locals := 45 } : Room) (PW [.ref M, .int p0, .int p1] (dC, dI) [(M, .inr (6, [.int 0, .int 0, .int 0, .int 0, .int 0, .ref a0, .ref a1, .ref a2, .ref a3, .int 0, .null, .long 0]))] (TYP cI cV cJ cL) sz) (va_Qi (fun (r : Int32) (u : Int32 × Int32 × Int32 × Value) => u.1 = 1 ∧ (1 = 0 → r = 0)) (QB (dC, dI) (fun (u : Int32 × Int32 × Int32 × Value) => [(M, .inr (6, [.int u.1, .int u.2.1, .int 0, .int 0, .int u.2.2.1, .ref a0, .ref a1, .ref a2, .ref a3, .int 0, u.2.2.2, .long 0]))]) (TYP cI cV cJ cL) (va_A [(M, .inr (6, [.int 0, .int 0, .int 0, .int 0, .int 0, .ref a0, .ref a1, .ref a2, .ref a3, .int 0, .null, .long 0]))] sz)) (va_A [(M, .inr (6, [.int 0, .int 0, .int 0, .int 0, .int 0, .ref a0, .ref a1, .ref a2, .ref a3, .int 0, .null, .long 0]))] sz)) 0 0 (va_A [(M, .inr (6, [.int 0, .int 0, .int 0, .int 0, .int 0, .ref a0, .ref a1, .ref a2, .ref a3, .int 0, .null, .long 0]))] sz) := by
  refine Met.ofW (cc := cX6_way) (maxL := 3) (ret := (some .int)) (by decide) rfl ?_
  intro p e s m args below meth c s₁ B hml hv
  obtain ⟨rfl, hsz, hP, hK, hD0, hN⟩ := hv
  have hx := B.exec
  have hb := B.bytes
  have hr := B.returns
  have hts := atoms_spec (ws := (Cond.code yX6_way cX6_way 3 (some .int) :: TB)) B.pre
  have hown : s.vm.findClass RX6 = some m.cls := findClass_of_methodNamed B.named
  have hlocks := B.notSynchronized
  subst hsz
  have hD := hD0.self (sz := s.heap.size)
  generalize hAe : va_A [(M, .inr (6, [.int 0, .int 0, .int 0, .int 0, .int 0, .ref a0, .ref a1, .ref a2, .ref a3, .int 0, .null, .long 0]))] s.heap.size = A at hD ⊢
  have hA : ∀ q : Nat, s.heap.size ≤ q → A q := fun q h => by rw [← hAe]; exact Or.inr h
  have hS : va_S A s.heap s.heap [] := va_S.rf
  have hl := lv_entry ([.ref M, .int p0, .int p1]) (n := 3) (Nat.le_of_ble_eq_true rfl)
  rw [lg_entry_eq]
  generalize (lg_sl ([.ref M, .int p0, .int p1]) ++ List.replicate (3 - (lg_sl ([.ref M, .int p0, .int p1])).length) Slot.unset).toArray = ls at hl ⊢
  have hl : lv_has ls 3 [(0, .ref M), (1, .int p0), (2, .int p1)] := hl
  refine lv_aload_n hx hb dX6_way_0 rfl (lv_at hl 0 rfl) ?_
  refine lv_iconst (v := 0) hx hb dX6_way_1 (by decide) ?_
  refine va_put (D := (dC, dI)) (ci := 6) (v := .int 0) (ty := .int) (C := RX6) (T := TX6) (N := 12) hx hb hts (fun w h => tb_in (inX6 w h)) tyX6 tyX6_ok nmX6 hown hK hP hD hS 0 rfl rfl 0 (by decide) (hts _ (tb_in q_fl_X6_24)) (fun _ h9 => h9) rfl (by decide +kernel) rfl rfl (Nat.le_of_ble_eq_true rfl) dX6_way_2 (fun H locs hP hD hS => ?_)
  have hP : va_P (dC, dI) cls [(M, .inr (6, [.int 0, .int 0, .int 0, .int 0, .int 0, .ref a0, .ref a1, .ref a2, .ref a3, .int 0, .null, .long 0]))] H := hP
  have hD : va_D A [(M, .inr (6, [.int 0, .int 0, .int 0, .int 0, .int 0, .ref a0, .ref a1, .ref a2, .ref a3, .int 0, .null, .long 0]))] := hD
  refine lv_aload_n hx hb dX6_way_5 rfl (lv_at hl 0 rfl) ?_
  refine lv_iload_n hx hb dX6_way_6 rfl (lv_at hl 1 rfl) ?_
  refine n_Vz (ci := 6) (q0 := 0) (wc := [(M, .inr (6, [.int 0, .int 0, .int 0, .int 0, .int 0, .ref a0, .ref a1, .ref a2, .ref a3, .int 0, .null, .long 0]))]) (wr := []) [.int p0] [0] [] ⟨hx, hb, hml, hown, hts⟩ (fun sz => c_X6_isPlace l dC dI cI cV cJ cL M a0 a1 a2 a3 0 0 0 (.null) 0 p0 sz) q_ml_X6_174 q_im_X6_isPlace q_se_X6_isPlace q_ini_X6 q_co_X6_isPlace (n := 1) (by decide +kernel) rfl ⟨rfl, rfl⟩ ⟨Nat.le_of_ble_eq_true rfl, Nat.le_of_ble_eq_true rfl⟩ hP hD hS hA hK hN rfl rfl (by decide) (by decide) (by decide) rfl rfl rfl hl.1 rfl (Nat.le_of_ble_eq_true rfl) dX6_way_7 ⟨Nat.le_of_ble_eq_true rfl, Nat.le_of_ble_eq_true rfl⟩ (fun r_2 u_1 H locs hu_1 hP hD hS => ?_)
  have hP : va_P (dC, dI) cls [(M, .inr (6, [.int 0, .int 0, .int 0, .int 0, .int 0, .ref a0, .ref a1, .ref a2, .ref a3, .int 0, .null, .long 0]))] H := hP
  have hD : va_D A [(M, .inr (6, [.int 0, .int 0, .int 0, .int 0, .int 0, .ref a0, .ref a1, .ref a2, .ref a3, .int 0, .null, .long 0]))] := hD
  obtain rfl := hu_1
  refine lv_if_eq (tgt := 30) hx hb dX6_way_10 (by decide) (fun c_3 => ?_) (fun c_3 => ?_)
  rotate_left
  · first | exact absurd c_3 (by decide) | exact absurd (by decide) c_3
  refine lv_aload_n hx hb dX6_way_30 rfl (lv_at hl 0 rfl) ?_
  refine lv_iconst (v := 1) hx hb dX6_way_31 (by decide) ?_
  refine n_Vi (ci := 6) (q0 := 0) (wc := [(M, .inr (6, [.int 0, .int 0, .int 0, .int 0, .int 0, .ref a0, .ref a1, .ref a2, .ref a3, .int 0, .null, .long 0]))]) (wr := []) [.int 1] [0] [] ⟨hx, hb, hml, hown, hts⟩ (fun sz => c_X6_refuse l dC dI cI cV cJ cL M a0 a1 a2 a3 0 0 0 (.null) 0 1 sz) q_ml_X6_171 q_im_X6_refuse q_se_X6_refuse q_ini_X6 q_co_X6_refuse (n := 1) (by decide +kernel) rfl ⟨rfl, rfl⟩ ⟨Nat.le_of_ble_eq_true rfl, Nat.le_of_ble_eq_true rfl⟩ hP hD hS hA hK hN rfl rfl (by decide) (by decide) (by decide) rfl rfl rfl hl.1 rfl (Nat.le_of_ble_eq_true rfl) dX6_way_32 ⟨Nat.le_of_ble_eq_true rfl, Nat.le_of_ble_eq_true rfl⟩ (fun r_5 u_4 H locs hu_4 hP hD hS => ?_)
  have hP : va_P (dC, dI) cls [(M, .inr (6, [.int 1, .int 0, .int 0, .int 0, .int 0, .ref a0, .ref a1, .ref a2, .ref a3, .int 0, .null, .long 0]))] H := hP
  have hD : va_D A [(M, .inr (6, [.int 1, .int 0, .int 0, .int 0, .int 0, .ref a0, .ref a1, .ref a2, .ref a3, .int 0, .null, .long 0]))] := hD
  obtain rfl := hu_4
  refine W.widen (k := 0) (n := 0) (Nat.le_of_ble_eq_true rfl) (Nat.le_of_ble_eq_true rfl) ?_
  have hP := hP.sub (ws' := [(M, .inr (6, [.int 1, .int 0, .int 0, .int 0, .int 0, .ref a0, .ref a1, .ref a2, .ref a3, .int 0, .null, .long 0]))]) [0] rfl
  have hD := hD.sub (ws' := [(M, .inr (6, [.int 1, .int 0, .int 0, .int 0, .int 0, .ref a0, .ref a1, .ref a2, .ref a3, .int 0, .null, .long 0]))]) [0] (by decide) rfl
  have hP9 := hP
  have hD9 := hD
  exact W.iret (v := 0) hx hb hr (fun t9 ht9 hW9 => ⟨⟨_, (1, 0, 0, .null), rfl, ⟨rfl, (fun _ => rfl)⟩, by rw [ht9]; exact hP9, va_K.moved hW9.alike hK, hD9⟩, hS.F ht9⟩) hS.2.2 dX6_way_35
set_option maxHeartbeats 4000000 in
set_option maxRecDepth 100000 in
theorem c_X6_vehicleOf (l : Launch) (dC : Nat → ClassId) (dI : Nat → Nat → Nat) (cI cV cJ cL : ClassId) (M a0 a1 a2 a3 : Nat) (p0 : Int32)  (sz : Nat) : Met l yX6_vehicleOf (Cond.code yX6_vehicleOf cX6_vehicleOf 2 (some .int) :: TB) ({ frames := 2, cells := 0, slots := 0, locals := 45 } : Room) (PW [.ref M, .int p0] (dC, dI) [(M, .inr (6, [.int 0, .int 0, .int 0, .int 0, .int 0, .ref a0, .ref a1, .ref a2, .ref a3, .int 0, .null, .long 0]))] (TYP cI cV cJ cL) sz) (va_Qi (fun (r : Int32) (u : Int32 × Int32 × Int32 × Value) => u.1 = 1 ∧ (1 = 0 → r = 0)) (QB (dC, dI) (fun (u : Int32 × Int32 × Int32 × Value) => [(M, .inr (6, [.int u.1, .int u.2.1, .int 0, .int 0, .int u.2.2.1, .ref a0, .ref a1, .ref a2, .ref a3, .int 0, u.2.2.2, .long 0]))]) (TYP cI cV cJ cL) (va_A [(M, .inr (6, [.int 0, .int 0, .int 0, .int 0, .int 0, .ref a0, .ref a1, .ref a2, .ref a3, .int 0, .null, .long 0]))] sz)) (va_A [(M, .inr (6, [.int 0, .int 0, .int 0, .int 0, .int 0, .ref a0, .ref a1, .ref a2, .ref a3, .int 0, .null, .long 0]))] sz)) 0 0 (va_A [(M, .inr (6, [.int 0, .int 0, .int 0, .int 0, .int 0, .ref a0, .ref a1, .ref a2, .ref a3, .int 0, .null, .long 0]))] sz) := by
  refine Met.ofW (cc := cX6_vehicleOf) (maxL := 2) (ret := (some .int)) (by decide) rfl ?_
  intro p e s m args below meth c s₁ B hml hv
  obtain ⟨rfl, hsz, hP, hK, hD0, hN⟩ := hv
  have hx := B.exec
  have hb := B.bytes
  have hr := B.returns
  have hts := atoms_spec (ws := (Cond.code yX6_vehicleOf cX6_vehicleOf 2 (some .int) :: TB)) B.pre
  have hown : s.vm.findClass RX6 = some m.cls := findClass_of_methodNamed B.named
  have hlocks := B.notSynchronized
  subst hsz
  have hD := hD0.self (sz := s.heap.size)
  generalize hAe : va_A [(M, .inr (6, [.int 0, .int 0, .int 0, .int 0, .int 0, .ref a0, .ref a1, .ref a2, .ref a3, .int 0, .null, .long 0]))] s.heap.size = A at hD ⊢
  have hA : ∀ q : Nat, s.heap.size ≤ q → A q := fun q h => by rw [← hAe]; exact Or.inr h
  have hS : va_S A s.heap s.heap [] := va_S.rf
  have hl := lv_entry ([.ref M, .int p0]) (n := 2) (Nat.le_of_ble_eq_true rfl)
  rw [lg_entry_eq]
  generalize (lg_sl ([.ref M, .int p0]) ++ List.replicate (2 - (lg_sl ([.ref M, .int p0])).length) Slot.unset).toArray = ls at hl ⊢
  have hl : lv_has ls 2 [(0, .ref M), (1, .int p0)] := hl
  refine lv_aload_n hx hb dX6_vehicleOf_0 rfl (lv_at hl 0 rfl) ?_
  refine lv_iconst (v := 0) hx hb dX6_vehicleOf_1 (by decide) ?_
  refine va_put (D := (dC, dI)) (ci := 6) (v := .int 0) (ty := .int) (C := RX6) (T := TX6) (N := 12) hx hb hts (fun w h => tb_in (inX6 w h)) tyX6 tyX6_ok nmX6 hown hK hP hD hS 0 rfl rfl 0 (by decide) (hts _ (tb_in q_fl_X6_24)) (fun _ h9 => h9) rfl (by decide +kernel) rfl rfl (Nat.le_of_ble_eq_true rfl) dX6_vehicleOf_2 (fun H locs hP hD hS => ?_)
  have hP : va_P (dC, dI) cls [(M, .inr (6, [.int 0, .int 0, .int 0, .int 0, .int 0, .ref a0, .ref a1, .ref a2, .ref a3, .int 0, .null, .long 0]))] H := hP
  have hD : va_D A [(M, .inr (6, [.int 0, .int 0, .int 0, .int 0, .int 0, .ref a0, .ref a1, .ref a2, .ref a3, .int 0, .null, .long 0]))] := hD
  refine lv_aload_n hx hb dX6_vehicleOf_5 rfl (lv_at hl 0 rfl) ?_
  refine lv_iload_n hx hb dX6_vehicleOf_6 rfl (lv_at hl 1 rfl) ?_
  refine n_Vz (ci := 6) (q0 := 0) (wc := [(M, .inr (6, [.int 0, .int 0, .int 0, .int 0, .int 0, .ref a0, .ref a1, .ref a2, .ref a3, .int 0, .null, .long 0]))]) (wr := []) [.int p0] [0] [] ⟨hx, hb, hml, hown, hts⟩ (fun sz => c_X6_isJob l dC dI cI cV cJ cL M a0 a1 a2 a3 0 0 0 (.null) 0 p0 sz) q_ml_X6_177 q_im_X6_isJob q_se_X6_isJob q_ini_X6 q_co_X6_isJob (n := 1) (by decide +kernel) rfl ⟨rfl, rfl⟩ ⟨Nat.le_of_ble_eq_true rfl, Nat.le_of_ble_eq_true rfl⟩ hP hD hS hA hK hN rfl rfl (by decide) (by decide) (by decide) rfl rfl rfl hl.1 rfl (Nat.le_of_ble_eq_true rfl) dX6_vehicleOf_7 ⟨Nat.le_of_ble_eq_true rfl, Nat.le_of_ble_eq_true rfl⟩ (fun r_2 u_1 H locs hu_1 hP hD hS => ?_)
  have hP : va_P (dC, dI) cls [(M, .inr (6, [.int 0, .int 0, .int 0, .int 0, .int 0, .ref a0, .ref a1, .ref a2, .ref a3, .int 0, .null, .long 0]))] H := hP
  have hD : va_D A [(M, .inr (6, [.int 0, .int 0, .int 0, .int 0, .int 0, .ref a0, .ref a1, .ref a2, .ref a3, .int 0, .null, .long 0]))] := hD
  obtain rfl := hu_1
  refine lv_if_eq (tgt := 21) hx hb dX6_vehicleOf_10 (by decide) (fun c_3 => ?_) (fun c_3 => ?_)
  rotate_left
  · first | exact absurd c_3 (by decide) | exact absurd (by decide) c_3
  refine lv_aload_n hx hb dX6_vehicleOf_21 rfl (lv_at hl 0 rfl) ?_
  refine lv_iconst (v := 1) hx hb dX6_vehicleOf_22 (by decide) ?_
  refine n_Vi (ci := 6) (q0 := 0) (wc := [(M, .inr (6, [.int 0, .int 0, .int 0, .int 0, .int 0, .ref a0, .ref a1, .ref a2, .ref a3, .int 0, .null, .long 0]))]) (wr := []) [.int 1] [0] [] ⟨hx, hb, hml, hown, hts⟩ (fun sz => c_X6_refuse l dC dI cI cV cJ cL M a0 a1 a2 a3 0 0 0 (.null) 0 1 sz) q_ml_X6_171 q_im_X6_refuse q_se_X6_refuse q_ini_X6 q_co_X6_refuse (n := 1) (by decide +kernel) rfl ⟨rfl, rfl⟩ ⟨Nat.le_of_ble_eq_true rfl, Nat.le_of_ble_eq_true rfl⟩ hP hD hS hA hK hN rfl rfl (by decide) (by decide) (by decide) rfl rfl rfl hl.1 rfl (Nat.le_of_ble_eq_true rfl) dX6_vehicleOf_23 ⟨Nat.le_of_ble_eq_true rfl, Nat.le_of_ble_eq_true rfl⟩ (fun r_5 u_4 H locs hu_4 hP hD hS => ?_)
  have hP : va_P (dC, dI) cls [(M, .inr (6, [.int 1, .int 0, .int 0, .int 0, .int 0, .ref a0, .ref a1, .ref a2, .ref a3, .int 0, .null, .long 0]))] H := hP
  have hD : va_D A [(M, .inr (6, [.int 1, .int 0, .int 0, .int 0, .int 0, .ref a0, .ref a1, .ref a2, .ref a3, .int 0, .null, .long 0]))] := hD
  obtain rfl := hu_4
  refine W.widen (k := 0) (n := 0) (Nat.le_of_ble_eq_true rfl) (Nat.le_of_ble_eq_true rfl) ?_
  have hP := hP.sub (ws' := [(M, .inr (6, [.int 1, .int 0, .int 0, .int 0, .int 0, .ref a0, .ref a1, .ref a2, .ref a3, .int 0, .null, .long 0]))]) [0] rfl
  have hD := hD.sub (ws' := [(M, .inr (6, [.int 1, .int 0, .int 0, .int 0, .int 0, .ref a0, .ref a1, .ref a2, .ref a3, .int 0, .null, .long 0]))]) [0] (by decide) rfl
  have hP9 := hP
  have hD9 := hD
  exact W.iret (v := 0) hx hb hr (fun t9 ht9 hW9 => ⟨⟨_, (1, 0, 0, .null), rfl, ⟨rfl, (fun _ => rfl)⟩, by rw [ht9]; exact hP9, va_K.moved hW9.alike hK, hD9⟩, hS.F ht9⟩) hS.2.2 dX6_vehicleOf_26
set_option maxHeartbeats 4000000 in
set_option maxRecDepth 100000 in
theorem c_X6_isSet (l : Launch) (dC : Nat → ClassId) (dI : Nat → Nat → Nat) (cI cV cJ cL : ClassId) (M a0 a1 a2 a3 : Nat) (p0 : Int32)  (sz : Nat) : Met l yX6_isSet (Cond.code yX6_isSet cX6_isSet 2 (some .boolean) :: TB) ({ frames := 2, cells := 0, slots := 0, locals := 45 } : Room) (PW [.ref M, .int p0] (dC, dI) [(M, .inr (6, [.int 0, .int 0, .int 0, .int 0, .int 0, .ref a0, .ref a1, .ref a2, .ref a3, .int 0, .null, .long 0]))] (TYP cI cV cJ cL) sz) (va_Qi (fun (r : Int32) (u : Int32 × Int32 × Int32 × Value) => u.1 = 1 ∧ (1 = 0 → r = 0)) (QB (dC, dI) (fun (u : Int32 × Int32 × Int32 × Value) => [(M, .inr (6, [.int u.1, .int u.2.1, .int 0, .int 0, .int u.2.2.1, .ref a0, .ref a1, .ref a2, .ref a3, .int 0, u.2.2.2, .long 0]))]) (TYP cI cV cJ cL) (va_A [(M, .inr (6, [.int 0, .int 0, .int 0, .int 0, .int 0, .ref a0, .ref a1, .ref a2, .ref a3, .int 0, .null, .long 0]))] sz)) (va_A [(M, .inr (6, [.int 0, .int 0, .int 0, .int 0, .int 0, .ref a0, .ref a1, .ref a2, .ref a3, .int 0, .null, .long 0]))] sz)) 0 0 (va_A [(M, .inr (6, [.int 0, .int 0, .int 0, .int 0, .int 0, .ref a0, .ref a1, .ref a2, .ref a3, .int 0, .null, .long 0]))] sz) := by
  refine Met.ofW (cc := cX6_isSet) (maxL := 2) (ret := (some .boolean)) (by decide) rfl ?_
  intro p e s m args below meth c s₁ B hml hv
  obtain ⟨rfl, hsz, hP, hK, hD0, hN⟩ := hv
  have hx := B.exec
  have hb := B.bytes
  have hr := B.returns
  have hts := atoms_spec (ws := (Cond.code yX6_isSet cX6_isSet 2 (some .boolean) :: TB)) B.pre
  have hown : s.vm.findClass RX6 = some m.cls := findClass_of_methodNamed B.named
  have hlocks := B.notSynchronized
  subst hsz
  have hD := hD0.self (sz := s.heap.size)
  generalize hAe : va_A [(M, .inr (6, [.int 0, .int 0, .int 0, .int 0, .int 0, .ref a0, .ref a1, .ref a2, .ref a3, .int 0, .null, .long 0]))] s.heap.size = A at hD ⊢
  have hA : ∀ q : Nat, s.heap.size ≤ q → A q := fun q h => by rw [← hAe]; exact Or.inr h
  have hS : va_S A s.heap s.heap [] := va_S.rf
  have hl := lv_entry ([.ref M, .int p0]) (n := 2) (Nat.le_of_ble_eq_true rfl)
  rw [lg_entry_eq]
  generalize (lg_sl ([.ref M, .int p0]) ++ List.replicate (2 - (lg_sl ([.ref M, .int p0])).length) Slot.unset).toArray = ls at hl ⊢
  have hl : lv_has ls 2 [(0, .ref M), (1, .int p0)] := hl
  refine lv_aload_n hx hb dX6_isSet_0 rfl (lv_at hl 0 rfl) ?_
  refine lv_aload_n hx hb dX6_isSet_1 rfl (lv_at hl 0 rfl) ?_
  refine lv_iload_n hx hb dX6_isSet_2 rfl (lv_at hl 1 rfl) ?_
  refine n_Vz (ci := 6) (q0 := 0) (wc := [(M, .inr (6, [.int 0, .int 0, .int 0, .int 0, .int 0, .ref a0, .ref a1, .ref a2, .ref a3, .int 0, .null, .long 0]))]) (wr := []) [.int p0] [0] [] ⟨hx, hb, hml, hown, hts⟩ (fun sz => c_X6_isJob l dC dI cI cV cJ cL M a0 a1 a2 a3 0 0 0 (.null) 0 p0 sz) q_ml_X6_177 q_im_X6_isJob q_se_X6_isJob q_ini_X6 q_co_X6_isJob (n := 1) (by decide +kernel) rfl ⟨rfl, rfl⟩ ⟨Nat.le_of_ble_eq_true rfl, Nat.le_of_ble_eq_true rfl⟩ hP hD hS hA hK hN rfl rfl (by decide) (by decide) (by decide) rfl rfl rfl hl.1 rfl (Nat.le_of_ble_eq_true rfl) dX6_isSet_3 ⟨Nat.le_of_ble_eq_true rfl, Nat.le_of_ble_eq_true rfl⟩ (fun r_2 u_1 H locs hu_1 hP hD hS => ?_)
  have hP : va_P (dC, dI) cls [(M, .inr (6, [.int 0, .int 0, .int 0, .int 0, .int 0, .ref a0, .ref a1, .ref a2, .ref a3, .int 0, .null, .long 0]))] H := hP
  have hD : va_D A [(M, .inr (6, [.int 0, .int 0, .int 0, .int 0, .int 0, .ref a0, .ref a1, .ref a2, .ref a3, .int 0, .null, .long 0]))] := hD
  obtain rfl := hu_1
  refine lv_if_eq (tgt := 13) hx hb dX6_isSet_6 (by decide) (fun c_3 => ?_) (fun c_3 => ?_)
  rotate_left
  · first | exact absurd c_3 (by decide) | exact absurd (by decide) c_3
  refine lv_iconst (v := 1) hx hb dX6_isSet_13 (by decide) ?_
  refine va_put (D := (dC, dI)) (ci := 6) (v := .int 1) (ty := .int) (C := RX6) (T := TX6) (N := 12) hx hb hts (fun w h => tb_in (inX6 w h)) tyX6 tyX6_ok nmX6 hown hK hP hD hS 0 rfl rfl 0 (by decide) (hts _ (tb_in q_fl_X6_24)) (fun _ h9 => h9) rfl (by decide +kernel) rfl rfl (Nat.le_of_ble_eq_true rfl) dX6_isSet_14 (fun H locs hP hD hS => ?_)
  have hP : va_P (dC, dI) cls [(M, .inr (6, [.int 1, .int 0, .int 0, .int 0, .int 0, .ref a0, .ref a1, .ref a2, .ref a3, .int 0, .null, .long 0]))] H := hP
  have hD : va_D A [(M, .inr (6, [.int 1, .int 0, .int 0, .int 0, .int 0, .ref a0, .ref a1, .ref a2, .ref a3, .int 0, .null, .long 0]))] := hD
  refine lv_aload_n hx hb dX6_isSet_17 rfl (lv_at hl 0 rfl) ?_
  refine va_get (D := (dC, dI)) (ci := 6) (v := .int 1) (C := RX6) (T := TX6) (N := 12) hx hb hts (fun w h => tb_in (inX6 w h)) hown hK hP 0 rfl rfl 0 (by decide) (hts _ (tb_in q_fl_X6_24)) (fun _ h9 => h9) rfl dX6_isSet_18 ?_
  refine lv_if_ne (tgt := 36) hx hb dX6_isSet_21 (by decide) (fun c_4 => ?_) (fun c_4 => ?_)
  rotate_left
  · first | exact absurd c_4 (by decide) | exact absurd (by decide) c_4
  refine lv_iconst (v := 0) hx hb dX6_isSet_36 (by decide) ?_
  refine W.widen (k := 0) (n := 0) (Nat.le_of_ble_eq_true rfl) (Nat.le_of_ble_eq_true rfl) ?_
  have hP := hP.sub (ws' := [(M, .inr (6, [.int 1, .int 0, .int 0, .int 0, .int 0, .ref a0, .ref a1, .ref a2, .ref a3, .int 0, .null, .long 0]))]) [0] rfl
  have hD := hD.sub (ws' := [(M, .inr (6, [.int 1, .int 0, .int 0, .int 0, .int 0, .ref a0, .ref a1, .ref a2, .ref a3, .int 0, .null, .long 0]))]) [0] (by decide) rfl
  have hP9 := hP
  have hD9 := hD
  exact W.zret (v := 0) hx hb hr rfl (fun t9 ht9 hW9 => ⟨⟨_, (1, 0, 0, .null), rfl, ⟨rfl, (fun _ => rfl)⟩, by rw [ht9]; exact hP9, va_K.moved hW9.alike hK, hD9⟩, hS.F ht9⟩) hS.2.2 dX6_isSet_37
set_option maxHeartbeats 4000000 in
set_option maxRecDepth 100000 in
theorem c_X6_stops (l : Launch) (dC : Nat → ClassId) (dI : Nat → Nat → Nat) (cI cV cJ cL : ClassId) (M a0 a1 a2 a3 : Nat) (p0 : Int32)  (sz : Nat) : Met l yX6_stops (Cond.code yX6_stops cX6_stops 2 (some .int) :: TB) ({ frames := 2, cells := 0, slots := 0, locals := 45 } : Room) (PW [.ref M, .int p0] (dC, dI) [(M, .inr (6, [.int 0, .int 0, .int 0, .int 0, .int 0, .ref a0, .ref a1, .ref a2, .ref a3, .int 0, .null, .long 0]))] (TYP cI cV cJ cL) sz) (va_Qi (fun (r : Int32) (u : Int32 × Int32 × Int32 × Value) => u.1 = 1 ∧ (1 = 0 → r = 0)) (QB (dC, dI) (fun (u : Int32 × Int32 × Int32 × Value) => [(M, .inr (6, [.int u.1, .int u.2.1, .int 0, .int 0, .int u.2.2.1, .ref a0, .ref a1, .ref a2, .ref a3, .int 0, u.2.2.2, .long 0]))]) (TYP cI cV cJ cL) (va_A [(M, .inr (6, [.int 0, .int 0, .int 0, .int 0, .int 0, .ref a0, .ref a1, .ref a2, .ref a3, .int 0, .null, .long 0]))] sz)) (va_A [(M, .inr (6, [.int 0, .int 0, .int 0, .int 0, .int 0, .ref a0, .ref a1, .ref a2, .ref a3, .int 0, .null, .long 0]))] sz)) 0 0 (va_A [(M, .inr (6, [.int 0, .int 0, .int 0, .int 0, .int 0, .ref a0, .ref a1, .ref a2, .ref a3, .int 0, .null, .long 0]))] sz) := by
  refine Met.ofW (cc := cX6_stops) (maxL := 2) (ret := (some .int)) (by decide) rfl ?_
  intro p e s m args below meth c s₁ B hml hv
  obtain ⟨rfl, hsz, hP, hK, hD0, hN⟩ := hv
  have hx := B.exec
  have hb := B.bytes
  have hr := B.returns
  have hts := atoms_spec (ws := (Cond.code yX6_stops cX6_stops 2 (some .int) :: TB)) B.pre
  have hown : s.vm.findClass RX6 = some m.cls := findClass_of_methodNamed B.named
  have hlocks := B.notSynchronized
  subst hsz
  have hD := hD0.self (sz := s.heap.size)
  generalize hAe : va_A [(M, .inr (6, [.int 0, .int 0, .int 0, .int 0, .int 0, .ref a0, .ref a1, .ref a2, .ref a3, .int 0, .null, .long 0]))] s.heap.size = A at hD ⊢
  have hA : ∀ q : Nat, s.heap.size ≤ q → A q := fun q h => by rw [← hAe]; exact Or.inr h
  have hS : va_S A s.heap s.heap [] := va_S.rf
  have hl := lv_entry ([.ref M, .int p0]) (n := 2) (Nat.le_of_ble_eq_true rfl)
  rw [lg_entry_eq]
  generalize (lg_sl ([.ref M, .int p0]) ++ List.replicate (2 - (lg_sl ([.ref M, .int p0])).length) Slot.unset).toArray = ls at hl ⊢
  have hl : lv_has ls 2 [(0, .ref M), (1, .int p0)] := hl
  refine lv_aload_n hx hb dX6_stops_0 rfl (lv_at hl 0 rfl) ?_
  refine lv_iconst (v := 0) hx hb dX6_stops_1 (by decide) ?_
  refine va_put (D := (dC, dI)) (ci := 6) (v := .int 0) (ty := .int) (C := RX6) (T := TX6) (N := 12) hx hb hts (fun w h => tb_in (inX6 w h)) tyX6 tyX6_ok nmX6 hown hK hP hD hS 0 rfl rfl 0 (by decide) (hts _ (tb_in q_fl_X6_24)) (fun _ h9 => h9) rfl (by decide +kernel) rfl rfl (Nat.le_of_ble_eq_true rfl) dX6_stops_2 (fun H locs hP hD hS => ?_)
  have hP : va_P (dC, dI) cls [(M, .inr (6, [.int 0, .int 0, .int 0, .int 0, .int 0, .ref a0, .ref a1, .ref a2, .ref a3, .int 0, .null, .long 0]))] H := hP
  have hD : va_D A [(M, .inr (6, [.int 0, .int 0, .int 0, .int 0, .int 0, .ref a0, .ref a1, .ref a2, .ref a3, .int 0, .null, .long 0]))] := hD
  refine lv_aload_n hx hb dX6_stops_5 rfl (lv_at hl 0 rfl) ?_
  refine lv_iload_n hx hb dX6_stops_6 rfl (lv_at hl 1 rfl) ?_
  refine n_Vz (ci := 6) (q0 := 0) (wc := [(M, .inr (6, [.int 0, .int 0, .int 0, .int 0, .int 0, .ref a0, .ref a1, .ref a2, .ref a3, .int 0, .null, .long 0]))]) (wr := []) [.int p0] [0] [] ⟨hx, hb, hml, hown, hts⟩ (fun sz => c_X6_isVehicle l dC dI cI cV cJ cL M a0 a1 a2 a3 0 0 0 (.null) 0 p0 sz) q_ml_X6_191 q_im_X6_isVehicle q_se_X6_isVehicle q_ini_X6 q_co_X6_isVehicle (n := 1) (by decide +kernel) rfl ⟨rfl, rfl⟩ ⟨Nat.le_of_ble_eq_true rfl, Nat.le_of_ble_eq_true rfl⟩ hP hD hS hA hK hN rfl rfl (by decide) (by decide) (by decide) rfl rfl rfl hl.1 rfl (Nat.le_of_ble_eq_true rfl) dX6_stops_7 ⟨Nat.le_of_ble_eq_true rfl, Nat.le_of_ble_eq_true rfl⟩ (fun r_2 u_1 H locs hu_1 hP hD hS => ?_)
  have hP : va_P (dC, dI) cls [(M, .inr (6, [.int 0, .int 0, .int 0, .int 0, .int 0, .ref a0, .ref a1, .ref a2, .ref a3, .int 0, .null, .long 0]))] H := hP
  have hD : va_D A [(M, .inr (6, [.int 0, .int 0, .int 0, .int 0, .int 0, .ref a0, .ref a1, .ref a2, .ref a3, .int 0, .null, .long 0]))] := hD
  obtain rfl := hu_1
  refine lv_if_eq (tgt := 23) hx hb dX6_stops_10 (by decide) (fun c_3 => ?_) (fun c_3 => ?_)
  rotate_left
  · first | exact absurd c_3 (by decide) | exact absurd (by decide) c_3
  refine lv_aload_n hx hb dX6_stops_23 rfl (lv_at hl 0 rfl) ?_
  refine lv_iconst (v := 1) hx hb dX6_stops_24 (by decide) ?_
  refine n_Vi (ci := 6) (q0 := 0) (wc := [(M, .inr (6, [.int 0, .int 0, .int 0, .int 0, .int 0, .ref a0, .ref a1, .ref a2, .ref a3, .int 0, .null, .long 0]))]) (wr := []) [.int 1] [0] [] ⟨hx, hb, hml, hown, hts⟩ (fun sz => c_X6_refuse l dC dI cI cV cJ cL M a0 a1 a2 a3 0 0 0 (.null) 0 1 sz) q_ml_X6_171 q_im_X6_refuse q_se_X6_refuse q_ini_X6 q_co_X6_refuse (n := 1) (by decide +kernel) rfl ⟨rfl, rfl⟩ ⟨Nat.le_of_ble_eq_true rfl, Nat.le_of_ble_eq_true rfl⟩ hP hD hS hA hK hN rfl rfl (by decide) (by decide) (by decide) rfl rfl rfl hl.1 rfl (Nat.le_of_ble_eq_true rfl) dX6_stops_25 ⟨Nat.le_of_ble_eq_true rfl, Nat.le_of_ble_eq_true rfl⟩ (fun r_5 u_4 H locs hu_4 hP hD hS => ?_)
  have hP : va_P (dC, dI) cls [(M, .inr (6, [.int 1, .int 0, .int 0, .int 0, .int 0, .ref a0, .ref a1, .ref a2, .ref a3, .int 0, .null, .long 0]))] H := hP
  have hD : va_D A [(M, .inr (6, [.int 1, .int 0, .int 0, .int 0, .int 0, .ref a0, .ref a1, .ref a2, .ref a3, .int 0, .null, .long 0]))] := hD
  obtain rfl := hu_4
  refine W.widen (k := 0) (n := 0) (Nat.le_of_ble_eq_true rfl) (Nat.le_of_ble_eq_true rfl) ?_
  have hP := hP.sub (ws' := [(M, .inr (6, [.int 1, .int 0, .int 0, .int 0, .int 0, .ref a0, .ref a1, .ref a2, .ref a3, .int 0, .null, .long 0]))]) [0] rfl
  have hD := hD.sub (ws' := [(M, .inr (6, [.int 1, .int 0, .int 0, .int 0, .int 0, .ref a0, .ref a1, .ref a2, .ref a3, .int 0, .null, .long 0]))]) [0] (by decide) rfl
  have hP9 := hP
  have hD9 := hD
  exact W.iret (v := 0) hx hb hr (fun t9 ht9 hW9 => ⟨⟨_, (1, 0, 0, .null), rfl, ⟨rfl, (fun _ => rfl)⟩, by rw [ht9]; exact hP9, va_K.moved hW9.alike hK, hD9⟩, hS.F ht9⟩) hS.2.2 dX6_stops_28
set_option maxHeartbeats 4000000 in
set_option maxRecDepth 100000 in
theorem c_X6_setStops (l : Launch) (dC : Nat → ClassId) (dI : Nat → Nat → Nat) (cI cV cJ cL : ClassId) (M a0 a1 a2 a3 : Nat) (p0 : Int32)  (sz : Nat) : Met l yX6_setStops (Cond.code yX6_setStops cX6_setStops 2 (some .int) :: TB) ({ frames := 2, cells := 0, slots := 0, locals := 45 } : Room) (PW [.ref M, .int p0] (dC, dI) [(M, .inr (6, [.int 0, .int 0, .int 0, .int 0, .int 0, .ref a0, .ref a1, .ref a2, .ref a3, .int 0, .null, .long 0]))] (TYP cI cV cJ cL) sz) (va_Qi (fun (r : Int32) (u : Int32 × Int32 × Int32 × Value) => u.1 = 1 ∧ (1 = 0 → r = 0)) (QB (dC, dI) (fun (u : Int32 × Int32 × Int32 × Value) => [(M, .inr (6, [.int u.1, .int u.2.1, .int 0, .int 0, .int u.2.2.1, .ref a0, .ref a1, .ref a2, .ref a3, .int 0, u.2.2.2, .long 0]))]) (TYP cI cV cJ cL) (va_A [(M, .inr (6, [.int 0, .int 0, .int 0, .int 0, .int 0, .ref a0, .ref a1, .ref a2, .ref a3, .int 0, .null, .long 0]))] sz)) (va_A [(M, .inr (6, [.int 0, .int 0, .int 0, .int 0, .int 0, .ref a0, .ref a1, .ref a2, .ref a3, .int 0, .null, .long 0]))] sz)) 0 0 (va_A [(M, .inr (6, [.int 0, .int 0, .int 0, .int 0, .int 0, .ref a0, .ref a1, .ref a2, .ref a3, .int 0, .null, .long 0]))] sz) := by
  refine Met.ofW (cc := cX6_setStops) (maxL := 2) (ret := (some .int)) (by decide) rfl ?_
  intro p e s m args below meth c s₁ B hml hv
  obtain ⟨rfl, hsz, hP, hK, hD0, hN⟩ := hv
  have hx := B.exec
  have hb := B.bytes
  have hr := B.returns
  have hts := atoms_spec (ws := (Cond.code yX6_setStops cX6_setStops 2 (some .int) :: TB)) B.pre
  have hown : s.vm.findClass RX6 = some m.cls := findClass_of_methodNamed B.named
  have hlocks := B.notSynchronized
  subst hsz
  have hD := hD0.self (sz := s.heap.size)
  generalize hAe : va_A [(M, .inr (6, [.int 0, .int 0, .int 0, .int 0, .int 0, .ref a0, .ref a1, .ref a2, .ref a3, .int 0, .null, .long 0]))] s.heap.size = A at hD ⊢
  have hA : ∀ q : Nat, s.heap.size ≤ q → A q := fun q h => by rw [← hAe]; exact Or.inr h
  have hS : va_S A s.heap s.heap [] := va_S.rf
  have hl := lv_entry ([.ref M, .int p0]) (n := 2) (Nat.le_of_ble_eq_true rfl)
  rw [lg_entry_eq]
  generalize (lg_sl ([.ref M, .int p0]) ++ List.replicate (2 - (lg_sl ([.ref M, .int p0])).length) Slot.unset).toArray = ls at hl ⊢
  have hl : lv_has ls 2 [(0, .ref M), (1, .int p0)] := hl
  refine lv_aload_n hx hb dX6_setStops_0 rfl (lv_at hl 0 rfl) ?_
  refine lv_iconst (v := 0) hx hb dX6_setStops_1 (by decide) ?_
  refine va_put (D := (dC, dI)) (ci := 6) (v := .int 0) (ty := .int) (C := RX6) (T := TX6) (N := 12) hx hb hts (fun w h => tb_in (inX6 w h)) tyX6 tyX6_ok nmX6 hown hK hP hD hS 0 rfl rfl 0 (by decide) (hts _ (tb_in q_fl_X6_24)) (fun _ h9 => h9) rfl (by decide +kernel) rfl rfl (Nat.le_of_ble_eq_true rfl) dX6_setStops_2 (fun H locs hP hD hS => ?_)
  have hP : va_P (dC, dI) cls [(M, .inr (6, [.int 0, .int 0, .int 0, .int 0, .int 0, .ref a0, .ref a1, .ref a2, .ref a3, .int 0, .null, .long 0]))] H := hP
  have hD : va_D A [(M, .inr (6, [.int 0, .int 0, .int 0, .int 0, .int 0, .ref a0, .ref a1, .ref a2, .ref a3, .int 0, .null, .long 0]))] := hD
  refine lv_aload_n hx hb dX6_setStops_5 rfl (lv_at hl 0 rfl) ?_
  refine lv_iload_n hx hb dX6_setStops_6 rfl (lv_at hl 1 rfl) ?_
  refine n_Vz (ci := 6) (q0 := 0) (wc := [(M, .inr (6, [.int 0, .int 0, .int 0, .int 0, .int 0, .ref a0, .ref a1, .ref a2, .ref a3, .int 0, .null, .long 0]))]) (wr := []) [.int p0] [0] [] ⟨hx, hb, hml, hown, hts⟩ (fun sz => c_X6_isVehicle l dC dI cI cV cJ cL M a0 a1 a2 a3 0 0 0 (.null) 0 p0 sz) q_ml_X6_191 q_im_X6_isVehicle q_se_X6_isVehicle q_ini_X6 q_co_X6_isVehicle (n := 1) (by decide +kernel) rfl ⟨rfl, rfl⟩ ⟨Nat.le_of_ble_eq_true rfl, Nat.le_of_ble_eq_true rfl⟩ hP hD hS hA hK hN rfl rfl (by decide) (by decide) (by decide) rfl rfl rfl hl.1 rfl (Nat.le_of_ble_eq_true rfl) dX6_setStops_7 ⟨Nat.le_of_ble_eq_true rfl, Nat.le_of_ble_eq_true rfl⟩ (fun r_2 u_1 H locs hu_1 hP hD hS => ?_)
  have hP : va_P (dC, dI) cls [(M, .inr (6, [.int 0, .int 0, .int 0, .int 0, .int 0, .ref a0, .ref a1, .ref a2, .ref a3, .int 0, .null, .long 0]))] H := hP
  have hD : va_D A [(M, .inr (6, [.int 0, .int 0, .int 0, .int 0, .int 0, .ref a0, .ref a1, .ref a2, .ref a3, .int 0, .null, .long 0]))] := hD
  obtain rfl := hu_1
  refine lv_if_eq (tgt := 27) hx hb dX6_setStops_10 (by decide) (fun c_3 => ?_) (fun c_3 => ?_)
  rotate_left
  · first | exact absurd c_3 (by decide) | exact absurd (by decide) c_3
  refine lv_aload_n hx hb dX6_setStops_27 rfl (lv_at hl 0 rfl) ?_
  refine lv_iconst (v := 1) hx hb dX6_setStops_28 (by decide) ?_
  refine n_Vi (ci := 6) (q0 := 0) (wc := [(M, .inr (6, [.int 0, .int 0, .int 0, .int 0, .int 0, .ref a0, .ref a1, .ref a2, .ref a3, .int 0, .null, .long 0]))]) (wr := []) [.int 1] [0] [] ⟨hx, hb, hml, hown, hts⟩ (fun sz => c_X6_refuse l dC dI cI cV cJ cL M a0 a1 a2 a3 0 0 0 (.null) 0 1 sz) q_ml_X6_171 q_im_X6_refuse q_se_X6_refuse q_ini_X6 q_co_X6_refuse (n := 1) (by decide +kernel) rfl ⟨rfl, rfl⟩ ⟨Nat.le_of_ble_eq_true rfl, Nat.le_of_ble_eq_true rfl⟩ hP hD hS hA hK hN rfl rfl (by decide) (by decide) (by decide) rfl rfl rfl hl.1 rfl (Nat.le_of_ble_eq_true rfl) dX6_setStops_29 ⟨Nat.le_of_ble_eq_true rfl, Nat.le_of_ble_eq_true rfl⟩ (fun r_5 u_4 H locs hu_4 hP hD hS => ?_)
  have hP : va_P (dC, dI) cls [(M, .inr (6, [.int 1, .int 0, .int 0, .int 0, .int 0, .ref a0, .ref a1, .ref a2, .ref a3, .int 0, .null, .long 0]))] H := hP
  have hD : va_D A [(M, .inr (6, [.int 1, .int 0, .int 0, .int 0, .int 0, .ref a0, .ref a1, .ref a2, .ref a3, .int 0, .null, .long 0]))] := hD
  obtain rfl := hu_4
  refine W.widen (k := 0) (n := 0) (Nat.le_of_ble_eq_true rfl) (Nat.le_of_ble_eq_true rfl) ?_
  have hP := hP.sub (ws' := [(M, .inr (6, [.int 1, .int 0, .int 0, .int 0, .int 0, .ref a0, .ref a1, .ref a2, .ref a3, .int 0, .null, .long 0]))]) [0] rfl
  have hD := hD.sub (ws' := [(M, .inr (6, [.int 1, .int 0, .int 0, .int 0, .int 0, .ref a0, .ref a1, .ref a2, .ref a3, .int 0, .null, .long 0]))]) [0] (by decide) rfl
  have hP9 := hP
  have hD9 := hD
  exact W.iret (v := 0) hx hb hr (fun t9 ht9 hW9 => ⟨⟨_, (1, 0, 0, .null), rfl, ⟨rfl, (fun _ => rfl)⟩, by rw [ht9]; exact hP9, va_K.moved hW9.alike hK, hD9⟩, hS.F ht9⟩) hS.2.2 dX6_setStops_32
set_option maxHeartbeats 4000000 in
set_option maxRecDepth 100000 in
theorem c_X6_back (l : Launch) (dC : Nat → ClassId) (dI : Nat → Nat → Nat) (cI cV cJ cL : ClassId) (M a0 a1 a2 a3 : Nat) (p0 : Int32)  (sz : Nat) : Met l yX6_back (Cond.code yX6_back cX6_back 2 (some .int) :: TB) ({ frames := 2, cells := 0, slots := 0, locals := 45 } : Room) (PW [.ref M, .int p0] (dC, dI) [(M, .inr (6, [.int 0, .int 0, .int 0, .int 0, .int 0, .ref a0, .ref a1, .ref a2, .ref a3, .int 0, .null, .long 0]))] (TYP cI cV cJ cL) sz) (va_Qi (fun (r : Int32) (u : Int32 × Int32 × Int32 × Value) => u.1 = 1 ∧ (1 = 0 → r = 0)) (QB (dC, dI) (fun (u : Int32 × Int32 × Int32 × Value) => [(M, .inr (6, [.int u.1, .int u.2.1, .int 0, .int 0, .int u.2.2.1, .ref a0, .ref a1, .ref a2, .ref a3, .int 0, u.2.2.2, .long 0]))]) (TYP cI cV cJ cL) (va_A [(M, .inr (6, [.int 0, .int 0, .int 0, .int 0, .int 0, .ref a0, .ref a1, .ref a2, .ref a3, .int 0, .null, .long 0]))] sz)) (va_A [(M, .inr (6, [.int 0, .int 0, .int 0, .int 0, .int 0, .ref a0, .ref a1, .ref a2, .ref a3, .int 0, .null, .long 0]))] sz)) 0 0 (va_A [(M, .inr (6, [.int 0, .int 0, .int 0, .int 0, .int 0, .ref a0, .ref a1, .ref a2, .ref a3, .int 0, .null, .long 0]))] sz) := by
  refine Met.ofW (cc := cX6_back) (maxL := 2) (ret := (some .int)) (by decide) rfl ?_
  intro p e s m args below meth c s₁ B hml hv
  obtain ⟨rfl, hsz, hP, hK, hD0, hN⟩ := hv
  have hx := B.exec
  have hb := B.bytes
  have hr := B.returns
  have hts := atoms_spec (ws := (Cond.code yX6_back cX6_back 2 (some .int) :: TB)) B.pre
  have hown : s.vm.findClass RX6 = some m.cls := findClass_of_methodNamed B.named
  have hlocks := B.notSynchronized
  subst hsz
  have hD := hD0.self (sz := s.heap.size)
  generalize hAe : va_A [(M, .inr (6, [.int 0, .int 0, .int 0, .int 0, .int 0, .ref a0, .ref a1, .ref a2, .ref a3, .int 0, .null, .long 0]))] s.heap.size = A at hD ⊢
  have hA : ∀ q : Nat, s.heap.size ≤ q → A q := fun q h => by rw [← hAe]; exact Or.inr h
  have hS : va_S A s.heap s.heap [] := va_S.rf
  have hl := lv_entry ([.ref M, .int p0]) (n := 2) (Nat.le_of_ble_eq_true rfl)
  rw [lg_entry_eq]
  generalize (lg_sl ([.ref M, .int p0]) ++ List.replicate (2 - (lg_sl ([.ref M, .int p0])).length) Slot.unset).toArray = ls at hl ⊢
  have hl : lv_has ls 2 [(0, .ref M), (1, .int p0)] := hl
  refine lv_aload_n hx hb dX6_back_0 rfl (lv_at hl 0 rfl) ?_
  refine lv_iconst (v := 0) hx hb dX6_back_1 (by decide) ?_
  refine va_put (D := (dC, dI)) (ci := 6) (v := .int 0) (ty := .int) (C := RX6) (T := TX6) (N := 12) hx hb hts (fun w h => tb_in (inX6 w h)) tyX6 tyX6_ok nmX6 hown hK hP hD hS 0 rfl rfl 0 (by decide) (hts _ (tb_in q_fl_X6_24)) (fun _ h9 => h9) rfl (by decide +kernel) rfl rfl (Nat.le_of_ble_eq_true rfl) dX6_back_2 (fun H locs hP hD hS => ?_)
  have hP : va_P (dC, dI) cls [(M, .inr (6, [.int 0, .int 0, .int 0, .int 0, .int 0, .ref a0, .ref a1, .ref a2, .ref a3, .int 0, .null, .long 0]))] H := hP
  have hD : va_D A [(M, .inr (6, [.int 0, .int 0, .int 0, .int 0, .int 0, .ref a0, .ref a1, .ref a2, .ref a3, .int 0, .null, .long 0]))] := hD
  refine lv_aload_n hx hb dX6_back_5 rfl (lv_at hl 0 rfl) ?_
  refine lv_iload_n hx hb dX6_back_6 rfl (lv_at hl 1 rfl) ?_
  refine n_Vz (ci := 6) (q0 := 0) (wc := [(M, .inr (6, [.int 0, .int 0, .int 0, .int 0, .int 0, .ref a0, .ref a1, .ref a2, .ref a3, .int 0, .null, .long 0]))]) (wr := []) [.int p0] [0] [] ⟨hx, hb, hml, hown, hts⟩ (fun sz => c_X6_isVehicle l dC dI cI cV cJ cL M a0 a1 a2 a3 0 0 0 (.null) 0 p0 sz) q_ml_X6_191 q_im_X6_isVehicle q_se_X6_isVehicle q_ini_X6 q_co_X6_isVehicle (n := 1) (by decide +kernel) rfl ⟨rfl, rfl⟩ ⟨Nat.le_of_ble_eq_true rfl, Nat.le_of_ble_eq_true rfl⟩ hP hD hS hA hK hN rfl rfl (by decide) (by decide) (by decide) rfl rfl rfl hl.1 rfl (Nat.le_of_ble_eq_true rfl) dX6_back_7 ⟨Nat.le_of_ble_eq_true rfl, Nat.le_of_ble_eq_true rfl⟩ (fun r_2 u_1 H locs hu_1 hP hD hS => ?_)
  have hP : va_P (dC, dI) cls [(M, .inr (6, [.int 0, .int 0, .int 0, .int 0, .int 0, .ref a0, .ref a1, .ref a2, .ref a3, .int 0, .null, .long 0]))] H := hP
  have hD : va_D A [(M, .inr (6, [.int 0, .int 0, .int 0, .int 0, .int 0, .ref a0, .ref a1, .ref a2, .ref a3, .int 0, .null, .long 0]))] := hD
  obtain rfl := hu_1
  refine lv_if_eq (tgt := 27) hx hb dX6_back_10 (by decide) (fun c_3 => ?_) (fun c_3 => ?_)
  rotate_left
  · first | exact absurd c_3 (by decide) | exact absurd (by decide) c_3
  refine lv_aload_n hx hb dX6_back_27 rfl (lv_at hl 0 rfl) ?_
  refine lv_iconst (v := 1) hx hb dX6_back_28 (by decide) ?_
  refine n_Vi (ci := 6) (q0 := 0) (wc := [(M, .inr (6, [.int 0, .int 0, .int 0, .int 0, .int 0, .ref a0, .ref a1, .ref a2, .ref a3, .int 0, .null, .long 0]))]) (wr := []) [.int 1] [0] [] ⟨hx, hb, hml, hown, hts⟩ (fun sz => c_X6_refuse l dC dI cI cV cJ cL M a0 a1 a2 a3 0 0 0 (.null) 0 1 sz) q_ml_X6_171 q_im_X6_refuse q_se_X6_refuse q_ini_X6 q_co_X6_refuse (n := 1) (by decide +kernel) rfl ⟨rfl, rfl⟩ ⟨Nat.le_of_ble_eq_true rfl, Nat.le_of_ble_eq_true rfl⟩ hP hD hS hA hK hN rfl rfl (by decide) (by decide) (by decide) rfl rfl rfl hl.1 rfl (Nat.le_of_ble_eq_true rfl) dX6_back_29 ⟨Nat.le_of_ble_eq_true rfl, Nat.le_of_ble_eq_true rfl⟩ (fun r_5 u_4 H locs hu_4 hP hD hS => ?_)
  have hP : va_P (dC, dI) cls [(M, .inr (6, [.int 1, .int 0, .int 0, .int 0, .int 0, .ref a0, .ref a1, .ref a2, .ref a3, .int 0, .null, .long 0]))] H := hP
  have hD : va_D A [(M, .inr (6, [.int 1, .int 0, .int 0, .int 0, .int 0, .ref a0, .ref a1, .ref a2, .ref a3, .int 0, .null, .long 0]))] := hD
  obtain rfl := hu_4
  refine W.widen (k := 0) (n := 0) (Nat.le_of_ble_eq_true rfl) (Nat.le_of_ble_eq_true rfl) ?_
  have hP := hP.sub (ws' := [(M, .inr (6, [.int 1, .int 0, .int 0, .int 0, .int 0, .ref a0, .ref a1, .ref a2, .ref a3, .int 0, .null, .long 0]))]) [0] rfl
  have hD := hD.sub (ws' := [(M, .inr (6, [.int 1, .int 0, .int 0, .int 0, .int 0, .ref a0, .ref a1, .ref a2, .ref a3, .int 0, .null, .long 0]))]) [0] (by decide) rfl
  have hP9 := hP
  have hD9 := hD
  exact W.iret (v := 0) hx hb hr (fun t9 ht9 hW9 => ⟨⟨_, (1, 0, 0, .null), rfl, ⟨rfl, (fun _ => rfl)⟩, by rw [ht9]; exact hP9, va_K.moved hW9.alike hK, hD9⟩, hS.F ht9⟩) hS.2.2 dX6_back_32
set_option maxHeartbeats 4000000 in
set_option maxRecDepth 100000 in
theorem c_X6_waits (l : Launch) (dC : Nat → ClassId) (dI : Nat → Nat → Nat) (cI cV cJ cL : ClassId) (M a0 a1 a2 a3 : Nat) (p0 : Int32)  (sz : Nat) : Met l yX6_waits (Cond.code yX6_waits cX6_waits 2 (some .int) :: TB) ({ frames := 2, cells := 0, slots := 0, locals := 45 } : Room) (PW [.ref M, .int p0] (dC, dI) [(M, .inr (6, [.int 0, .int 0, .int 0, .int 0, .int 0, .ref a0, .ref a1, .ref a2, .ref a3, .int 0, .null, .long 0]))] (TYP cI cV cJ cL) sz) (va_Qi (fun (r : Int32) (u : Int32 × Int32 × Int32 × Value) => u.1 = 1 ∧ (1 = 0 → r = 0)) (QB (dC, dI) (fun (u : Int32 × Int32 × Int32 × Value) => [(M, .inr (6, [.int u.1, .int u.2.1, .int 0, .int 0, .int u.2.2.1, .ref a0, .ref a1, .ref a2, .ref a3, .int 0, u.2.2.2, .long 0]))]) (TYP cI cV cJ cL) (va_A [(M, .inr (6, [.int 0, .int 0, .int 0, .int 0, .int 0, .ref a0, .ref a1, .ref a2, .ref a3, .int 0, .null, .long 0]))] sz)) (va_A [(M, .inr (6, [.int 0, .int 0, .int 0, .int 0, .int 0, .ref a0, .ref a1, .ref a2, .ref a3, .int 0, .null, .long 0]))] sz)) 0 0 (va_A [(M, .inr (6, [.int 0, .int 0, .int 0, .int 0, .int 0, .ref a0, .ref a1, .ref a2, .ref a3, .int 0, .null, .long 0]))] sz) := by
  refine Met.ofW (cc := cX6_waits) (maxL := 2) (ret := (some .int)) (by decide) rfl ?_
  intro p e s m args below meth c s₁ B hml hv
  obtain ⟨rfl, hsz, hP, hK, hD0, hN⟩ := hv
  have hx := B.exec
  have hb := B.bytes
  have hr := B.returns
  have hts := atoms_spec (ws := (Cond.code yX6_waits cX6_waits 2 (some .int) :: TB)) B.pre
  have hown : s.vm.findClass RX6 = some m.cls := findClass_of_methodNamed B.named
  have hlocks := B.notSynchronized
  subst hsz
  have hD := hD0.self (sz := s.heap.size)
  generalize hAe : va_A [(M, .inr (6, [.int 0, .int 0, .int 0, .int 0, .int 0, .ref a0, .ref a1, .ref a2, .ref a3, .int 0, .null, .long 0]))] s.heap.size = A at hD ⊢
  have hA : ∀ q : Nat, s.heap.size ≤ q → A q := fun q h => by rw [← hAe]; exact Or.inr h
  have hS : va_S A s.heap s.heap [] := va_S.rf
  have hl := lv_entry ([.ref M, .int p0]) (n := 2) (Nat.le_of_ble_eq_true rfl)
  rw [lg_entry_eq]
  generalize (lg_sl ([.ref M, .int p0]) ++ List.replicate (2 - (lg_sl ([.ref M, .int p0])).length) Slot.unset).toArray = ls at hl ⊢
  have hl : lv_has ls 2 [(0, .ref M), (1, .int p0)] := hl
  refine lv_aload_n hx hb dX6_waits_0 rfl (lv_at hl 0 rfl) ?_
  refine lv_iconst (v := 0) hx hb dX6_waits_1 (by decide) ?_
  refine va_put (D := (dC, dI)) (ci := 6) (v := .int 0) (ty := .int) (C := RX6) (T := TX6) (N := 12) hx hb hts (fun w h => tb_in (inX6 w h)) tyX6 tyX6_ok nmX6 hown hK hP hD hS 0 rfl rfl 0 (by decide) (hts _ (tb_in q_fl_X6_24)) (fun _ h9 => h9) rfl (by decide +kernel) rfl rfl (Nat.le_of_ble_eq_true rfl) dX6_waits_2 (fun H locs hP hD hS => ?_)
  have hP : va_P (dC, dI) cls [(M, .inr (6, [.int 0, .int 0, .int 0, .int 0, .int 0, .ref a0, .ref a1, .ref a2, .ref a3, .int 0, .null, .long 0]))] H := hP
  have hD : va_D A [(M, .inr (6, [.int 0, .int 0, .int 0, .int 0, .int 0, .ref a0, .ref a1, .ref a2, .ref a3, .int 0, .null, .long 0]))] := hD
  refine lv_aload_n hx hb dX6_waits_5 rfl (lv_at hl 0 rfl) ?_
  refine lv_iload_n hx hb dX6_waits_6 rfl (lv_at hl 1 rfl) ?_
  refine n_Vz (ci := 6) (q0 := 0) (wc := [(M, .inr (6, [.int 0, .int 0, .int 0, .int 0, .int 0, .ref a0, .ref a1, .ref a2, .ref a3, .int 0, .null, .long 0]))]) (wr := []) [.int p0] [0] [] ⟨hx, hb, hml, hown, hts⟩ (fun sz => c_X6_isVehicle l dC dI cI cV cJ cL M a0 a1 a2 a3 0 0 0 (.null) 0 p0 sz) q_ml_X6_191 q_im_X6_isVehicle q_se_X6_isVehicle q_ini_X6 q_co_X6_isVehicle (n := 1) (by decide +kernel) rfl ⟨rfl, rfl⟩ ⟨Nat.le_of_ble_eq_true rfl, Nat.le_of_ble_eq_true rfl⟩ hP hD hS hA hK hN rfl rfl (by decide) (by decide) (by decide) rfl rfl rfl hl.1 rfl (Nat.le_of_ble_eq_true rfl) dX6_waits_7 ⟨Nat.le_of_ble_eq_true rfl, Nat.le_of_ble_eq_true rfl⟩ (fun r_2 u_1 H locs hu_1 hP hD hS => ?_)
  have hP : va_P (dC, dI) cls [(M, .inr (6, [.int 0, .int 0, .int 0, .int 0, .int 0, .ref a0, .ref a1, .ref a2, .ref a3, .int 0, .null, .long 0]))] H := hP
  have hD : va_D A [(M, .inr (6, [.int 0, .int 0, .int 0, .int 0, .int 0, .ref a0, .ref a1, .ref a2, .ref a3, .int 0, .null, .long 0]))] := hD
  obtain rfl := hu_1
  refine lv_if_eq (tgt := 21) hx hb dX6_waits_10 (by decide) (fun c_3 => ?_) (fun c_3 => ?_)
  rotate_left
  · first | exact absurd c_3 (by decide) | exact absurd (by decide) c_3
  refine lv_aload_n hx hb dX6_waits_21 rfl (lv_at hl 0 rfl) ?_
  refine lv_iconst (v := 1) hx hb dX6_waits_22 (by decide) ?_
  refine n_Vi (ci := 6) (q0 := 0) (wc := [(M, .inr (6, [.int 0, .int 0, .int 0, .int 0, .int 0, .ref a0, .ref a1, .ref a2, .ref a3, .int 0, .null, .long 0]))]) (wr := []) [.int 1] [0] [] ⟨hx, hb, hml, hown, hts⟩ (fun sz => c_X6_refuse l dC dI cI cV cJ cL M a0 a1 a2 a3 0 0 0 (.null) 0 1 sz) q_ml_X6_171 q_im_X6_refuse q_se_X6_refuse q_ini_X6 q_co_X6_refuse (n := 1) (by decide +kernel) rfl ⟨rfl, rfl⟩ ⟨Nat.le_of_ble_eq_true rfl, Nat.le_of_ble_eq_true rfl⟩ hP hD hS hA hK hN rfl rfl (by decide) (by decide) (by decide) rfl rfl rfl hl.1 rfl (Nat.le_of_ble_eq_true rfl) dX6_waits_23 ⟨Nat.le_of_ble_eq_true rfl, Nat.le_of_ble_eq_true rfl⟩ (fun r_5 u_4 H locs hu_4 hP hD hS => ?_)
  have hP : va_P (dC, dI) cls [(M, .inr (6, [.int 1, .int 0, .int 0, .int 0, .int 0, .ref a0, .ref a1, .ref a2, .ref a3, .int 0, .null, .long 0]))] H := hP
  have hD : va_D A [(M, .inr (6, [.int 1, .int 0, .int 0, .int 0, .int 0, .ref a0, .ref a1, .ref a2, .ref a3, .int 0, .null, .long 0]))] := hD
  obtain rfl := hu_4
  refine W.widen (k := 0) (n := 0) (Nat.le_of_ble_eq_true rfl) (Nat.le_of_ble_eq_true rfl) ?_
  have hP := hP.sub (ws' := [(M, .inr (6, [.int 1, .int 0, .int 0, .int 0, .int 0, .ref a0, .ref a1, .ref a2, .ref a3, .int 0, .null, .long 0]))]) [0] rfl
  have hD := hD.sub (ws' := [(M, .inr (6, [.int 1, .int 0, .int 0, .int 0, .int 0, .ref a0, .ref a1, .ref a2, .ref a3, .int 0, .null, .long 0]))]) [0] (by decide) rfl
  have hP9 := hP
  have hD9 := hD
  exact W.iret (v := 0) hx hb hr (fun t9 ht9 hW9 => ⟨⟨_, (1, 0, 0, .null), rfl, ⟨rfl, (fun _ => rfl)⟩, by rw [ht9]; exact hP9, va_K.moved hW9.alike hK, hD9⟩, hS.F ht9⟩) hS.2.2 dX6_waits_26
set_option maxHeartbeats 4000000 in
set_option maxRecDepth 100000 in
theorem c_X6_isRight (l : Launch) (dC : Nat → ClassId) (dI : Nat → Nat → Nat) (cI cV cJ cL : ClassId) (M a0 a1 a2 a3 : Nat) (p0 : Int32)  (sz : Nat) : Met l yX6_isRight (Cond.code yX6_isRight cX6_isRight 2 (some .boolean) :: TB) ({ frames := 2, cells := 0, slots := 0, locals := 45 } : Room) (PW [.ref M, .int p0] (dC, dI) [(M, .inr (6, [.int 0, .int 0, .int 0, .int 0, .int 0, .ref a0, .ref a1, .ref a2, .ref a3, .int 0, .null, .long 0]))] (TYP cI cV cJ cL) sz) (va_Qi (fun (r : Int32) (u : Int32 × Int32 × Int32 × Value) => u.1 = 1 ∧ (1 = 0 → r = 0)) (QB (dC, dI) (fun (u : Int32 × Int32 × Int32 × Value) => [(M, .inr (6, [.int u.1, .int u.2.1, .int 0, .int 0, .int u.2.2.1, .ref a0, .ref a1, .ref a2, .ref a3, .int 0, u.2.2.2, .long 0]))]) (TYP cI cV cJ cL) (va_A [(M, .inr (6, [.int 0, .int 0, .int 0, .int 0, .int 0, .ref a0, .ref a1, .ref a2, .ref a3, .int 0, .null, .long 0]))] sz)) (va_A [(M, .inr (6, [.int 0, .int 0, .int 0, .int 0, .int 0, .ref a0, .ref a1, .ref a2, .ref a3, .int 0, .null, .long 0]))] sz)) 0 0 (va_A [(M, .inr (6, [.int 0, .int 0, .int 0, .int 0, .int 0, .ref a0, .ref a1, .ref a2, .ref a3, .int 0, .null, .long 0]))] sz) := by
  refine Met.ofW (cc := cX6_isRight) (maxL := 2) (ret := (some .boolean)) (by decide) rfl ?_
  intro p e s m args below meth c s₁ B hml hv
  obtain ⟨rfl, hsz, hP, hK, hD0, hN⟩ := hv
  have hx := B.exec
  have hb := B.bytes
  have hr := B.returns
  have hts := atoms_spec (ws := (Cond.code yX6_isRight cX6_isRight 2 (some .boolean) :: TB)) B.pre
  have hown : s.vm.findClass RX6 = some m.cls := findClass_of_methodNamed B.named
  have hlocks := B.notSynchronized
  subst hsz
  have hD := hD0.self (sz := s.heap.size)
  generalize hAe : va_A [(M, .inr (6, [.int 0, .int 0, .int 0, .int 0, .int 0, .ref a0, .ref a1, .ref a2, .ref a3, .int 0, .null, .long 0]))] s.heap.size = A at hD ⊢
  have hA : ∀ q : Nat, s.heap.size ≤ q → A q := fun q h => by rw [← hAe]; exact Or.inr h
  have hS : va_S A s.heap s.heap [] := va_S.rf
  have hl := lv_entry ([.ref M, .int p0]) (n := 2) (Nat.le_of_ble_eq_true rfl)
  rw [lg_entry_eq]
  generalize (lg_sl ([.ref M, .int p0]) ++ List.replicate (2 - (lg_sl ([.ref M, .int p0])).length) Slot.unset).toArray = ls at hl ⊢
  have hl : lv_has ls 2 [(0, .ref M), (1, .int p0)] := hl
  refine lv_aload_n hx hb dX6_isRight_0 rfl (lv_at hl 0 rfl) ?_
  refine lv_aload_n hx hb dX6_isRight_1 rfl (lv_at hl 0 rfl) ?_
  refine lv_iload_n hx hb dX6_isRight_2 rfl (lv_at hl 1 rfl) ?_
  refine n_Vz (ci := 6) (q0 := 0) (wc := [(M, .inr (6, [.int 0, .int 0, .int 0, .int 0, .int 0, .ref a0, .ref a1, .ref a2, .ref a3, .int 0, .null, .long 0]))]) (wr := []) [.int p0] [0] [] ⟨hx, hb, hml, hown, hts⟩ (fun sz => c_X6_isVehicle l dC dI cI cV cJ cL M a0 a1 a2 a3 0 0 0 (.null) 0 p0 sz) q_ml_X6_191 q_im_X6_isVehicle q_se_X6_isVehicle q_ini_X6 q_co_X6_isVehicle (n := 1) (by decide +kernel) rfl ⟨rfl, rfl⟩ ⟨Nat.le_of_ble_eq_true rfl, Nat.le_of_ble_eq_true rfl⟩ hP hD hS hA hK hN rfl rfl (by decide) (by decide) (by decide) rfl rfl rfl hl.1 rfl (Nat.le_of_ble_eq_true rfl) dX6_isRight_3 ⟨Nat.le_of_ble_eq_true rfl, Nat.le_of_ble_eq_true rfl⟩ (fun r_2 u_1 H locs hu_1 hP hD hS => ?_)
  have hP : va_P (dC, dI) cls [(M, .inr (6, [.int 0, .int 0, .int 0, .int 0, .int 0, .ref a0, .ref a1, .ref a2, .ref a3, .int 0, .null, .long 0]))] H := hP
  have hD : va_D A [(M, .inr (6, [.int 0, .int 0, .int 0, .int 0, .int 0, .ref a0, .ref a1, .ref a2, .ref a3, .int 0, .null, .long 0]))] := hD
  obtain rfl := hu_1
  refine lv_if_eq (tgt := 13) hx hb dX6_isRight_6 (by decide) (fun c_3 => ?_) (fun c_3 => ?_)
  rotate_left
  · first | exact absurd c_3 (by decide) | exact absurd (by decide) c_3
  refine lv_iconst (v := 1) hx hb dX6_isRight_13 (by decide) ?_
  refine va_put (D := (dC, dI)) (ci := 6) (v := .int 1) (ty := .int) (C := RX6) (T := TX6) (N := 12) hx hb hts (fun w h => tb_in (inX6 w h)) tyX6 tyX6_ok nmX6 hown hK hP hD hS 0 rfl rfl 0 (by decide) (hts _ (tb_in q_fl_X6_24)) (fun _ h9 => h9) rfl (by decide +kernel) rfl rfl (Nat.le_of_ble_eq_true rfl) dX6_isRight_14 (fun H locs hP hD hS => ?_)
  have hP : va_P (dC, dI) cls [(M, .inr (6, [.int 1, .int 0, .int 0, .int 0, .int 0, .ref a0, .ref a1, .ref a2, .ref a3, .int 0, .null, .long 0]))] H := hP
  have hD : va_D A [(M, .inr (6, [.int 1, .int 0, .int 0, .int 0, .int 0, .ref a0, .ref a1, .ref a2, .ref a3, .int 0, .null, .long 0]))] := hD
  refine lv_aload_n hx hb dX6_isRight_17 rfl (lv_at hl 0 rfl) ?_
  refine va_get (D := (dC, dI)) (ci := 6) (v := .int 1) (C := RX6) (T := TX6) (N := 12) hx hb hts (fun w h => tb_in (inX6 w h)) hown hK hP 0 rfl rfl 0 (by decide) (hts _ (tb_in q_fl_X6_24)) (fun _ h9 => h9) rfl dX6_isRight_18 ?_
  refine lv_if_ne (tgt := 42) hx hb dX6_isRight_21 (by decide) (fun c_4 => ?_) (fun c_4 => ?_)
  rotate_left
  · first | exact absurd c_4 (by decide) | exact absurd (by decide) c_4
  refine lv_iconst (v := 0) hx hb dX6_isRight_42 (by decide) ?_
  refine W.widen (k := 0) (n := 0) (Nat.le_of_ble_eq_true rfl) (Nat.le_of_ble_eq_true rfl) ?_
  have hP := hP.sub (ws' := [(M, .inr (6, [.int 1, .int 0, .int 0, .int 0, .int 0, .ref a0, .ref a1, .ref a2, .ref a3, .int 0, .null, .long 0]))]) [0] rfl
  have hD := hD.sub (ws' := [(M, .inr (6, [.int 1, .int 0, .int 0, .int 0, .int 0, .ref a0, .ref a1, .ref a2, .ref a3, .int 0, .null, .long 0]))]) [0] (by decide) rfl
  have hP9 := hP
  have hD9 := hD
  exact W.zret (v := 0) hx hb hr rfl (fun t9 ht9 hW9 => ⟨⟨_, (1, 0, 0, .null), rfl, ⟨rfl, (fun _ => rfl)⟩, by rw [ht9]; exact hP9, va_K.moved hW9.alike hK, hD9⟩, hS.F ht9⟩) hS.2.2 dX6_isRight_43
set_option maxHeartbeats 4000000 in
set_option maxRecDepth 100000 in
theorem c_X6_length (l : Launch) (dC : Nat → ClassId) (dI : Nat → Nat → Nat) (cI cV cJ cL : ClassId) (M a0 a1 a2 a3 : Nat) (p0 : Int32)  (sz : Nat) : Met l yX6_length (Cond.code yX6_length cX6_length 2 (some .int) :: TB) ({ frames := 2, cells := 0, slots := 0, locals := 45 } : Room) (PW [.ref M, .int p0] (dC, dI) [(M, .inr (6, [.int 0, .int 0, .int 0, .int 0, .int 0, .ref a0, .ref a1, .ref a2, .ref a3, .int 0, .null, .long 0]))] (TYP cI cV cJ cL) sz) (va_Qi (fun (r : Int32) (u : Int32 × Int32 × Int32 × Value) => u.1 = 1 ∧ (1 = 0 → r = 0)) (QB (dC, dI) (fun (u : Int32 × Int32 × Int32 × Value) => [(M, .inr (6, [.int u.1, .int u.2.1, .int 0, .int 0, .int u.2.2.1, .ref a0, .ref a1, .ref a2, .ref a3, .int 0, u.2.2.2, .long 0]))]) (TYP cI cV cJ cL) (va_A [(M, .inr (6, [.int 0, .int 0, .int 0, .int 0, .int 0, .ref a0, .ref a1, .ref a2, .ref a3, .int 0, .null, .long 0]))] sz)) (va_A [(M, .inr (6, [.int 0, .int 0, .int 0, .int 0, .int 0, .ref a0, .ref a1, .ref a2, .ref a3, .int 0, .null, .long 0]))] sz)) 0 0 (va_A [(M, .inr (6, [.int 0, .int 0, .int 0, .int 0, .int 0, .ref a0, .ref a1, .ref a2, .ref a3, .int 0, .null, .long 0]))] sz) := by
  refine Met.ofW (cc := cX6_length) (maxL := 2) (ret := (some .int)) (by decide) rfl ?_
  intro p e s m args below meth c s₁ B hml hv
  obtain ⟨rfl, hsz, hP, hK, hD0, hN⟩ := hv
  have hx := B.exec
  have hb := B.bytes
  have hr := B.returns
  have hts := atoms_spec (ws := (Cond.code yX6_length cX6_length 2 (some .int) :: TB)) B.pre
  have hown : s.vm.findClass RX6 = some m.cls := findClass_of_methodNamed B.named
  have hlocks := B.notSynchronized
  subst hsz
  have hD := hD0.self (sz := s.heap.size)
  generalize hAe : va_A [(M, .inr (6, [.int 0, .int 0, .int 0, .int 0, .int 0, .ref a0, .ref a1, .ref a2, .ref a3, .int 0, .null, .long 0]))] s.heap.size = A at hD ⊢
  have hA : ∀ q : Nat, s.heap.size ≤ q → A q := fun q h => by rw [← hAe]; exact Or.inr h
  have hS : va_S A s.heap s.heap [] := va_S.rf
  have hl := lv_entry ([.ref M, .int p0]) (n := 2) (Nat.le_of_ble_eq_true rfl)
  rw [lg_entry_eq]
  generalize (lg_sl ([.ref M, .int p0]) ++ List.replicate (2 - (lg_sl ([.ref M, .int p0])).length) Slot.unset).toArray = ls at hl ⊢
  have hl : lv_has ls 2 [(0, .ref M), (1, .int p0)] := hl
  refine lv_aload_n hx hb dX6_length_0 rfl (lv_at hl 0 rfl) ?_
  refine lv_iconst (v := 0) hx hb dX6_length_1 (by decide) ?_
  refine va_put (D := (dC, dI)) (ci := 6) (v := .int 0) (ty := .int) (C := RX6) (T := TX6) (N := 12) hx hb hts (fun w h => tb_in (inX6 w h)) tyX6 tyX6_ok nmX6 hown hK hP hD hS 0 rfl rfl 0 (by decide) (hts _ (tb_in q_fl_X6_24)) (fun _ h9 => h9) rfl (by decide +kernel) rfl rfl (Nat.le_of_ble_eq_true rfl) dX6_length_2 (fun H locs hP hD hS => ?_)
  have hP : va_P (dC, dI) cls [(M, .inr (6, [.int 0, .int 0, .int 0, .int 0, .int 0, .ref a0, .ref a1, .ref a2, .ref a3, .int 0, .null, .long 0]))] H := hP
  have hD : va_D A [(M, .inr (6, [.int 0, .int 0, .int 0, .int 0, .int 0, .ref a0, .ref a1, .ref a2, .ref a3, .int 0, .null, .long 0]))] := hD
  refine lv_aload_n hx hb dX6_length_5 rfl (lv_at hl 0 rfl) ?_
  refine lv_iload_n hx hb dX6_length_6 rfl (lv_at hl 1 rfl) ?_
  refine n_Vz (ci := 6) (q0 := 0) (wc := [(M, .inr (6, [.int 0, .int 0, .int 0, .int 0, .int 0, .ref a0, .ref a1, .ref a2, .ref a3, .int 0, .null, .long 0]))]) (wr := []) [.int p0] [0] [] ⟨hx, hb, hml, hown, hts⟩ (fun sz => c_X6_isVehicle l dC dI cI cV cJ cL M a0 a1 a2 a3 0 0 0 (.null) 0 p0 sz) q_ml_X6_191 q_im_X6_isVehicle q_se_X6_isVehicle q_ini_X6 q_co_X6_isVehicle (n := 1) (by decide +kernel) rfl ⟨rfl, rfl⟩ ⟨Nat.le_of_ble_eq_true rfl, Nat.le_of_ble_eq_true rfl⟩ hP hD hS hA hK hN rfl rfl (by decide) (by decide) (by decide) rfl rfl rfl hl.1 rfl (Nat.le_of_ble_eq_true rfl) dX6_length_7 ⟨Nat.le_of_ble_eq_true rfl, Nat.le_of_ble_eq_true rfl⟩ (fun r_2 u_1 H locs hu_1 hP hD hS => ?_)
  have hP : va_P (dC, dI) cls [(M, .inr (6, [.int 0, .int 0, .int 0, .int 0, .int 0, .ref a0, .ref a1, .ref a2, .ref a3, .int 0, .null, .long 0]))] H := hP
  have hD : va_D A [(M, .inr (6, [.int 0, .int 0, .int 0, .int 0, .int 0, .ref a0, .ref a1, .ref a2, .ref a3, .int 0, .null, .long 0]))] := hD
  obtain rfl := hu_1
  refine lv_if_eq (tgt := 27) hx hb dX6_length_10 (by decide) (fun c_3 => ?_) (fun c_3 => ?_)
  rotate_left
  · first | exact absurd c_3 (by decide) | exact absurd (by decide) c_3
  refine lv_aload_n hx hb dX6_length_27 rfl (lv_at hl 0 rfl) ?_
  refine lv_iconst (v := 1) hx hb dX6_length_28 (by decide) ?_
  refine n_Vi (ci := 6) (q0 := 0) (wc := [(M, .inr (6, [.int 0, .int 0, .int 0, .int 0, .int 0, .ref a0, .ref a1, .ref a2, .ref a3, .int 0, .null, .long 0]))]) (wr := []) [.int 1] [0] [] ⟨hx, hb, hml, hown, hts⟩ (fun sz => c_X6_refuse l dC dI cI cV cJ cL M a0 a1 a2 a3 0 0 0 (.null) 0 1 sz) q_ml_X6_171 q_im_X6_refuse q_se_X6_refuse q_ini_X6 q_co_X6_refuse (n := 1) (by decide +kernel) rfl ⟨rfl, rfl⟩ ⟨Nat.le_of_ble_eq_true rfl, Nat.le_of_ble_eq_true rfl⟩ hP hD hS hA hK hN rfl rfl (by decide) (by decide) (by decide) rfl rfl rfl hl.1 rfl (Nat.le_of_ble_eq_true rfl) dX6_length_29 ⟨Nat.le_of_ble_eq_true rfl, Nat.le_of_ble_eq_true rfl⟩ (fun r_5 u_4 H locs hu_4 hP hD hS => ?_)
  have hP : va_P (dC, dI) cls [(M, .inr (6, [.int 1, .int 0, .int 0, .int 0, .int 0, .ref a0, .ref a1, .ref a2, .ref a3, .int 0, .null, .long 0]))] H := hP
  have hD : va_D A [(M, .inr (6, [.int 1, .int 0, .int 0, .int 0, .int 0, .ref a0, .ref a1, .ref a2, .ref a3, .int 0, .null, .long 0]))] := hD
  obtain rfl := hu_4
  refine W.widen (k := 0) (n := 0) (Nat.le_of_ble_eq_true rfl) (Nat.le_of_ble_eq_true rfl) ?_
  have hP := hP.sub (ws' := [(M, .inr (6, [.int 1, .int 0, .int 0, .int 0, .int 0, .ref a0, .ref a1, .ref a2, .ref a3, .int 0, .null, .long 0]))]) [0] rfl
  have hD := hD.sub (ws' := [(M, .inr (6, [.int 1, .int 0, .int 0, .int 0, .int 0, .ref a0, .ref a1, .ref a2, .ref a3, .int 0, .null, .long 0]))]) [0] (by decide) rfl
  have hP9 := hP
  have hD9 := hD
  exact W.iret (v := 0) hx hb hr (fun t9 ht9 hW9 => ⟨⟨_, (1, 0, 0, .null), rfl, ⟨rfl, (fun _ => rfl)⟩, by rw [ht9]; exact hP9, va_K.moved hW9.alike hK, hD9⟩, hS.F ht9⟩) hS.2.2 dX6_length_32
set_option maxHeartbeats 4000000 in
set_option maxRecDepth 100000 in
theorem c_X6_costOf (l : Launch) (dC : Nat → ClassId) (dI : Nat → Nat → Nat) (cI cV cJ cL : ClassId) (M a0 a1 a2 a3 : Nat) (p0 : Int32)  (sz : Nat) : Met l yX6_costOf (Cond.code yX6_costOf cX6_costOf 2 (some .int) :: TB) ({ frames := 2, cells := 0, slots := 0, locals := 45 } : Room) (PW [.ref M, .int p0] (dC, dI) [(M, .inr (6, [.int 0, .int 0, .int 0, .int 0, .int 0, .ref a0, .ref a1, .ref a2, .ref a3, .int 0, .null, .long 0]))] (TYP cI cV cJ cL) sz) (va_Qi (fun (r : Int32) (u : Int32 × Int32 × Int32 × Value) => u.1 = 1 ∧ (1 = 0 → r = 0)) (QB (dC, dI) (fun (u : Int32 × Int32 × Int32 × Value) => [(M, .inr (6, [.int u.1, .int u.2.1, .int 0, .int 0, .int u.2.2.1, .ref a0, .ref a1, .ref a2, .ref a3, .int 0, u.2.2.2, .long 0]))]) (TYP cI cV cJ cL) (va_A [(M, .inr (6, [.int 0, .int 0, .int 0, .int 0, .int 0, .ref a0, .ref a1, .ref a2, .ref a3, .int 0, .null, .long 0]))] sz)) (va_A [(M, .inr (6, [.int 0, .int 0, .int 0, .int 0, .int 0, .ref a0, .ref a1, .ref a2, .ref a3, .int 0, .null, .long 0]))] sz)) 0 0 (va_A [(M, .inr (6, [.int 0, .int 0, .int 0, .int 0, .int 0, .ref a0, .ref a1, .ref a2, .ref a3, .int 0, .null, .long 0]))] sz) := by
  refine Met.ofW (cc := cX6_costOf) (maxL := 2) (ret := (some .int)) (by decide) rfl ?_
  intro p e s m args below meth c s₁ B hml hv
  obtain ⟨rfl, hsz, hP, hK, hD0, hN⟩ := hv
  have hx := B.exec
  have hb := B.bytes
  have hr := B.returns
  have hts := atoms_spec (ws := (Cond.code yX6_costOf cX6_costOf 2 (some .int) :: TB)) B.pre
  have hown : s.vm.findClass RX6 = some m.cls := findClass_of_methodNamed B.named
  have hlocks := B.notSynchronized
  subst hsz
  have hD := hD0.self (sz := s.heap.size)
  generalize hAe : va_A [(M, .inr (6, [.int 0, .int 0, .int 0, .int 0, .int 0, .ref a0, .ref a1, .ref a2, .ref a3, .int 0, .null, .long 0]))] s.heap.size = A at hD ⊢
  have hA : ∀ q : Nat, s.heap.size ≤ q → A q := fun q h => by rw [← hAe]; exact Or.inr h
  have hS : va_S A s.heap s.heap [] := va_S.rf
  have hl := lv_entry ([.ref M, .int p0]) (n := 2) (Nat.le_of_ble_eq_true rfl)
  rw [lg_entry_eq]
  generalize (lg_sl ([.ref M, .int p0]) ++ List.replicate (2 - (lg_sl ([.ref M, .int p0])).length) Slot.unset).toArray = ls at hl ⊢
  have hl : lv_has ls 2 [(0, .ref M), (1, .int p0)] := hl
  refine lv_aload_n hx hb dX6_costOf_0 rfl (lv_at hl 0 rfl) ?_
  refine lv_iconst (v := 0) hx hb dX6_costOf_1 (by decide) ?_
  refine va_put (D := (dC, dI)) (ci := 6) (v := .int 0) (ty := .int) (C := RX6) (T := TX6) (N := 12) hx hb hts (fun w h => tb_in (inX6 w h)) tyX6 tyX6_ok nmX6 hown hK hP hD hS 0 rfl rfl 0 (by decide) (hts _ (tb_in q_fl_X6_24)) (fun _ h9 => h9) rfl (by decide +kernel) rfl rfl (Nat.le_of_ble_eq_true rfl) dX6_costOf_2 (fun H locs hP hD hS => ?_)
  have hP : va_P (dC, dI) cls [(M, .inr (6, [.int 0, .int 0, .int 0, .int 0, .int 0, .ref a0, .ref a1, .ref a2, .ref a3, .int 0, .null, .long 0]))] H := hP
  have hD : va_D A [(M, .inr (6, [.int 0, .int 0, .int 0, .int 0, .int 0, .ref a0, .ref a1, .ref a2, .ref a3, .int 0, .null, .long 0]))] := hD
  refine lv_aload_n hx hb dX6_costOf_5 rfl (lv_at hl 0 rfl) ?_
  refine lv_iload_n hx hb dX6_costOf_6 rfl (lv_at hl 1 rfl) ?_
  refine n_Vz (ci := 6) (q0 := 0) (wc := [(M, .inr (6, [.int 0, .int 0, .int 0, .int 0, .int 0, .ref a0, .ref a1, .ref a2, .ref a3, .int 0, .null, .long 0]))]) (wr := []) [.int p0] [0] [] ⟨hx, hb, hml, hown, hts⟩ (fun sz => c_X6_isVehicle l dC dI cI cV cJ cL M a0 a1 a2 a3 0 0 0 (.null) 0 p0 sz) q_ml_X6_191 q_im_X6_isVehicle q_se_X6_isVehicle q_ini_X6 q_co_X6_isVehicle (n := 1) (by decide +kernel) rfl ⟨rfl, rfl⟩ ⟨Nat.le_of_ble_eq_true rfl, Nat.le_of_ble_eq_true rfl⟩ hP hD hS hA hK hN rfl rfl (by decide) (by decide) (by decide) rfl rfl rfl hl.1 rfl (Nat.le_of_ble_eq_true rfl) dX6_costOf_7 ⟨Nat.le_of_ble_eq_true rfl, Nat.le_of_ble_eq_true rfl⟩ (fun r_2 u_1 H locs hu_1 hP hD hS => ?_)
  have hP : va_P (dC, dI) cls [(M, .inr (6, [.int 0, .int 0, .int 0, .int 0, .int 0, .ref a0, .ref a1, .ref a2, .ref a3, .int 0, .null, .long 0]))] H := hP
  have hD : va_D A [(M, .inr (6, [.int 0, .int 0, .int 0, .int 0, .int 0, .ref a0, .ref a1, .ref a2, .ref a3, .int 0, .null, .long 0]))] := hD
  obtain rfl := hu_1
  refine lv_if_eq (tgt := 27) hx hb dX6_costOf_10 (by decide) (fun c_3 => ?_) (fun c_3 => ?_)
  rotate_left
  · first | exact absurd c_3 (by decide) | exact absurd (by decide) c_3
  refine lv_aload_n hx hb dX6_costOf_27 rfl (lv_at hl 0 rfl) ?_
  refine lv_iconst (v := 1) hx hb dX6_costOf_28 (by decide) ?_
  refine n_Vi (ci := 6) (q0 := 0) (wc := [(M, .inr (6, [.int 0, .int 0, .int 0, .int 0, .int 0, .ref a0, .ref a1, .ref a2, .ref a3, .int 0, .null, .long 0]))]) (wr := []) [.int 1] [0] [] ⟨hx, hb, hml, hown, hts⟩ (fun sz => c_X6_refuse l dC dI cI cV cJ cL M a0 a1 a2 a3 0 0 0 (.null) 0 1 sz) q_ml_X6_171 q_im_X6_refuse q_se_X6_refuse q_ini_X6 q_co_X6_refuse (n := 1) (by decide +kernel) rfl ⟨rfl, rfl⟩ ⟨Nat.le_of_ble_eq_true rfl, Nat.le_of_ble_eq_true rfl⟩ hP hD hS hA hK hN rfl rfl (by decide) (by decide) (by decide) rfl rfl rfl hl.1 rfl (Nat.le_of_ble_eq_true rfl) dX6_costOf_29 ⟨Nat.le_of_ble_eq_true rfl, Nat.le_of_ble_eq_true rfl⟩ (fun r_5 u_4 H locs hu_4 hP hD hS => ?_)
  have hP : va_P (dC, dI) cls [(M, .inr (6, [.int 1, .int 0, .int 0, .int 0, .int 0, .ref a0, .ref a1, .ref a2, .ref a3, .int 0, .null, .long 0]))] H := hP
  have hD : va_D A [(M, .inr (6, [.int 1, .int 0, .int 0, .int 0, .int 0, .ref a0, .ref a1, .ref a2, .ref a3, .int 0, .null, .long 0]))] := hD
  obtain rfl := hu_4
  refine W.widen (k := 0) (n := 0) (Nat.le_of_ble_eq_true rfl) (Nat.le_of_ble_eq_true rfl) ?_
  have hP := hP.sub (ws' := [(M, .inr (6, [.int 1, .int 0, .int 0, .int 0, .int 0, .ref a0, .ref a1, .ref a2, .ref a3, .int 0, .null, .long 0]))]) [0] rfl
  have hD := hD.sub (ws' := [(M, .inr (6, [.int 1, .int 0, .int 0, .int 0, .int 0, .ref a0, .ref a1, .ref a2, .ref a3, .int 0, .null, .long 0]))]) [0] (by decide) rfl
  have hP9 := hP
  have hD9 := hD
  exact W.iret (v := 0) hx hb hr (fun t9 ht9 hW9 => ⟨⟨_, (1, 0, 0, .null), rfl, ⟨rfl, (fun _ => rfl)⟩, by rw [ht9]; exact hP9, va_K.moved hW9.alike hK, hD9⟩, hS.F ht9⟩) hS.2.2 dX6_costOf_32
set_option maxHeartbeats 4000000 in
set_option maxRecDepth 100000 in
theorem c_X6_wouldAdd (l : Launch) (dC : Nat → ClassId) (dI : Nat → Nat → Nat) (cI cV cJ cL : ClassId) (M a0 a1 a2 a3 : Nat) (p0 p1 : Int32)  (sz : Nat) : Met l yX6_wouldAdd (Cond.code yX6_wouldAdd cX6_wouldAdd 4 (some .int) :: TB) ({ frames := 2, cells := 0, slots := 0, locals := 45 } : Room) (PW [.ref M, .int p0, .int p1] (dC, dI) [(M, .inr (6, [.int 0, .int 0, .int 0, .int 0, .int 0, .ref a0, .ref a1, .ref a2, .ref a3, .int 0, .null, .long 0]))] (TYP cI cV cJ cL) sz) (va_Qi (fun (r : Int32) (u : Int32 × Int32 × Int32 × Value) => u.1 = 1 ∧ (1 = 0 → r = 0)) (QB (dC, dI) (fun (u : Int32 × Int32 × Int32 × Value) => [(M, .inr (6, [.int u.1, .int u.2.1, .int 0, .int 0, .int u.2.2.1, .ref a0, .ref a1, .ref a2, .ref a3, .int 0, u.2.2.2, .long 0]))]) (TYP cI cV cJ cL) (va_A [(M, .inr (6, [.int 0, .int 0, .int 0, .int 0, .int 0, .ref a0, .ref a1, .ref a2, .ref a3, .int 0, .null, .long 0]))] sz)) (va_A [(M, .inr (6, [.int 0, .int 0, .int 0, .int 0, .int 0, .ref a0, .ref a1, .ref a2, .ref a3, .int 0, .null, .long 0]))] sz)) 0 0 (va_A [(M, .inr (6, [.int 0, .int 0, .int 0, .int 0, .int 0, .ref a0, .ref a1, .ref a2, .ref a3, .int 0, .null, .long 0]))] sz) := by
  refine Met.ofW (cc := cX6_wouldAdd) (maxL := 4) (ret := (some .int)) (by decide) rfl ?_
  intro p e s m args below meth c s₁ B hml hv
  obtain ⟨rfl, hsz, hP, hK, hD0, hN⟩ := hv
  have hx := B.exec
  have hb := B.bytes
  have hr := B.returns
  have hts := atoms_spec (ws := (Cond.code yX6_wouldAdd cX6_wouldAdd 4 (some .int) :: TB)) B.pre
  have hown : s.vm.findClass RX6 = some m.cls := findClass_of_methodNamed B.named
  have hlocks := B.notSynchronized
  subst hsz
  have hD := hD0.self (sz := s.heap.size)
  generalize hAe : va_A [(M, .inr (6, [.int 0, .int 0, .int 0, .int 0, .int 0, .ref a0, .ref a1, .ref a2, .ref a3, .int 0, .null, .long 0]))] s.heap.size = A at hD ⊢
  have hA : ∀ q : Nat, s.heap.size ≤ q → A q := fun q h => by rw [← hAe]; exact Or.inr h
  have hS : va_S A s.heap s.heap [] := va_S.rf
  have hl := lv_entry ([.ref M, .int p0, .int p1]) (n := 4) (Nat.le_of_ble_eq_true rfl)
  rw [lg_entry_eq]
  generalize (lg_sl ([.ref M, .int p0, .int p1]) ++ List.replicate (4 - (lg_sl ([.ref M, .int p0, .int p1])).length) Slot.unset).toArray = ls at hl ⊢
  have hl : lv_has ls 4 [(0, .ref M), (1, .int p0), (2, .int p1)] := hl
  refine lv_aload_n hx hb dX6_wouldAdd_0 rfl (lv_at hl 0 rfl) ?_
  refine lv_iconst (v := 0) hx hb dX6_wouldAdd_1 (by decide) ?_
  refine va_put (D := (dC, dI)) (ci := 6) (v := .int 0) (ty := .int) (C := RX6) (T := TX6) (N := 12) hx hb hts (fun w h => tb_in (inX6 w h)) tyX6 tyX6_ok nmX6 hown hK hP hD hS 0 rfl rfl 0 (by decide) (hts _ (tb_in q_fl_X6_24)) (fun _ h9 => h9) rfl (by decide +kernel) rfl rfl (Nat.le_of_ble_eq_true rfl) dX6_wouldAdd_2 (fun H locs hP hD hS => ?_)
  have hP : va_P (dC, dI) cls [(M, .inr (6, [.int 0, .int 0, .int 0, .int 0, .int 0, .ref a0, .ref a1, .ref a2, .ref a3, .int 0, .null, .long 0]))] H := hP
  have hD : va_D A [(M, .inr (6, [.int 0, .int 0, .int 0, .int 0, .int 0, .ref a0, .ref a1, .ref a2, .ref a3, .int 0, .null, .long 0]))] := hD
  refine lv_aload_n hx hb dX6_wouldAdd_5 rfl (lv_at hl 0 rfl) ?_
  refine lv_iload_n hx hb dX6_wouldAdd_6 rfl (lv_at hl 1 rfl) ?_
  refine n_Vz (ci := 6) (q0 := 0) (wc := [(M, .inr (6, [.int 0, .int 0, .int 0, .int 0, .int 0, .ref a0, .ref a1, .ref a2, .ref a3, .int 0, .null, .long 0]))]) (wr := []) [.int p0] [0] [] ⟨hx, hb, hml, hown, hts⟩ (fun sz => c_X6_isJob l dC dI cI cV cJ cL M a0 a1 a2 a3 0 0 0 (.null) 0 p0 sz) q_ml_X6_177 q_im_X6_isJob q_se_X6_isJob q_ini_X6 q_co_X6_isJob (n := 1) (by decide +kernel) rfl ⟨rfl, rfl⟩ ⟨Nat.le_of_ble_eq_true rfl, Nat.le_of_ble_eq_true rfl⟩ hP hD hS hA hK hN rfl rfl (by decide) (by decide) (by decide) rfl rfl rfl hl.1 rfl (Nat.le_of_ble_eq_true rfl) dX6_wouldAdd_7 ⟨Nat.le_of_ble_eq_true rfl, Nat.le_of_ble_eq_true rfl⟩ (fun r_2 u_1 H locs hu_1 hP hD hS => ?_)
  have hP : va_P (dC, dI) cls [(M, .inr (6, [.int 0, .int 0, .int 0, .int 0, .int 0, .ref a0, .ref a1, .ref a2, .ref a3, .int 0, .null, .long 0]))] H := hP
  have hD : va_D A [(M, .inr (6, [.int 0, .int 0, .int 0, .int 0, .int 0, .ref a0, .ref a1, .ref a2, .ref a3, .int 0, .null, .long 0]))] := hD
  obtain rfl := hu_1
  refine lv_if_eq (tgt := 21) hx hb dX6_wouldAdd_10 (by decide) (fun c_3 => ?_) (fun c_3 => ?_)
  rotate_left
  · first | exact absurd c_3 (by decide) | exact absurd (by decide) c_3
  refine lv_aload_n hx hb dX6_wouldAdd_21 rfl (lv_at hl 0 rfl) ?_
  refine lv_iconst (v := 1) hx hb dX6_wouldAdd_22 (by decide) ?_
  refine n_Vi (ci := 6) (q0 := 0) (wc := [(M, .inr (6, [.int 0, .int 0, .int 0, .int 0, .int 0, .ref a0, .ref a1, .ref a2, .ref a3, .int 0, .null, .long 0]))]) (wr := []) [.int 1] [0] [] ⟨hx, hb, hml, hown, hts⟩ (fun sz => c_X6_refuse l dC dI cI cV cJ cL M a0 a1 a2 a3 0 0 0 (.null) 0 1 sz) q_ml_X6_171 q_im_X6_refuse q_se_X6_refuse q_ini_X6 q_co_X6_refuse (n := 1) (by decide +kernel) rfl ⟨rfl, rfl⟩ ⟨Nat.le_of_ble_eq_true rfl, Nat.le_of_ble_eq_true rfl⟩ hP hD hS hA hK hN rfl rfl (by decide) (by decide) (by decide) rfl rfl rfl hl.1 rfl (Nat.le_of_ble_eq_true rfl) dX6_wouldAdd_23 ⟨Nat.le_of_ble_eq_true rfl, Nat.le_of_ble_eq_true rfl⟩ (fun r_5 u_4 H locs hu_4 hP hD hS => ?_)
  have hP : va_P (dC, dI) cls [(M, .inr (6, [.int 1, .int 0, .int 0, .int 0, .int 0, .ref a0, .ref a1, .ref a2, .ref a3, .int 0, .null, .long 0]))] H := hP
  have hD : va_D A [(M, .inr (6, [.int 1, .int 0, .int 0, .int 0, .int 0, .ref a0, .ref a1, .ref a2, .ref a3, .int 0, .null, .long 0]))] := hD
  obtain rfl := hu_4
  refine W.widen (k := 0) (n := 0) (Nat.le_of_ble_eq_true rfl) (Nat.le_of_ble_eq_true rfl) ?_
  have hP := hP.sub (ws' := [(M, .inr (6, [.int 1, .int 0, .int 0, .int 0, .int 0, .ref a0, .ref a1, .ref a2, .ref a3, .int 0, .null, .long 0]))]) [0] rfl
  have hD := hD.sub (ws' := [(M, .inr (6, [.int 1, .int 0, .int 0, .int 0, .int 0, .ref a0, .ref a1, .ref a2, .ref a3, .int 0, .null, .long 0]))]) [0] (by decide) rfl
  have hP9 := hP
  have hD9 := hD
  exact W.iret (v := 0) hx hb hr (fun t9 ht9 hW9 => ⟨⟨_, (1, 0, 0, .null), rfl, ⟨rfl, (fun _ => rfl)⟩, by rw [ht9]; exact hP9, va_K.moved hW9.alike hK, hD9⟩, hS.F ht9⟩) hS.2.2 dX6_wouldAdd_26
set_option maxHeartbeats 4000000 in
set_option maxRecDepth 100000 in
theorem c_X6_costWithout (l : Launch) (dC : Nat → ClassId) (dI : Nat → Nat → Nat) (cI cV cJ cL : ClassId) (M a0 a1 a2 a3 : Nat) (p0 : Int32)  (sz : Nat) : Met l yX6_costWithout (Cond.code yX6_costWithout cX6_costWithout 2 (some .int) :: TB) ({ frames := 2, cells := 0, slots := 0, locals := 45 } : Room) (PW [.ref M, .int p0] (dC, dI) [(M, .inr (6, [.int 0, .int 0, .int 0, .int 0, .int 0, .ref a0, .ref a1, .ref a2, .ref a3, .int 0, .null, .long 0]))] (TYP cI cV cJ cL) sz) (va_Qi (fun (r : Int32) (u : Int32 × Int32 × Int32 × Value) => u.1 = 1 ∧ (1 = 0 → r = 0)) (QB (dC, dI) (fun (u : Int32 × Int32 × Int32 × Value) => [(M, .inr (6, [.int u.1, .int u.2.1, .int 0, .int 0, .int u.2.2.1, .ref a0, .ref a1, .ref a2, .ref a3, .int 0, u.2.2.2, .long 0]))]) (TYP cI cV cJ cL) (va_A [(M, .inr (6, [.int 0, .int 0, .int 0, .int 0, .int 0, .ref a0, .ref a1, .ref a2, .ref a3, .int 0, .null, .long 0]))] sz)) (va_A [(M, .inr (6, [.int 0, .int 0, .int 0, .int 0, .int 0, .ref a0, .ref a1, .ref a2, .ref a3, .int 0, .null, .long 0]))] sz)) 0 0 (va_A [(M, .inr (6, [.int 0, .int 0, .int 0, .int 0, .int 0, .ref a0, .ref a1, .ref a2, .ref a3, .int 0, .null, .long 0]))] sz) := by
  refine Met.ofW (cc := cX6_costWithout) (maxL := 2) (ret := (some .int)) (by decide) rfl ?_
  intro p e s m args below meth c s₁ B hml hv
  obtain ⟨rfl, hsz, hP, hK, hD0, hN⟩ := hv
  have hx := B.exec
  have hb := B.bytes
  have hr := B.returns
  have hts := atoms_spec (ws := (Cond.code yX6_costWithout cX6_costWithout 2 (some .int) :: TB)) B.pre
  have hown : s.vm.findClass RX6 = some m.cls := findClass_of_methodNamed B.named
  have hlocks := B.notSynchronized
  subst hsz
  have hD := hD0.self (sz := s.heap.size)
  generalize hAe : va_A [(M, .inr (6, [.int 0, .int 0, .int 0, .int 0, .int 0, .ref a0, .ref a1, .ref a2, .ref a3, .int 0, .null, .long 0]))] s.heap.size = A at hD ⊢
  have hA : ∀ q : Nat, s.heap.size ≤ q → A q := fun q h => by rw [← hAe]; exact Or.inr h
  have hS : va_S A s.heap s.heap [] := va_S.rf
  have hl := lv_entry ([.ref M, .int p0]) (n := 2) (Nat.le_of_ble_eq_true rfl)
  rw [lg_entry_eq]
  generalize (lg_sl ([.ref M, .int p0]) ++ List.replicate (2 - (lg_sl ([.ref M, .int p0])).length) Slot.unset).toArray = ls at hl ⊢
  have hl : lv_has ls 2 [(0, .ref M), (1, .int p0)] := hl
  refine lv_aload_n hx hb dX6_costWithout_0 rfl (lv_at hl 0 rfl) ?_
  refine lv_iconst (v := 0) hx hb dX6_costWithout_1 (by decide) ?_
  refine va_put (D := (dC, dI)) (ci := 6) (v := .int 0) (ty := .int) (C := RX6) (T := TX6) (N := 12) hx hb hts (fun w h => tb_in (inX6 w h)) tyX6 tyX6_ok nmX6 hown hK hP hD hS 0 rfl rfl 0 (by decide) (hts _ (tb_in q_fl_X6_24)) (fun _ h9 => h9) rfl (by decide +kernel) rfl rfl (Nat.le_of_ble_eq_true rfl) dX6_costWithout_2 (fun H locs hP hD hS => ?_)
  have hP : va_P (dC, dI) cls [(M, .inr (6, [.int 0, .int 0, .int 0, .int 0, .int 0, .ref a0, .ref a1, .ref a2, .ref a3, .int 0, .null, .long 0]))] H := hP
  have hD : va_D A [(M, .inr (6, [.int 0, .int 0, .int 0, .int 0, .int 0, .ref a0, .ref a1, .ref a2, .ref a3, .int 0, .null, .long 0]))] := hD
  refine lv_aload_n hx hb dX6_costWithout_5 rfl (lv_at hl 0 rfl) ?_
  refine lv_iload_n hx hb dX6_costWithout_6 rfl (lv_at hl 1 rfl) ?_
  refine n_Vz (ci := 6) (q0 := 0) (wc := [(M, .inr (6, [.int 0, .int 0, .int 0, .int 0, .int 0, .ref a0, .ref a1, .ref a2, .ref a3, .int 0, .null, .long 0]))]) (wr := []) [.int p0] [0] [] ⟨hx, hb, hml, hown, hts⟩ (fun sz => c_X6_isJob l dC dI cI cV cJ cL M a0 a1 a2 a3 0 0 0 (.null) 0 p0 sz) q_ml_X6_177 q_im_X6_isJob q_se_X6_isJob q_ini_X6 q_co_X6_isJob (n := 1) (by decide +kernel) rfl ⟨rfl, rfl⟩ ⟨Nat.le_of_ble_eq_true rfl, Nat.le_of_ble_eq_true rfl⟩ hP hD hS hA hK hN rfl rfl (by decide) (by decide) (by decide) rfl rfl rfl hl.1 rfl (Nat.le_of_ble_eq_true rfl) dX6_costWithout_7 ⟨Nat.le_of_ble_eq_true rfl, Nat.le_of_ble_eq_true rfl⟩ (fun r_2 u_1 H locs hu_1 hP hD hS => ?_)
  have hP : va_P (dC, dI) cls [(M, .inr (6, [.int 0, .int 0, .int 0, .int 0, .int 0, .ref a0, .ref a1, .ref a2, .ref a3, .int 0, .null, .long 0]))] H := hP
  have hD : va_D A [(M, .inr (6, [.int 0, .int 0, .int 0, .int 0, .int 0, .ref a0, .ref a1, .ref a2, .ref a3, .int 0, .null, .long 0]))] := hD
  obtain rfl := hu_1
  refine lv_if_ne (tgt := 19) hx hb dX6_costWithout_10 (by decide) (fun c_3 => ?_) (fun c_3 => ?_)
  · first | exact absurd c_3 (by decide) | exact absurd (by decide) c_3
  refine lv_aload_n hx hb dX6_costWithout_13 rfl (lv_at hl 0 rfl) ?_
  refine lv_iconst (v := 1) hx hb dX6_costWithout_14 (by decide) ?_
  refine n_Vi (ci := 6) (q0 := 0) (wc := [(M, .inr (6, [.int 0, .int 0, .int 0, .int 0, .int 0, .ref a0, .ref a1, .ref a2, .ref a3, .int 0, .null, .long 0]))]) (wr := []) [.int 1] [0] [] ⟨hx, hb, hml, hown, hts⟩ (fun sz => c_X6_refuse l dC dI cI cV cJ cL M a0 a1 a2 a3 0 0 0 (.null) 0 1 sz) q_ml_X6_171 q_im_X6_refuse q_se_X6_refuse q_ini_X6 q_co_X6_refuse (n := 1) (by decide +kernel) rfl ⟨rfl, rfl⟩ ⟨Nat.le_of_ble_eq_true rfl, Nat.le_of_ble_eq_true rfl⟩ hP hD hS hA hK hN rfl rfl (by decide) (by decide) (by decide) rfl rfl rfl hl.1 rfl (Nat.le_of_ble_eq_true rfl) dX6_costWithout_15 ⟨Nat.le_of_ble_eq_true rfl, Nat.le_of_ble_eq_true rfl⟩ (fun r_5 u_4 H locs hu_4 hP hD hS => ?_)
  have hP : va_P (dC, dI) cls [(M, .inr (6, [.int 1, .int 0, .int 0, .int 0, .int 0, .ref a0, .ref a1, .ref a2, .ref a3, .int 0, .null, .long 0]))] H := hP
  have hD : va_D A [(M, .inr (6, [.int 1, .int 0, .int 0, .int 0, .int 0, .ref a0, .ref a1, .ref a2, .ref a3, .int 0, .null, .long 0]))] := hD
  obtain rfl := hu_4
  refine W.widen (k := 0) (n := 0) (Nat.le_of_ble_eq_true rfl) (Nat.le_of_ble_eq_true rfl) ?_
  have hP := hP.sub (ws' := [(M, .inr (6, [.int 1, .int 0, .int 0, .int 0, .int 0, .ref a0, .ref a1, .ref a2, .ref a3, .int 0, .null, .long 0]))]) [0] rfl
  have hD := hD.sub (ws' := [(M, .inr (6, [.int 1, .int 0, .int 0, .int 0, .int 0, .ref a0, .ref a1, .ref a2, .ref a3, .int 0, .null, .long 0]))]) [0] (by decide) rfl
  have hP9 := hP
  have hD9 := hD
  exact W.iret (v := 0) hx hb hr (fun t9 ht9 hW9 => ⟨⟨_, (1, 0, 0, .null), rfl, ⟨rfl, (fun _ => rfl)⟩, by rw [ht9]; exact hP9, va_K.moved hW9.alike hK, hD9⟩, hS.F ht9⟩) hS.2.2 dX6_costWithout_18
set_option maxHeartbeats 4000000 in
set_option maxRecDepth 100000 in
theorem c_X6_setHours (l : Launch) (dC : Nat → ClassId) (dI : Nat → Nat → Nat) (cI cV cJ cL : ClassId) (M a0 a1 a2 a3 : Nat) (p0 p1 p2 p3 : Int32)  (sz : Nat) : Met l yX6_setHours (Cond.code yX6_setHours cX6_setHours 5 (some .boolean) :: TB) ({ frames := 2, cells := 0, slots := 0, locals := 45 } : Room) (PW [.ref M, .int p0, .int p1, .int p2, .int p3] (dC, dI) [(M, .inr (6, [.int 0, .int 0, .int 0, .int 0, .int 0, .ref a0, .ref a1, .ref a2, .ref a3, .int 0, .null, .long 0]))] (TYP cI cV cJ cL) sz) (va_Qi (fun (r : Int32) (u : Int32 × Int32 × Int32 × Value) => u.1 = 1 ∧ (1 = 0 → r = 0)) (QB (dC, dI) (fun (u : Int32 × Int32 × Int32 × Value) => [(M, .inr (6, [.int u.1, .int u.2.1, .int 0, .int 0, .int u.2.2.1, .ref a0, .ref a1, .ref a2, .ref a3, .int 0, u.2.2.2, .long 0]))]) (TYP cI cV cJ cL) (va_A [(M, .inr (6, [.int 0, .int 0, .int 0, .int 0, .int 0, .ref a0, .ref a1, .ref a2, .ref a3, .int 0, .null, .long 0]))] sz)) (va_A [(M, .inr (6, [.int 0, .int 0, .int 0, .int 0, .int 0, .ref a0, .ref a1, .ref a2, .ref a3, .int 0, .null, .long 0]))] sz)) 0 0 (va_A [(M, .inr (6, [.int 0, .int 0, .int 0, .int 0, .int 0, .ref a0, .ref a1, .ref a2, .ref a3, .int 0, .null, .long 0]))] sz) := by
  refine Met.ofW (cc := cX6_setHours) (maxL := 5) (ret := (some .boolean)) (by decide) rfl ?_
  intro p e s m args below meth c s₁ B hml hv
  obtain ⟨rfl, hsz, hP, hK, hD0, hN⟩ := hv
  have hx := B.exec
  have hb := B.bytes
  have hr := B.returns
  have hts := atoms_spec (ws := (Cond.code yX6_setHours cX6_setHours 5 (some .boolean) :: TB)) B.pre
  have hown : s.vm.findClass RX6 = some m.cls := findClass_of_methodNamed B.named
  have hlocks := B.notSynchronized
  subst hsz
  have hD := hD0.self (sz := s.heap.size)
  generalize hAe : va_A [(M, .inr (6, [.int 0, .int 0, .int 0, .int 0, .int 0, .ref a0, .ref a1, .ref a2, .ref a3, .int 0, .null, .long 0]))] s.heap.size = A at hD ⊢
  have hA : ∀ q : Nat, s.heap.size ≤ q → A q := fun q h => by rw [← hAe]; exact Or.inr h
  have hS : va_S A s.heap s.heap [] := va_S.rf
  have hl := lv_entry ([.ref M, .int p0, .int p1, .int p2, .int p3]) (n := 5) (Nat.le_of_ble_eq_true rfl)
  rw [lg_entry_eq]
  generalize (lg_sl ([.ref M, .int p0, .int p1, .int p2, .int p3]) ++ List.replicate (5 - (lg_sl ([.ref M, .int p0, .int p1, .int p2, .int p3])).length) Slot.unset).toArray = ls at hl ⊢
  have hl : lv_has ls 5 [(0, .ref M), (1, .int p0), (2, .int p1), (3, .int p2), (4, .int p3)] := hl
  refine lv_aload_n hx hb dX6_setHours_0 rfl (lv_at hl 0 rfl) ?_
  refine lv_aload_n hx hb dX6_setHours_1 rfl (lv_at hl 0 rfl) ?_
  refine lv_iload_n hx hb dX6_setHours_2 rfl (lv_at hl 1 rfl) ?_
  refine n_Vz (ci := 6) (q0 := 0) (wc := [(M, .inr (6, [.int 0, .int 0, .int 0, .int 0, .int 0, .ref a0, .ref a1, .ref a2, .ref a3, .int 0, .null, .long 0]))]) (wr := []) [.int p0] [0] [] ⟨hx, hb, hml, hown, hts⟩ (fun sz => c_X6_isJob l dC dI cI cV cJ cL M a0 a1 a2 a3 0 0 0 (.null) 0 p0 sz) q_ml_X6_177 q_im_X6_isJob q_se_X6_isJob q_ini_X6 q_co_X6_isJob (n := 1) (by decide +kernel) rfl ⟨rfl, rfl⟩ ⟨Nat.le_of_ble_eq_true rfl, Nat.le_of_ble_eq_true rfl⟩ hP hD hS hA hK hN rfl rfl (by decide) (by decide) (by decide) rfl rfl rfl hl.1 rfl (Nat.le_of_ble_eq_true rfl) dX6_setHours_3 ⟨Nat.le_of_ble_eq_true rfl, Nat.le_of_ble_eq_true rfl⟩ (fun r_2 u_1 H locs hu_1 hP hD hS => ?_)
  have hP : va_P (dC, dI) cls [(M, .inr (6, [.int 0, .int 0, .int 0, .int 0, .int 0, .ref a0, .ref a1, .ref a2, .ref a3, .int 0, .null, .long 0]))] H := hP
  have hD : va_D A [(M, .inr (6, [.int 0, .int 0, .int 0, .int 0, .int 0, .ref a0, .ref a1, .ref a2, .ref a3, .int 0, .null, .long 0]))] := hD
  obtain rfl := hu_1
  refine lv_if_ne (tgt := 13) hx hb dX6_setHours_6 (by decide) (fun c_3 => ?_) (fun c_3 => ?_)
  · first | exact absurd c_3 (by decide) | exact absurd (by decide) c_3
  refine lv_iconst (v := 1) hx hb dX6_setHours_9 (by decide) ?_
  refine lv_goto (tgt := 53) hx hb dX6_setHours_10 (by decide) ?_
  refine va_put (D := (dC, dI)) (ci := 6) (v := .int 1) (ty := .int) (C := RX6) (T := TX6) (N := 12) hx hb hts (fun w h => tb_in (inX6 w h)) tyX6 tyX6_ok nmX6 hown hK hP hD hS 0 rfl rfl 0 (by decide) (hts _ (tb_in q_fl_X6_24)) (fun _ h9 => h9) rfl (by decide +kernel) rfl rfl (Nat.le_of_ble_eq_true rfl) dX6_setHours_53 (fun H locs hP hD hS => ?_)
  have hP : va_P (dC, dI) cls [(M, .inr (6, [.int 1, .int 0, .int 0, .int 0, .int 0, .ref a0, .ref a1, .ref a2, .ref a3, .int 0, .null, .long 0]))] H := hP
  have hD : va_D A [(M, .inr (6, [.int 1, .int 0, .int 0, .int 0, .int 0, .ref a0, .ref a1, .ref a2, .ref a3, .int 0, .null, .long 0]))] := hD
  refine lv_aload_n hx hb dX6_setHours_56 rfl (lv_at hl 0 rfl) ?_
  refine va_get (D := (dC, dI)) (ci := 6) (v := .int 1) (C := RX6) (T := TX6) (N := 12) hx hb hts (fun w h => tb_in (inX6 w h)) hown hK hP 0 rfl rfl 0 (by decide) (hts _ (tb_in q_fl_X6_24)) (fun _ h9 => h9) rfl dX6_setHours_57 ?_
  refine lv_if_le (tgt := 65) hx hb dX6_setHours_60 (by decide) (fun c_4 => ?_) (fun c_4 => ?_)
  · first | exact absurd c_4 (by decide) | exact absurd (by decide) c_4
  refine lv_iconst (v := 0) hx hb dX6_setHours_63 (by decide) ?_
  refine W.widen (k := 0) (n := 0) (Nat.le_of_ble_eq_true rfl) (Nat.le_of_ble_eq_true rfl) ?_
  have hP := hP.sub (ws' := [(M, .inr (6, [.int 1, .int 0, .int 0, .int 0, .int 0, .ref a0, .ref a1, .ref a2, .ref a3, .int 0, .null, .long 0]))]) [0] rfl
  have hD := hD.sub (ws' := [(M, .inr (6, [.int 1, .int 0, .int 0, .int 0, .int 0, .ref a0, .ref a1, .ref a2, .ref a3, .int 0, .null, .long 0]))]) [0] (by decide) rfl
  have hP9 := hP
  have hD9 := hD
  exact W.zret (v := 0) hx hb hr rfl (fun t9 ht9 hW9 => ⟨⟨_, (1, 0, 0, .null), rfl, ⟨rfl, (fun _ => rfl)⟩, by rw [ht9]; exact hP9, va_K.moved hW9.alike hK, hD9⟩, hS.F ht9⟩) hS.2.2 dX6_setHours_64
set_option maxHeartbeats 4000000 in
set_option maxRecDepth 100000 in
theorem c_X6_hasStop (l : Launch) (dC : Nat → ClassId) (dI : Nat → Nat → Nat) (cI cV cJ cL : ClassId) (M a0 a1 a2 a3 : Nat) (th ck mo : Int32) (bp : Value) (sm : Int64) (x y : Int32) (sz : Nat) : Met l yX6_hasStop (Cond.code yX6_hasStop cX6_hasStop 3 (some .boolean) :: TB) ({ frames := 2, cells := 0, slots := 0, locals := 45 } : Room) (PW [.ref M, .int x, .int y] (dC, dI) [(M, .inr (6, [.int th, .int 0, .int 0, .int 0, .int ck, .ref a0, .ref a1, .ref a2, .ref a3, .int mo, bp, .long sm]))] (TYP cI cV cJ cL) sz) (va_Qi (fun (r : Int32) (_ : Unit) => r = 0) (QB (dC, dI) (fun (_ : Unit) => [(M, .inr (6, [.int 1, .int 0, .int 0, .int 0, .int ck, .ref a0, .ref a1, .ref a2, .ref a3, .int mo, bp, .long sm]))]) (TYP cI cV cJ cL) (va_A [(M, .inr (6, [.int th, .int 0, .int 0, .int 0, .int ck, .ref a0, .ref a1, .ref a2, .ref a3, .int mo, bp, .long sm]))] sz)) (va_A [(M, .inr (6, [.int th, .int 0, .int 0, .int 0, .int ck, .ref a0, .ref a1, .ref a2, .ref a3, .int mo, bp, .long sm]))] sz)) 0 0 (va_A [(M, .inr (6, [.int th, .int 0, .int 0, .int 0, .int ck, .ref a0, .ref a1, .ref a2, .ref a3, .int mo, bp, .long sm]))] sz) := by
  refine Met.ofW (cc := cX6_hasStop) (maxL := 3) (ret := (some .boolean)) (by decide) rfl ?_
  intro p e s m args below meth c s₁ B hml hv
  obtain ⟨rfl, hsz, hP, hK, hD0, hN⟩ := hv
  have hx := B.exec
  have hb := B.bytes
  have hr := B.returns
  have hts := atoms_spec (ws := (Cond.code yX6_hasStop cX6_hasStop 3 (some .boolean) :: TB)) B.pre
  have hown : s.vm.findClass RX6 = some m.cls := findClass_of_methodNamed B.named
  have hlocks := B.notSynchronized
  subst hsz
  have hD := hD0.self (sz := s.heap.size)
  generalize hAe : va_A [(M, .inr (6, [.int th, .int 0, .int 0, .int 0, .int ck, .ref a0, .ref a1, .ref a2, .ref a3, .int mo, bp, .long sm]))] s.heap.size = A at hD ⊢
  have hA : ∀ q : Nat, s.heap.size ≤ q → A q := fun q h => by rw [← hAe]; exact Or.inr h
  have hS : va_S A s.heap s.heap [] := va_S.rf
  have hl := lv_entry ([.ref M, .int x, .int y]) (n := 3) (Nat.le_of_ble_eq_true rfl)
  rw [lg_entry_eq]
  generalize (lg_sl ([.ref M, .int x, .int y]) ++ List.replicate (3 - (lg_sl ([.ref M, .int x, .int y])).length) Slot.unset).toArray = ls at hl ⊢
  have hl : lv_has ls 3 [(0, .ref M), (1, .int x), (2, .int y)] := hl
  refine lv_aload_n hx hb dX6_hasStop_0 rfl (lv_at hl 0 rfl) ?_
  refine lv_aload_n hx hb dX6_hasStop_1 rfl (lv_at hl 0 rfl) ?_
  refine lv_iload_n hx hb dX6_hasStop_2 rfl (lv_at hl 1 rfl) ?_
  refine n_Vz (ci := 6) (q0 := 0) (wc := [(M, .inr (6, [.int th, .int 0, .int 0, .int 0, .int ck, .ref a0, .ref a1, .ref a2, .ref a3, .int mo, bp, .long sm]))]) (wr := []) [.int x] [0] [] ⟨hx, hb, hml, hown, hts⟩ (fun sz => c_X6_isVehicle l dC dI cI cV cJ cL M a0 a1 a2 a3 th ck mo (bp) sm x sz) q_ml_X6_191 q_im_X6_isVehicle q_se_X6_isVehicle q_ini_X6 q_co_X6_isVehicle (n := 1) (by decide +kernel) rfl ⟨rfl, rfl⟩ ⟨Nat.le_of_ble_eq_true rfl, Nat.le_of_ble_eq_true rfl⟩ hP hD hS hA hK hN rfl rfl (by decide) (by decide) (by decide) rfl rfl rfl hl.1 rfl (Nat.le_of_ble_eq_true rfl) dX6_hasStop_3 ⟨Nat.le_of_ble_eq_true rfl, Nat.le_of_ble_eq_true rfl⟩ (fun r_2 u_1 H locs hu_1 hP hD hS => ?_)
  have hP : va_P (dC, dI) cls [(M, .inr (6, [.int th, .int 0, .int 0, .int 0, .int ck, .ref a0, .ref a1, .ref a2, .ref a3, .int mo, bp, .long sm]))] H := hP
  have hD : va_D A [(M, .inr (6, [.int th, .int 0, .int 0, .int 0, .int ck, .ref a0, .ref a1, .ref a2, .ref a3, .int mo, bp, .long sm]))] := hD
  obtain rfl := hu_1
  refine lv_if_eq (tgt := 30) hx hb dX6_hasStop_6 (by decide) (fun c_3 => ?_) (fun c_3 => ?_)
  rotate_left
  · first | exact absurd c_3 (by decide) | exact absurd (by decide) c_3
  refine lv_iconst (v := 1) hx hb dX6_hasStop_30 (by decide) ?_
  refine va_put (D := (dC, dI)) (ci := 6) (v := .int 1) (ty := .int) (C := RX6) (T := TX6) (N := 12) hx hb hts (fun w h => tb_in (inX6 w h)) tyX6 tyX6_ok nmX6 hown hK hP hD hS 0 rfl rfl 0 (by decide) (hts _ (tb_in q_fl_X6_24)) (fun _ h9 => h9) rfl (by decide +kernel) rfl rfl (Nat.le_of_ble_eq_true rfl) dX6_hasStop_31 (fun H locs hP hD hS => ?_)
  have hP : va_P (dC, dI) cls [(M, .inr (6, [.int 1, .int 0, .int 0, .int 0, .int ck, .ref a0, .ref a1, .ref a2, .ref a3, .int mo, bp, .long sm]))] H := hP
  have hD : va_D A [(M, .inr (6, [.int 1, .int 0, .int 0, .int 0, .int ck, .ref a0, .ref a1, .ref a2, .ref a3, .int mo, bp, .long sm]))] := hD
  refine lv_aload_n hx hb dX6_hasStop_34 rfl (lv_at hl 0 rfl) ?_
  refine va_get (D := (dC, dI)) (ci := 6) (v := .int 1) (C := RX6) (T := TX6) (N := 12) hx hb hts (fun w h => tb_in (inX6 w h)) hown hK hP 0 rfl rfl 0 (by decide) (hts _ (tb_in q_fl_X6_24)) (fun _ h9 => h9) rfl dX6_hasStop_35 ?_
  refine lv_if_ne (tgt := 45) hx hb dX6_hasStop_38 (by decide) (fun c_4 => ?_) (fun c_4 => ?_)
  rotate_left
  · first | exact absurd c_4 (by decide) | exact absurd (by decide) c_4
  refine lv_iconst (v := 0) hx hb dX6_hasStop_45 (by decide) ?_
  refine W.widen (k := 0) (n := 0) (Nat.le_of_ble_eq_true rfl) (Nat.le_of_ble_eq_true rfl) ?_
  have hP9 := hP
  have hD9 := hD
  exact W.zret (v := 0) hx hb hr rfl (fun t9 ht9 hW9 => ⟨⟨_, (), rfl, rfl, by rw [ht9]; exact hP9, va_K.moved hW9.alike hK, hD9⟩, hS.F ht9⟩) hS.2.2 dX6_hasStop_46
set_option maxHeartbeats 4000000 in
set_option maxRecDepth 100000 in
theorem c_X6_jobAt (l : Launch) (dC : Nat → ClassId) (dI : Nat → Nat → Nat) (cI cV cJ cL : ClassId) (M a0 a1 a2 a3 : Nat) (p0 p1 : Int32)  (sz : Nat) : Met l yX6_jobAt (Cond.code yX6_jobAt cX6_jobAt 3 (some .int) :: TB) ({ frames := 3, cells := 0, slots := 0, locals := 67 } : Room) (PW [.ref M, .int p0, .int p1] (dC, dI) [(M, .inr (6, [.int 0, .int 0, .int 0, .int 0, .int 0, .ref a0, .ref a1, .ref a2, .ref a3, .int 0, .null, .long 0]))] (TYP cI cV cJ cL) sz) (va_Qi (fun (r : Int32) (u : Int32 × Int32 × Int32 × Value) => u.1 = 1 ∧ (1 = 0 → r = 0)) (QB (dC, dI) (fun (u : Int32 × Int32 × Int32 × Value) => [(M, .inr (6, [.int u.1, .int u.2.1, .int 0, .int 0, .int u.2.2.1, .ref a0, .ref a1, .ref a2, .ref a3, .int 0, u.2.2.2, .long 0]))]) (TYP cI cV cJ cL) (va_A [(M, .inr (6, [.int 0, .int 0, .int 0, .int 0, .int 0, .ref a0, .ref a1, .ref a2, .ref a3, .int 0, .null, .long 0]))] sz)) (va_A [(M, .inr (6, [.int 0, .int 0, .int 0, .int 0, .int 0, .ref a0, .ref a1, .ref a2, .ref a3, .int 0, .null, .long 0]))] sz)) 0 0 (va_A [(M, .inr (6, [.int 0, .int 0, .int 0, .int 0, .int 0, .ref a0, .ref a1, .ref a2, .ref a3, .int 0, .null, .long 0]))] sz) := by
  refine Met.ofW (cc := cX6_jobAt) (maxL := 3) (ret := (some .int)) (by decide) rfl ?_
  intro p e s m args below meth c s₁ B hml hv
  obtain ⟨rfl, hsz, hP, hK, hD0, hN⟩ := hv
  have hx := B.exec
  have hb := B.bytes
  have hr := B.returns
  have hts := atoms_spec (ws := (Cond.code yX6_jobAt cX6_jobAt 3 (some .int) :: TB)) B.pre
  have hown : s.vm.findClass RX6 = some m.cls := findClass_of_methodNamed B.named
  have hlocks := B.notSynchronized
  subst hsz
  have hD := hD0.self (sz := s.heap.size)
  generalize hAe : va_A [(M, .inr (6, [.int 0, .int 0, .int 0, .int 0, .int 0, .ref a0, .ref a1, .ref a2, .ref a3, .int 0, .null, .long 0]))] s.heap.size = A at hD ⊢
  have hA : ∀ q : Nat, s.heap.size ≤ q → A q := fun q h => by rw [← hAe]; exact Or.inr h
  have hS : va_S A s.heap s.heap [] := va_S.rf
  have hl := lv_entry ([.ref M, .int p0, .int p1]) (n := 3) (Nat.le_of_ble_eq_true rfl)
  rw [lg_entry_eq]
  generalize (lg_sl ([.ref M, .int p0, .int p1]) ++ List.replicate (3 - (lg_sl ([.ref M, .int p0, .int p1])).length) Slot.unset).toArray = ls at hl ⊢
  have hl : lv_has ls 3 [(0, .ref M), (1, .int p0), (2, .int p1)] := hl
  refine lv_aload_n hx hb dX6_jobAt_0 rfl (lv_at hl 0 rfl) ?_
  refine lv_iload_n hx hb dX6_jobAt_1 rfl (lv_at hl 1 rfl) ?_
  refine lv_iload_n hx hb dX6_jobAt_2 rfl (lv_at hl 2 rfl) ?_
  refine n_Vz (ci := 6) (q0 := 0) (wc := [(M, .inr (6, [.int 0, .int 0, .int 0, .int 0, .int 0, .ref a0, .ref a1, .ref a2, .ref a3, .int 0, .null, .long 0]))]) (wr := []) [.int p0, .int p1] [0] [] ⟨hx, hb, hml, hown, hts⟩ (fun sz => c_X6_hasStop l dC dI cI cV cJ cL M a0 a1 a2 a3 0 0 0 (.null) 0 p0 p1 sz) q_ml_X6_220 q_im_X6_hasStop q_se_X6_hasStop q_ini_X6 q_co_X6_hasStop (n := 2) (by decide +kernel) rfl ⟨rfl, rfl⟩ ⟨Nat.le_of_ble_eq_true rfl, Nat.le_of_ble_eq_true rfl⟩ hP hD hS hA hK hN rfl rfl (by decide) (by decide) (by decide) rfl rfl rfl hl.1 rfl (Nat.le_of_ble_eq_true rfl) dX6_jobAt_3 ⟨Nat.le_of_ble_eq_true rfl, Nat.le_of_ble_eq_true rfl⟩ (fun r_2 u_1 H locs hu_1 hP hD hS => ?_)
  have hP : va_P (dC, dI) cls [(M, .inr (6, [.int 1, .int 0, .int 0, .int 0, .int 0, .ref a0, .ref a1, .ref a2, .ref a3, .int 0, .null, .long 0]))] H := hP
  have hD : va_D A [(M, .inr (6, [.int 1, .int 0, .int 0, .int 0, .int 0, .ref a0, .ref a1, .ref a2, .ref a3, .int 0, .null, .long 0]))] := hD
  obtain rfl := hu_1
  refine lv_if_eq (tgt := 22) hx hb dX6_jobAt_6 (by decide) (fun c_3 => ?_) (fun c_3 => ?_)
  rotate_left
  · first | exact absurd c_3 (by decide) | exact absurd (by decide) c_3
  refine lv_iconst (v := 0) hx hb dX6_jobAt_22 (by decide) ?_
  refine W.widen (k := 0) (n := 0) (Nat.le_of_ble_eq_true rfl) (Nat.le_of_ble_eq_true rfl) ?_
  have hP := hP.sub (ws' := [(M, .inr (6, [.int 1, .int 0, .int 0, .int 0, .int 0, .ref a0, .ref a1, .ref a2, .ref a3, .int 0, .null, .long 0]))]) [0] rfl
  have hD := hD.sub (ws' := [(M, .inr (6, [.int 1, .int 0, .int 0, .int 0, .int 0, .ref a0, .ref a1, .ref a2, .ref a3, .int 0, .null, .long 0]))]) [0] (by decide) rfl
  have hP9 := hP
  have hD9 := hD
  exact W.iret (v := 0) hx hb hr (fun t9 ht9 hW9 => ⟨⟨_, (1, 0, 0, .null), rfl, ⟨rfl, (fun _ => rfl)⟩, by rw [ht9]; exact hP9, va_K.moved hW9.alike hK, hD9⟩, hS.F ht9⟩) hS.2.2 dX6_jobAt_23
set_option maxHeartbeats 4000000 in
set_option maxRecDepth 100000 in
theorem c_X6_isFetched (l : Launch) (dC : Nat → ClassId) (dI : Nat → Nat → Nat) (cI cV cJ cL : ClassId) (M a0 a1 a2 a3 : Nat) (p0 p1 : Int32)  (sz : Nat) : Met l yX6_isFetched (Cond.code yX6_isFetched cX6_isFetched 3 (some .boolean) :: TB) ({ frames := 3, cells := 0, slots := 0, locals := 67 } : Room) (PW [.ref M, .int p0, .int p1] (dC, dI) [(M, .inr (6, [.int 0, .int 0, .int 0, .int 0, .int 0, .ref a0, .ref a1, .ref a2, .ref a3, .int 0, .null, .long 0]))] (TYP cI cV cJ cL) sz) (va_Qi (fun (r : Int32) (u : Int32 × Int32 × Int32 × Value) => u.1 = 1 ∧ (1 = 0 → r = 0)) (QB (dC, dI) (fun (u : Int32 × Int32 × Int32 × Value) => [(M, .inr (6, [.int u.1, .int u.2.1, .int 0, .int 0, .int u.2.2.1, .ref a0, .ref a1, .ref a2, .ref a3, .int 0, u.2.2.2, .long 0]))]) (TYP cI cV cJ cL) (va_A [(M, .inr (6, [.int 0, .int 0, .int 0, .int 0, .int 0, .ref a0, .ref a1, .ref a2, .ref a3, .int 0, .null, .long 0]))] sz)) (va_A [(M, .inr (6, [.int 0, .int 0, .int 0, .int 0, .int 0, .ref a0, .ref a1, .ref a2, .ref a3, .int 0, .null, .long 0]))] sz)) 0 0 (va_A [(M, .inr (6, [.int 0, .int 0, .int 0, .int 0, .int 0, .ref a0, .ref a1, .ref a2, .ref a3, .int 0, .null, .long 0]))] sz) := by
  refine Met.ofW (cc := cX6_isFetched) (maxL := 3) (ret := (some .boolean)) (by decide) rfl ?_
  intro p e s m args below meth c s₁ B hml hv
  obtain ⟨rfl, hsz, hP, hK, hD0, hN⟩ := hv
  have hx := B.exec
  have hb := B.bytes
  have hr := B.returns
  have hts := atoms_spec (ws := (Cond.code yX6_isFetched cX6_isFetched 3 (some .boolean) :: TB)) B.pre
  have hown : s.vm.findClass RX6 = some m.cls := findClass_of_methodNamed B.named
  have hlocks := B.notSynchronized
  subst hsz
  have hD := hD0.self (sz := s.heap.size)
  generalize hAe : va_A [(M, .inr (6, [.int 0, .int 0, .int 0, .int 0, .int 0, .ref a0, .ref a1, .ref a2, .ref a3, .int 0, .null, .long 0]))] s.heap.size = A at hD ⊢
  have hA : ∀ q : Nat, s.heap.size ≤ q → A q := fun q h => by rw [← hAe]; exact Or.inr h
  have hS : va_S A s.heap s.heap [] := va_S.rf
  have hl := lv_entry ([.ref M, .int p0, .int p1]) (n := 3) (Nat.le_of_ble_eq_true rfl)
  rw [lg_entry_eq]
  generalize (lg_sl ([.ref M, .int p0, .int p1]) ++ List.replicate (3 - (lg_sl ([.ref M, .int p0, .int p1])).length) Slot.unset).toArray = ls at hl ⊢
  have hl : lv_has ls 3 [(0, .ref M), (1, .int p0), (2, .int p1)] := hl
  refine lv_aload_n hx hb dX6_isFetched_0 rfl (lv_at hl 0 rfl) ?_
  refine lv_iload_n hx hb dX6_isFetched_1 rfl (lv_at hl 1 rfl) ?_
  refine lv_iload_n hx hb dX6_isFetched_2 rfl (lv_at hl 2 rfl) ?_
  refine n_Vz (ci := 6) (q0 := 0) (wc := [(M, .inr (6, [.int 0, .int 0, .int 0, .int 0, .int 0, .ref a0, .ref a1, .ref a2, .ref a3, .int 0, .null, .long 0]))]) (wr := []) [.int p0, .int p1] [0] [] ⟨hx, hb, hml, hown, hts⟩ (fun sz => c_X6_hasStop l dC dI cI cV cJ cL M a0 a1 a2 a3 0 0 0 (.null) 0 p0 p1 sz) q_ml_X6_220 q_im_X6_hasStop q_se_X6_hasStop q_ini_X6 q_co_X6_hasStop (n := 2) (by decide +kernel) rfl ⟨rfl, rfl⟩ ⟨Nat.le_of_ble_eq_true rfl, Nat.le_of_ble_eq_true rfl⟩ hP hD hS hA hK hN rfl rfl (by decide) (by decide) (by decide) rfl rfl rfl hl.1 rfl (Nat.le_of_ble_eq_true rfl) dX6_isFetched_3 ⟨Nat.le_of_ble_eq_true rfl, Nat.le_of_ble_eq_true rfl⟩ (fun r_2 u_1 H locs hu_1 hP hD hS => ?_)
  have hP : va_P (dC, dI) cls [(M, .inr (6, [.int 1, .int 0, .int 0, .int 0, .int 0, .ref a0, .ref a1, .ref a2, .ref a3, .int 0, .null, .long 0]))] H := hP
  have hD : va_D A [(M, .inr (6, [.int 1, .int 0, .int 0, .int 0, .int 0, .ref a0, .ref a1, .ref a2, .ref a3, .int 0, .null, .long 0]))] := hD
  obtain rfl := hu_1
  refine lv_if_eq (tgt := 26) hx hb dX6_isFetched_6 (by decide) (fun c_3 => ?_) (fun c_3 => ?_)
  rotate_left
  · first | exact absurd c_3 (by decide) | exact absurd (by decide) c_3
  refine lv_iconst (v := 0) hx hb dX6_isFetched_26 (by decide) ?_
  refine W.widen (k := 0) (n := 0) (Nat.le_of_ble_eq_true rfl) (Nat.le_of_ble_eq_true rfl) ?_
  have hP := hP.sub (ws' := [(M, .inr (6, [.int 1, .int 0, .int 0, .int 0, .int 0, .ref a0, .ref a1, .ref a2, .ref a3, .int 0, .null, .long 0]))]) [0] rfl
  have hD := hD.sub (ws' := [(M, .inr (6, [.int 1, .int 0, .int 0, .int 0, .int 0, .ref a0, .ref a1, .ref a2, .ref a3, .int 0, .null, .long 0]))]) [0] (by decide) rfl
  have hP9 := hP
  have hD9 := hD
  exact W.zret (v := 0) hx hb hr rfl (fun t9 ht9 hW9 => ⟨⟨_, (1, 0, 0, .null), rfl, ⟨rfl, (fun _ => rfl)⟩, by rw [ht9]; exact hP9, va_K.moved hW9.alike hK, hD9⟩, hS.F ht9⟩) hS.2.2 dX6_isFetched_27
set_option maxHeartbeats 4000000 in
set_option maxRecDepth 100000 in
theorem c_X6_arrives (l : Launch) (dC : Nat → ClassId) (dI : Nat → Nat → Nat) (cI cV cJ cL : ClassId) (M a0 a1 a2 a3 : Nat) (p0 p1 : Int32)  (sz : Nat) : Met l yX6_arrives (Cond.code yX6_arrives cX6_arrives 3 (some .int) :: TB) ({ frames := 3, cells := 0, slots := 0, locals := 67 } : Room) (PW [.ref M, .int p0, .int p1] (dC, dI) [(M, .inr (6, [.int 0, .int 0, .int 0, .int 0, .int 0, .ref a0, .ref a1, .ref a2, .ref a3, .int 0, .null, .long 0]))] (TYP cI cV cJ cL) sz) (va_Qi (fun (r : Int32) (u : Int32 × Int32 × Int32 × Value) => u.1 = 1 ∧ (1 = 0 → r = 0)) (QB (dC, dI) (fun (u : Int32 × Int32 × Int32 × Value) => [(M, .inr (6, [.int u.1, .int u.2.1, .int 0, .int 0, .int u.2.2.1, .ref a0, .ref a1, .ref a2, .ref a3, .int 0, u.2.2.2, .long 0]))]) (TYP cI cV cJ cL) (va_A [(M, .inr (6, [.int 0, .int 0, .int 0, .int 0, .int 0, .ref a0, .ref a1, .ref a2, .ref a3, .int 0, .null, .long 0]))] sz)) (va_A [(M, .inr (6, [.int 0, .int 0, .int 0, .int 0, .int 0, .ref a0, .ref a1, .ref a2, .ref a3, .int 0, .null, .long 0]))] sz)) 0 0 (va_A [(M, .inr (6, [.int 0, .int 0, .int 0, .int 0, .int 0, .ref a0, .ref a1, .ref a2, .ref a3, .int 0, .null, .long 0]))] sz) := by
  refine Met.ofW (cc := cX6_arrives) (maxL := 3) (ret := (some .int)) (by decide) rfl ?_
  intro p e s m args below meth c s₁ B hml hv
  obtain ⟨rfl, hsz, hP, hK, hD0, hN⟩ := hv
  have hx := B.exec
  have hb := B.bytes
  have hr := B.returns
  have hts := atoms_spec (ws := (Cond.code yX6_arrives cX6_arrives 3 (some .int) :: TB)) B.pre
  have hown : s.vm.findClass RX6 = some m.cls := findClass_of_methodNamed B.named
  have hlocks := B.notSynchronized
  subst hsz
  have hD := hD0.self (sz := s.heap.size)
  generalize hAe : va_A [(M, .inr (6, [.int 0, .int 0, .int 0, .int 0, .int 0, .ref a0, .ref a1, .ref a2, .ref a3, .int 0, .null, .long 0]))] s.heap.size = A at hD ⊢
  have hA : ∀ q : Nat, s.heap.size ≤ q → A q := fun q h => by rw [← hAe]; exact Or.inr h
  have hS : va_S A s.heap s.heap [] := va_S.rf
  have hl := lv_entry ([.ref M, .int p0, .int p1]) (n := 3) (Nat.le_of_ble_eq_true rfl)
  rw [lg_entry_eq]
  generalize (lg_sl ([.ref M, .int p0, .int p1]) ++ List.replicate (3 - (lg_sl ([.ref M, .int p0, .int p1])).length) Slot.unset).toArray = ls at hl ⊢
  have hl : lv_has ls 3 [(0, .ref M), (1, .int p0), (2, .int p1)] := hl
  refine lv_aload_n hx hb dX6_arrives_0 rfl (lv_at hl 0 rfl) ?_
  refine lv_iload_n hx hb dX6_arrives_1 rfl (lv_at hl 1 rfl) ?_
  refine lv_iload_n hx hb dX6_arrives_2 rfl (lv_at hl 2 rfl) ?_
  refine n_Vz (ci := 6) (q0 := 0) (wc := [(M, .inr (6, [.int 0, .int 0, .int 0, .int 0, .int 0, .ref a0, .ref a1, .ref a2, .ref a3, .int 0, .null, .long 0]))]) (wr := []) [.int p0, .int p1] [0] [] ⟨hx, hb, hml, hown, hts⟩ (fun sz => c_X6_hasStop l dC dI cI cV cJ cL M a0 a1 a2 a3 0 0 0 (.null) 0 p0 p1 sz) q_ml_X6_220 q_im_X6_hasStop q_se_X6_hasStop q_ini_X6 q_co_X6_hasStop (n := 2) (by decide +kernel) rfl ⟨rfl, rfl⟩ ⟨Nat.le_of_ble_eq_true rfl, Nat.le_of_ble_eq_true rfl⟩ hP hD hS hA hK hN rfl rfl (by decide) (by decide) (by decide) rfl rfl rfl hl.1 rfl (Nat.le_of_ble_eq_true rfl) dX6_arrives_3 ⟨Nat.le_of_ble_eq_true rfl, Nat.le_of_ble_eq_true rfl⟩ (fun r_2 u_1 H locs hu_1 hP hD hS => ?_)
  have hP : va_P (dC, dI) cls [(M, .inr (6, [.int 1, .int 0, .int 0, .int 0, .int 0, .ref a0, .ref a1, .ref a2, .ref a3, .int 0, .null, .long 0]))] H := hP
  have hD : va_D A [(M, .inr (6, [.int 1, .int 0, .int 0, .int 0, .int 0, .ref a0, .ref a1, .ref a2, .ref a3, .int 0, .null, .long 0]))] := hD
  obtain rfl := hu_1
  refine lv_if_eq (tgt := 27) hx hb dX6_arrives_6 (by decide) (fun c_3 => ?_) (fun c_3 => ?_)
  rotate_left
  · first | exact absurd c_3 (by decide) | exact absurd (by decide) c_3
  refine lv_iconst (v := 0) hx hb dX6_arrives_27 (by decide) ?_
  refine W.widen (k := 0) (n := 0) (Nat.le_of_ble_eq_true rfl) (Nat.le_of_ble_eq_true rfl) ?_
  have hP := hP.sub (ws' := [(M, .inr (6, [.int 1, .int 0, .int 0, .int 0, .int 0, .ref a0, .ref a1, .ref a2, .ref a3, .int 0, .null, .long 0]))]) [0] rfl
  have hD := hD.sub (ws' := [(M, .inr (6, [.int 1, .int 0, .int 0, .int 0, .int 0, .ref a0, .ref a1, .ref a2, .ref a3, .int 0, .null, .long 0]))]) [0] (by decide) rfl
  have hP9 := hP
  have hD9 := hD
  exact W.iret (v := 0) hx hb hr (fun t9 ht9 hW9 => ⟨⟨_, (1, 0, 0, .null), rfl, ⟨rfl, (fun _ => rfl)⟩, by rw [ht9]; exact hP9, va_K.moved hW9.alike hK, hD9⟩, hS.F ht9⟩) hS.2.2 dX6_arrives_28
set_option maxHeartbeats 4000000 in
set_option maxRecDepth 100000 in
theorem c_X6_begins (l : Launch) (dC : Nat → ClassId) (dI : Nat → Nat → Nat) (cI cV cJ cL : ClassId) (M a0 a1 a2 a3 : Nat) (p0 p1 : Int32)  (sz : Nat) : Met l yX6_begins (Cond.code yX6_begins cX6_begins 3 (some .int) :: TB) ({ frames := 3, cells := 0, slots := 0, locals := 67 } : Room) (PW [.ref M, .int p0, .int p1] (dC, dI) [(M, .inr (6, [.int 0, .int 0, .int 0, .int 0, .int 0, .ref a0, .ref a1, .ref a2, .ref a3, .int 0, .null, .long 0]))] (TYP cI cV cJ cL) sz) (va_Qi (fun (r : Int32) (u : Int32 × Int32 × Int32 × Value) => u.1 = 1 ∧ (1 = 0 → r = 0)) (QB (dC, dI) (fun (u : Int32 × Int32 × Int32 × Value) => [(M, .inr (6, [.int u.1, .int u.2.1, .int 0, .int 0, .int u.2.2.1, .ref a0, .ref a1, .ref a2, .ref a3, .int 0, u.2.2.2, .long 0]))]) (TYP cI cV cJ cL) (va_A [(M, .inr (6, [.int 0, .int 0, .int 0, .int 0, .int 0, .ref a0, .ref a1, .ref a2, .ref a3, .int 0, .null, .long 0]))] sz)) (va_A [(M, .inr (6, [.int 0, .int 0, .int 0, .int 0, .int 0, .ref a0, .ref a1, .ref a2, .ref a3, .int 0, .null, .long 0]))] sz)) 0 0 (va_A [(M, .inr (6, [.int 0, .int 0, .int 0, .int 0, .int 0, .ref a0, .ref a1, .ref a2, .ref a3, .int 0, .null, .long 0]))] sz) := by
  refine Met.ofW (cc := cX6_begins) (maxL := 3) (ret := (some .int)) (by decide) rfl ?_
  intro p e s m args below meth c s₁ B hml hv
  obtain ⟨rfl, hsz, hP, hK, hD0, hN⟩ := hv
  have hx := B.exec
  have hb := B.bytes
  have hr := B.returns
  have hts := atoms_spec (ws := (Cond.code yX6_begins cX6_begins 3 (some .int) :: TB)) B.pre
  have hown : s.vm.findClass RX6 = some m.cls := findClass_of_methodNamed B.named
  have hlocks := B.notSynchronized
  subst hsz
  have hD := hD0.self (sz := s.heap.size)
  generalize hAe : va_A [(M, .inr (6, [.int 0, .int 0, .int 0, .int 0, .int 0, .ref a0, .ref a1, .ref a2, .ref a3, .int 0, .null, .long 0]))] s.heap.size = A at hD ⊢
  have hA : ∀ q : Nat, s.heap.size ≤ q → A q := fun q h => by rw [← hAe]; exact Or.inr h
  have hS : va_S A s.heap s.heap [] := va_S.rf
  have hl := lv_entry ([.ref M, .int p0, .int p1]) (n := 3) (Nat.le_of_ble_eq_true rfl)
  rw [lg_entry_eq]
  generalize (lg_sl ([.ref M, .int p0, .int p1]) ++ List.replicate (3 - (lg_sl ([.ref M, .int p0, .int p1])).length) Slot.unset).toArray = ls at hl ⊢
  have hl : lv_has ls 3 [(0, .ref M), (1, .int p0), (2, .int p1)] := hl
  refine lv_aload_n hx hb dX6_begins_0 rfl (lv_at hl 0 rfl) ?_
  refine lv_iload_n hx hb dX6_begins_1 rfl (lv_at hl 1 rfl) ?_
  refine lv_iload_n hx hb dX6_begins_2 rfl (lv_at hl 2 rfl) ?_
  refine n_Vz (ci := 6) (q0 := 0) (wc := [(M, .inr (6, [.int 0, .int 0, .int 0, .int 0, .int 0, .ref a0, .ref a1, .ref a2, .ref a3, .int 0, .null, .long 0]))]) (wr := []) [.int p0, .int p1] [0] [] ⟨hx, hb, hml, hown, hts⟩ (fun sz => c_X6_hasStop l dC dI cI cV cJ cL M a0 a1 a2 a3 0 0 0 (.null) 0 p0 p1 sz) q_ml_X6_220 q_im_X6_hasStop q_se_X6_hasStop q_ini_X6 q_co_X6_hasStop (n := 2) (by decide +kernel) rfl ⟨rfl, rfl⟩ ⟨Nat.le_of_ble_eq_true rfl, Nat.le_of_ble_eq_true rfl⟩ hP hD hS hA hK hN rfl rfl (by decide) (by decide) (by decide) rfl rfl rfl hl.1 rfl (Nat.le_of_ble_eq_true rfl) dX6_begins_3 ⟨Nat.le_of_ble_eq_true rfl, Nat.le_of_ble_eq_true rfl⟩ (fun r_2 u_1 H locs hu_1 hP hD hS => ?_)
  have hP : va_P (dC, dI) cls [(M, .inr (6, [.int 1, .int 0, .int 0, .int 0, .int 0, .ref a0, .ref a1, .ref a2, .ref a3, .int 0, .null, .long 0]))] H := hP
  have hD : va_D A [(M, .inr (6, [.int 1, .int 0, .int 0, .int 0, .int 0, .ref a0, .ref a1, .ref a2, .ref a3, .int 0, .null, .long 0]))] := hD
  obtain rfl := hu_1
  refine lv_if_eq (tgt := 27) hx hb dX6_begins_6 (by decide) (fun c_3 => ?_) (fun c_3 => ?_)
  rotate_left
  · first | exact absurd c_3 (by decide) | exact absurd (by decide) c_3
  refine lv_iconst (v := 0) hx hb dX6_begins_27 (by decide) ?_
  refine W.widen (k := 0) (n := 0) (Nat.le_of_ble_eq_true rfl) (Nat.le_of_ble_eq_true rfl) ?_
  have hP := hP.sub (ws' := [(M, .inr (6, [.int 1, .int 0, .int 0, .int 0, .int 0, .ref a0, .ref a1, .ref a2, .ref a3, .int 0, .null, .long 0]))]) [0] rfl
  have hD := hD.sub (ws' := [(M, .inr (6, [.int 1, .int 0, .int 0, .int 0, .int 0, .ref a0, .ref a1, .ref a2, .ref a3, .int 0, .null, .long 0]))]) [0] (by decide) rfl
  have hP9 := hP
  have hD9 := hD
  exact W.iret (v := 0) hx hb hr (fun t9 ht9 hW9 => ⟨⟨_, (1, 0, 0, .null), rfl, ⟨rfl, (fun _ => rfl)⟩, by rw [ht9]; exact hP9, va_K.moved hW9.alike hK, hD9⟩, hS.F ht9⟩) hS.2.2 dX6_begins_28
set_option maxHeartbeats 4000000 in
set_option maxRecDepth 100000 in
theorem c_X6_loadBehind (l : Launch) (dC : Nat → ClassId) (dI : Nat → Nat → Nat) (cI cV cJ cL : ClassId) (M a0 a1 a2 a3 : Nat) (p0 p1 : Int32)  (sz : Nat) : Met l yX6_loadBehind (Cond.code yX6_loadBehind cX6_loadBehind 3 (some .int) :: TB) ({ frames := 3, cells := 0, slots := 0, locals := 67 } : Room) (PW [.ref M, .int p0, .int p1] (dC, dI) [(M, .inr (6, [.int 0, .int 0, .int 0, .int 0, .int 0, .ref a0, .ref a1, .ref a2, .ref a3, .int 0, .null, .long 0]))] (TYP cI cV cJ cL) sz) (va_Qi (fun (r : Int32) (u : Int32 × Int32 × Int32 × Value) => u.1 = 1 ∧ (1 = 0 → r = 0)) (QB (dC, dI) (fun (u : Int32 × Int32 × Int32 × Value) => [(M, .inr (6, [.int u.1, .int u.2.1, .int 0, .int 0, .int u.2.2.1, .ref a0, .ref a1, .ref a2, .ref a3, .int 0, u.2.2.2, .long 0]))]) (TYP cI cV cJ cL) (va_A [(M, .inr (6, [.int 0, .int 0, .int 0, .int 0, .int 0, .ref a0, .ref a1, .ref a2, .ref a3, .int 0, .null, .long 0]))] sz)) (va_A [(M, .inr (6, [.int 0, .int 0, .int 0, .int 0, .int 0, .ref a0, .ref a1, .ref a2, .ref a3, .int 0, .null, .long 0]))] sz)) 0 0 (va_A [(M, .inr (6, [.int 0, .int 0, .int 0, .int 0, .int 0, .ref a0, .ref a1, .ref a2, .ref a3, .int 0, .null, .long 0]))] sz) := by
  refine Met.ofW (cc := cX6_loadBehind) (maxL := 3) (ret := (some .int)) (by decide) rfl ?_
  intro p e s m args below meth c s₁ B hml hv
  obtain ⟨rfl, hsz, hP, hK, hD0, hN⟩ := hv
  have hx := B.exec
  have hb := B.bytes
  have hr := B.returns
  have hts := atoms_spec (ws := (Cond.code yX6_loadBehind cX6_loadBehind 3 (some .int) :: TB)) B.pre
  have hown : s.vm.findClass RX6 = some m.cls := findClass_of_methodNamed B.named
  have hlocks := B.notSynchronized
  subst hsz
  have hD := hD0.self (sz := s.heap.size)
  generalize hAe : va_A [(M, .inr (6, [.int 0, .int 0, .int 0, .int 0, .int 0, .ref a0, .ref a1, .ref a2, .ref a3, .int 0, .null, .long 0]))] s.heap.size = A at hD ⊢
  have hA : ∀ q : Nat, s.heap.size ≤ q → A q := fun q h => by rw [← hAe]; exact Or.inr h
  have hS : va_S A s.heap s.heap [] := va_S.rf
  have hl := lv_entry ([.ref M, .int p0, .int p1]) (n := 3) (Nat.le_of_ble_eq_true rfl)
  rw [lg_entry_eq]
  generalize (lg_sl ([.ref M, .int p0, .int p1]) ++ List.replicate (3 - (lg_sl ([.ref M, .int p0, .int p1])).length) Slot.unset).toArray = ls at hl ⊢
  have hl : lv_has ls 3 [(0, .ref M), (1, .int p0), (2, .int p1)] := hl
  refine lv_aload_n hx hb dX6_loadBehind_0 rfl (lv_at hl 0 rfl) ?_
  refine lv_iload_n hx hb dX6_loadBehind_1 rfl (lv_at hl 1 rfl) ?_
  refine lv_iload_n hx hb dX6_loadBehind_2 rfl (lv_at hl 2 rfl) ?_
  refine n_Vz (ci := 6) (q0 := 0) (wc := [(M, .inr (6, [.int 0, .int 0, .int 0, .int 0, .int 0, .ref a0, .ref a1, .ref a2, .ref a3, .int 0, .null, .long 0]))]) (wr := []) [.int p0, .int p1] [0] [] ⟨hx, hb, hml, hown, hts⟩ (fun sz => c_X6_hasStop l dC dI cI cV cJ cL M a0 a1 a2 a3 0 0 0 (.null) 0 p0 p1 sz) q_ml_X6_220 q_im_X6_hasStop q_se_X6_hasStop q_ini_X6 q_co_X6_hasStop (n := 2) (by decide +kernel) rfl ⟨rfl, rfl⟩ ⟨Nat.le_of_ble_eq_true rfl, Nat.le_of_ble_eq_true rfl⟩ hP hD hS hA hK hN rfl rfl (by decide) (by decide) (by decide) rfl rfl rfl hl.1 rfl (Nat.le_of_ble_eq_true rfl) dX6_loadBehind_3 ⟨Nat.le_of_ble_eq_true rfl, Nat.le_of_ble_eq_true rfl⟩ (fun r_2 u_1 H locs hu_1 hP hD hS => ?_)
  have hP : va_P (dC, dI) cls [(M, .inr (6, [.int 1, .int 0, .int 0, .int 0, .int 0, .ref a0, .ref a1, .ref a2, .ref a3, .int 0, .null, .long 0]))] H := hP
  have hD : va_D A [(M, .inr (6, [.int 1, .int 0, .int 0, .int 0, .int 0, .ref a0, .ref a1, .ref a2, .ref a3, .int 0, .null, .long 0]))] := hD
  obtain rfl := hu_1
  refine lv_if_eq (tgt := 27) hx hb dX6_loadBehind_6 (by decide) (fun c_3 => ?_) (fun c_3 => ?_)
  rotate_left
  · first | exact absurd c_3 (by decide) | exact absurd (by decide) c_3
  refine lv_iconst (v := 0) hx hb dX6_loadBehind_27 (by decide) ?_
  refine W.widen (k := 0) (n := 0) (Nat.le_of_ble_eq_true rfl) (Nat.le_of_ble_eq_true rfl) ?_
  have hP := hP.sub (ws' := [(M, .inr (6, [.int 1, .int 0, .int 0, .int 0, .int 0, .ref a0, .ref a1, .ref a2, .ref a3, .int 0, .null, .long 0]))]) [0] rfl
  have hD := hD.sub (ws' := [(M, .inr (6, [.int 1, .int 0, .int 0, .int 0, .int 0, .ref a0, .ref a1, .ref a2, .ref a3, .int 0, .null, .long 0]))]) [0] (by decide) rfl
  have hP9 := hP
  have hD9 := hD
  exact W.iret (v := 0) hx hb hr (fun t9 ht9 hW9 => ⟨⟨_, (1, 0, 0, .null), rfl, ⟨rfl, (fun _ => rfl)⟩, by rw [ht9]; exact hP9, va_K.moved hW9.alike hK, hD9⟩, hS.F ht9⟩) hS.2.2 dX6_loadBehind_28
set_option maxHeartbeats 4000000 in
set_option maxRecDepth 100000 in
theorem c_X6_slack (l : Launch) (dC : Nat → ClassId) (dI : Nat → Nat → Nat) (cI cV cJ cL : ClassId) (M a0 a1 a2 a3 : Nat) (p0 p1 : Int32)  (sz : Nat) : Met l yX6_slack (Cond.code yX6_slack cX6_slack 3 (some .int) :: TB) ({ frames := 3, cells := 0, slots := 0, locals := 67 } : Room) (PW [.ref M, .int p0, .int p1] (dC, dI) [(M, .inr (6, [.int 0, .int 0, .int 0, .int 0, .int 0, .ref a0, .ref a1, .ref a2, .ref a3, .int 0, .null, .long 0]))] (TYP cI cV cJ cL) sz) (va_Qi (fun (r : Int32) (u : Int32 × Int32 × Int32 × Value) => u.1 = 1 ∧ (1 = 0 → r = 0)) (QB (dC, dI) (fun (u : Int32 × Int32 × Int32 × Value) => [(M, .inr (6, [.int u.1, .int u.2.1, .int 0, .int 0, .int u.2.2.1, .ref a0, .ref a1, .ref a2, .ref a3, .int 0, u.2.2.2, .long 0]))]) (TYP cI cV cJ cL) (va_A [(M, .inr (6, [.int 0, .int 0, .int 0, .int 0, .int 0, .ref a0, .ref a1, .ref a2, .ref a3, .int 0, .null, .long 0]))] sz)) (va_A [(M, .inr (6, [.int 0, .int 0, .int 0, .int 0, .int 0, .ref a0, .ref a1, .ref a2, .ref a3, .int 0, .null, .long 0]))] sz)) 0 0 (va_A [(M, .inr (6, [.int 0, .int 0, .int 0, .int 0, .int 0, .ref a0, .ref a1, .ref a2, .ref a3, .int 0, .null, .long 0]))] sz) := by
  refine Met.ofW (cc := cX6_slack) (maxL := 3) (ret := (some .int)) (by decide) rfl ?_
  intro p e s m args below meth c s₁ B hml hv
  obtain ⟨rfl, hsz, hP, hK, hD0, hN⟩ := hv
  have hx := B.exec
  have hb := B.bytes
  have hr := B.returns
  have hts := atoms_spec (ws := (Cond.code yX6_slack cX6_slack 3 (some .int) :: TB)) B.pre
  have hown : s.vm.findClass RX6 = some m.cls := findClass_of_methodNamed B.named
  have hlocks := B.notSynchronized
  subst hsz
  have hD := hD0.self (sz := s.heap.size)
  generalize hAe : va_A [(M, .inr (6, [.int 0, .int 0, .int 0, .int 0, .int 0, .ref a0, .ref a1, .ref a2, .ref a3, .int 0, .null, .long 0]))] s.heap.size = A at hD ⊢
  have hA : ∀ q : Nat, s.heap.size ≤ q → A q := fun q h => by rw [← hAe]; exact Or.inr h
  have hS : va_S A s.heap s.heap [] := va_S.rf
  have hl := lv_entry ([.ref M, .int p0, .int p1]) (n := 3) (Nat.le_of_ble_eq_true rfl)
  rw [lg_entry_eq]
  generalize (lg_sl ([.ref M, .int p0, .int p1]) ++ List.replicate (3 - (lg_sl ([.ref M, .int p0, .int p1])).length) Slot.unset).toArray = ls at hl ⊢
  have hl : lv_has ls 3 [(0, .ref M), (1, .int p0), (2, .int p1)] := hl
  refine lv_aload_n hx hb dX6_slack_0 rfl (lv_at hl 0 rfl) ?_
  refine lv_iload_n hx hb dX6_slack_1 rfl (lv_at hl 1 rfl) ?_
  refine lv_iload_n hx hb dX6_slack_2 rfl (lv_at hl 2 rfl) ?_
  refine n_Vz (ci := 6) (q0 := 0) (wc := [(M, .inr (6, [.int 0, .int 0, .int 0, .int 0, .int 0, .ref a0, .ref a1, .ref a2, .ref a3, .int 0, .null, .long 0]))]) (wr := []) [.int p0, .int p1] [0] [] ⟨hx, hb, hml, hown, hts⟩ (fun sz => c_X6_hasStop l dC dI cI cV cJ cL M a0 a1 a2 a3 0 0 0 (.null) 0 p0 p1 sz) q_ml_X6_220 q_im_X6_hasStop q_se_X6_hasStop q_ini_X6 q_co_X6_hasStop (n := 2) (by decide +kernel) rfl ⟨rfl, rfl⟩ ⟨Nat.le_of_ble_eq_true rfl, Nat.le_of_ble_eq_true rfl⟩ hP hD hS hA hK hN rfl rfl (by decide) (by decide) (by decide) rfl rfl rfl hl.1 rfl (Nat.le_of_ble_eq_true rfl) dX6_slack_3 ⟨Nat.le_of_ble_eq_true rfl, Nat.le_of_ble_eq_true rfl⟩ (fun r_2 u_1 H locs hu_1 hP hD hS => ?_)
  have hP : va_P (dC, dI) cls [(M, .inr (6, [.int 1, .int 0, .int 0, .int 0, .int 0, .ref a0, .ref a1, .ref a2, .ref a3, .int 0, .null, .long 0]))] H := hP
  have hD : va_D A [(M, .inr (6, [.int 1, .int 0, .int 0, .int 0, .int 0, .ref a0, .ref a1, .ref a2, .ref a3, .int 0, .null, .long 0]))] := hD
  obtain rfl := hu_1
  refine lv_if_eq (tgt := 18) hx hb dX6_slack_6 (by decide) (fun c_3 => ?_) (fun c_3 => ?_)
  rotate_left
  · first | exact absurd c_3 (by decide) | exact absurd (by decide) c_3
  refine lv_iconst (v := 0) hx hb dX6_slack_18 (by decide) ?_
  refine W.widen (k := 0) (n := 0) (Nat.le_of_ble_eq_true rfl) (Nat.le_of_ble_eq_true rfl) ?_
  have hP := hP.sub (ws' := [(M, .inr (6, [.int 1, .int 0, .int 0, .int 0, .int 0, .ref a0, .ref a1, .ref a2, .ref a3, .int 0, .null, .long 0]))]) [0] rfl
  have hD := hD.sub (ws' := [(M, .inr (6, [.int 1, .int 0, .int 0, .int 0, .int 0, .ref a0, .ref a1, .ref a2, .ref a3, .int 0, .null, .long 0]))]) [0] (by decide) rfl
  have hP9 := hP
  have hD9 := hD
  exact W.iret (v := 0) hx hb hr (fun t9 ht9 hW9 => ⟨⟨_, (1, 0, 0, .null), rfl, ⟨rfl, (fun _ => rfl)⟩, by rw [ht9]; exact hP9, va_K.moved hW9.alike hK, hD9⟩, hS.F ht9⟩) hS.2.2 dX6_slack_19
set_option maxHeartbeats 4000000 in
set_option maxRecDepth 100000 in
theorem c_X6_laterBack (l : Launch) (dC : Nat → ClassId) (dI : Nat → Nat → Nat) (cI cV cJ cL : ClassId) (M a0 a1 a2 a3 : Nat) (p0 p1 p2 : Int32)  (sz : Nat) : Met l yX6_laterBack (Cond.code yX6_laterBack cX6_laterBack 4 (some .int) :: TB) ({ frames := 3, cells := 0, slots := 0, locals := 67 } : Room) (PW [.ref M, .int p0, .int p1, .int p2] (dC, dI) [(M, .inr (6, [.int 0, .int 0, .int 0, .int 0, .int 0, .ref a0, .ref a1, .ref a2, .ref a3, .int 0, .null, .long 0]))] (TYP cI cV cJ cL) sz) (va_Qi (fun (r : Int32) (u : Int32 × Int32 × Int32 × Value) => u.1 = 1 ∧ (1 = 0 → r = 0)) (QB (dC, dI) (fun (u : Int32 × Int32 × Int32 × Value) => [(M, .inr (6, [.int u.1, .int u.2.1, .int 0, .int 0, .int u.2.2.1, .ref a0, .ref a1, .ref a2, .ref a3, .int 0, u.2.2.2, .long 0]))]) (TYP cI cV cJ cL) (va_A [(M, .inr (6, [.int 0, .int 0, .int 0, .int 0, .int 0, .ref a0, .ref a1, .ref a2, .ref a3, .int 0, .null, .long 0]))] sz)) (va_A [(M, .inr (6, [.int 0, .int 0, .int 0, .int 0, .int 0, .ref a0, .ref a1, .ref a2, .ref a3, .int 0, .null, .long 0]))] sz)) 0 0 (va_A [(M, .inr (6, [.int 0, .int 0, .int 0, .int 0, .int 0, .ref a0, .ref a1, .ref a2, .ref a3, .int 0, .null, .long 0]))] sz) := by
  refine Met.ofW (cc := cX6_laterBack) (maxL := 4) (ret := (some .int)) (by decide) rfl ?_
  intro p e s m args below meth c s₁ B hml hv
  obtain ⟨rfl, hsz, hP, hK, hD0, hN⟩ := hv
  have hx := B.exec
  have hb := B.bytes
  have hr := B.returns
  have hts := atoms_spec (ws := (Cond.code yX6_laterBack cX6_laterBack 4 (some .int) :: TB)) B.pre
  have hown : s.vm.findClass RX6 = some m.cls := findClass_of_methodNamed B.named
  have hlocks := B.notSynchronized
  subst hsz
  have hD := hD0.self (sz := s.heap.size)
  generalize hAe : va_A [(M, .inr (6, [.int 0, .int 0, .int 0, .int 0, .int 0, .ref a0, .ref a1, .ref a2, .ref a3, .int 0, .null, .long 0]))] s.heap.size = A at hD ⊢
  have hA : ∀ q : Nat, s.heap.size ≤ q → A q := fun q h => by rw [← hAe]; exact Or.inr h
  have hS : va_S A s.heap s.heap [] := va_S.rf
  have hl := lv_entry ([.ref M, .int p0, .int p1, .int p2]) (n := 4) (Nat.le_of_ble_eq_true rfl)
  rw [lg_entry_eq]
  generalize (lg_sl ([.ref M, .int p0, .int p1, .int p2]) ++ List.replicate (4 - (lg_sl ([.ref M, .int p0, .int p1, .int p2])).length) Slot.unset).toArray = ls at hl ⊢
  have hl : lv_has ls 4 [(0, .ref M), (1, .int p0), (2, .int p1), (3, .int p2)] := hl
  refine lv_aload_n hx hb dX6_laterBack_0 rfl (lv_at hl 0 rfl) ?_
  refine lv_iload_n hx hb dX6_laterBack_1 rfl (lv_at hl 1 rfl) ?_
  refine lv_iload_n hx hb dX6_laterBack_2 rfl (lv_at hl 2 rfl) ?_
  refine n_Vz (ci := 6) (q0 := 0) (wc := [(M, .inr (6, [.int 0, .int 0, .int 0, .int 0, .int 0, .ref a0, .ref a1, .ref a2, .ref a3, .int 0, .null, .long 0]))]) (wr := []) [.int p0, .int p1] [0] [] ⟨hx, hb, hml, hown, hts⟩ (fun sz => c_X6_hasStop l dC dI cI cV cJ cL M a0 a1 a2 a3 0 0 0 (.null) 0 p0 p1 sz) q_ml_X6_220 q_im_X6_hasStop q_se_X6_hasStop q_ini_X6 q_co_X6_hasStop (n := 2) (by decide +kernel) rfl ⟨rfl, rfl⟩ ⟨Nat.le_of_ble_eq_true rfl, Nat.le_of_ble_eq_true rfl⟩ hP hD hS hA hK hN rfl rfl (by decide) (by decide) (by decide) rfl rfl rfl hl.1 rfl (Nat.le_of_ble_eq_true rfl) dX6_laterBack_3 ⟨Nat.le_of_ble_eq_true rfl, Nat.le_of_ble_eq_true rfl⟩ (fun r_2 u_1 H locs hu_1 hP hD hS => ?_)
  have hP : va_P (dC, dI) cls [(M, .inr (6, [.int 1, .int 0, .int 0, .int 0, .int 0, .ref a0, .ref a1, .ref a2, .ref a3, .int 0, .null, .long 0]))] H := hP
  have hD : va_D A [(M, .inr (6, [.int 1, .int 0, .int 0, .int 0, .int 0, .ref a0, .ref a1, .ref a2, .ref a3, .int 0, .null, .long 0]))] := hD
  obtain rfl := hu_1
  refine lv_if_ne (tgt := 11) hx hb dX6_laterBack_6 (by decide) (fun c_3 => ?_) (fun c_3 => ?_)
  · first | exact absurd c_3 (by decide) | exact absurd (by decide) c_3
  refine lv_iconst (v := 0) hx hb dX6_laterBack_9 (by decide) ?_
  refine W.widen (k := 0) (n := 0) (Nat.le_of_ble_eq_true rfl) (Nat.le_of_ble_eq_true rfl) ?_
  have hP := hP.sub (ws' := [(M, .inr (6, [.int 1, .int 0, .int 0, .int 0, .int 0, .ref a0, .ref a1, .ref a2, .ref a3, .int 0, .null, .long 0]))]) [0] rfl
  have hD := hD.sub (ws' := [(M, .inr (6, [.int 1, .int 0, .int 0, .int 0, .int 0, .ref a0, .ref a1, .ref a2, .ref a3, .int 0, .null, .long 0]))]) [0] (by decide) rfl
  have hP9 := hP
  have hD9 := hD
  exact W.iret (v := 0) hx hb hr (fun t9 ht9 hW9 => ⟨⟨_, (1, 0, 0, .null), rfl, ⟨rfl, (fun _ => rfl)⟩, by rw [ht9]; exact hP9, va_K.moved hW9.alike hK, hD9⟩, hS.F ht9⟩) hS.2.2 dX6_laterBack_10
set_option maxHeartbeats 4000000 in
set_option maxRecDepth 100000 in
theorem c_X6_clock (l : Launch) (dC : Nat → ClassId) (dI : Nat → Nat → Nat) (cI cV cJ cL : ClassId) (M a0 a1 a2 a3 : Nat)  (sz : Nat) : Met l yX6_clock (Cond.code yX6_clock cX6_clock 1 (some .int) :: TB) ({ frames := 1, cells := 0, slots := 0, locals := 24 } : Room) (PW [.ref M] (dC, dI) [(M, .inr (6, [.int 0, .int 0, .int 0, .int 0, .int 0, .ref a0, .ref a1, .ref a2, .ref a3, .int 0, .null, .long 0]))] (TYP cI cV cJ cL) sz) (va_Qi (fun (r : Int32) (u : Int32 × Int32 × Int32 × Value) => u.1 = 0 ∧ (0 = 0 → r = 0)) (QB (dC, dI) (fun (u : Int32 × Int32 × Int32 × Value) => [(M, .inr (6, [.int u.1, .int u.2.1, .int 0, .int 0, .int u.2.2.1, .ref a0, .ref a1, .ref a2, .ref a3, .int 0, u.2.2.2, .long 0]))]) (TYP cI cV cJ cL) (va_A [(M, .inr (6, [.int 0, .int 0, .int 0, .int 0, .int 0, .ref a0, .ref a1, .ref a2, .ref a3, .int 0, .null, .long 0]))] sz)) (va_A [(M, .inr (6, [.int 0, .int 0, .int 0, .int 0, .int 0, .ref a0, .ref a1, .ref a2, .ref a3, .int 0, .null, .long 0]))] sz)) 0 0 (va_A [(M, .inr (6, [.int 0, .int 0, .int 0, .int 0, .int 0, .ref a0, .ref a1, .ref a2, .ref a3, .int 0, .null, .long 0]))] sz) := by
  refine Met.ofW (cc := cX6_clock) (maxL := 1) (ret := (some .int)) (by decide) rfl ?_
  intro p e s m args below meth c s₁ B hml hv
  obtain ⟨rfl, hsz, hP, hK, hD0, hN⟩ := hv
  have hx := B.exec
  have hb := B.bytes
  have hr := B.returns
  have hts := atoms_spec (ws := (Cond.code yX6_clock cX6_clock 1 (some .int) :: TB)) B.pre
  have hown : s.vm.findClass RX6 = some m.cls := findClass_of_methodNamed B.named
  have hlocks := B.notSynchronized
  subst hsz
  have hD := hD0.self (sz := s.heap.size)
  generalize hAe : va_A [(M, .inr (6, [.int 0, .int 0, .int 0, .int 0, .int 0, .ref a0, .ref a1, .ref a2, .ref a3, .int 0, .null, .long 0]))] s.heap.size = A at hD ⊢
  have hA : ∀ q : Nat, s.heap.size ≤ q → A q := fun q h => by rw [← hAe]; exact Or.inr h
  have hS : va_S A s.heap s.heap [] := va_S.rf
  have hl := lv_entry ([.ref M]) (n := 1) (Nat.le_of_ble_eq_true rfl)
  rw [lg_entry_eq]
  generalize (lg_sl ([.ref M]) ++ List.replicate (1 - (lg_sl ([.ref M])).length) Slot.unset).toArray = ls at hl ⊢
  have hl : lv_has ls 1 [(0, .ref M)] := hl
  refine lv_aload_n hx hb dX6_clock_0 rfl (lv_at hl 0 rfl) ?_
  refine lv_iconst (v := 0) hx hb dX6_clock_1 (by decide) ?_
  refine va_put (D := (dC, dI)) (ci := 6) (v := .int 0) (ty := .int) (C := RX6) (T := TX6) (N := 12) hx hb hts (fun w h => tb_in (inX6 w h)) tyX6 tyX6_ok nmX6 hown hK hP hD hS 0 rfl rfl 0 (by decide) (hts _ (tb_in q_fl_X6_24)) (fun _ h9 => h9) rfl (by decide +kernel) rfl rfl (Nat.le_of_ble_eq_true rfl) dX6_clock_2 (fun H locs hP hD hS => ?_)
  have hP : va_P (dC, dI) cls [(M, .inr (6, [.int 0, .int 0, .int 0, .int 0, .int 0, .ref a0, .ref a1, .ref a2, .ref a3, .int 0, .null, .long 0]))] H := hP
  have hD : va_D A [(M, .inr (6, [.int 0, .int 0, .int 0, .int 0, .int 0, .ref a0, .ref a1, .ref a2, .ref a3, .int 0, .null, .long 0]))] := hD
  refine lv_aload_n hx hb dX6_clock_5 rfl (lv_at hl 0 rfl) ?_
  refine va_get (D := (dC, dI)) (ci := 6) (v := .int 0) (C := RX6) (T := TX6) (N := 12) hx hb hts (fun w h => tb_in (inX6 w h)) hown hK hP 0 rfl rfl 4 (by decide) (hts _ (tb_in q_fl_X6_73)) (fun _ h9 => h9) rfl dX6_clock_6 ?_
  refine W.widen (k := 0) (n := 0) (Nat.le_of_ble_eq_true rfl) (Nat.le_of_ble_eq_true rfl) ?_
  have hP := hP.sub (ws' := [(M, .inr (6, [.int 0, .int 0, .int 0, .int 0, .int 0, .ref a0, .ref a1, .ref a2, .ref a3, .int 0, .null, .long 0]))]) [0] rfl
  have hD := hD.sub (ws' := [(M, .inr (6, [.int 0, .int 0, .int 0, .int 0, .int 0, .ref a0, .ref a1, .ref a2, .ref a3, .int 0, .null, .long 0]))]) [0] (by decide) rfl
  have hP9 := hP
  have hD9 := hD
  exact W.iret (v := 0) hx hb hr (fun t9 ht9 hW9 => ⟨⟨_, (0, 0, 0, .null), rfl, ⟨rfl, (fun _ => rfl)⟩, by rw [ht9]; exact hP9, va_K.moved hW9.alike hK, hD9⟩, hS.F ht9⟩) hS.2.2 dX6_clock_9
set_option maxHeartbeats 4000000 in
set_option maxRecDepth 100000 in
theorem c_X6_places (l : Launch) (dC : Nat → ClassId) (dI : Nat → Nat → Nat) (cI cV cJ cL : ClassId) (M a0 a1 a2 a3 : Nat)  (sz : Nat) : Met l yX6_places (Cond.code yX6_places cX6_places 1 (some .int) :: TB) ({ frames := 1, cells := 0, slots := 0, locals := 24 } : Room) (PW [.ref M] (dC, dI) [(M, .inr (6, [.int 0, .int 0, .int 0, .int 0, .int 0, .ref a0, .ref a1, .ref a2, .ref a3, .int 0, .null, .long 0]))] (TYP cI cV cJ cL) sz) (va_Qi (fun (r : Int32) (u : Int32 × Int32 × Int32 × Value) => u.1 = 0 ∧ (0 = 0 → r = 0)) (QB (dC, dI) (fun (u : Int32 × Int32 × Int32 × Value) => [(M, .inr (6, [.int u.1, .int u.2.1, .int 0, .int 0, .int u.2.2.1, .ref a0, .ref a1, .ref a2, .ref a3, .int 0, u.2.2.2, .long 0]))]) (TYP cI cV cJ cL) (va_A [(M, .inr (6, [.int 0, .int 0, .int 0, .int 0, .int 0, .ref a0, .ref a1, .ref a2, .ref a3, .int 0, .null, .long 0]))] sz)) (va_A [(M, .inr (6, [.int 0, .int 0, .int 0, .int 0, .int 0, .ref a0, .ref a1, .ref a2, .ref a3, .int 0, .null, .long 0]))] sz)) 0 0 (va_A [(M, .inr (6, [.int 0, .int 0, .int 0, .int 0, .int 0, .ref a0, .ref a1, .ref a2, .ref a3, .int 0, .null, .long 0]))] sz) := by
  refine Met.ofW (cc := cX6_places) (maxL := 1) (ret := (some .int)) (by decide) rfl ?_
  intro p e s m args below meth c s₁ B hml hv
  obtain ⟨rfl, hsz, hP, hK, hD0, hN⟩ := hv
  have hx := B.exec
  have hb := B.bytes
  have hr := B.returns
  have hts := atoms_spec (ws := (Cond.code yX6_places cX6_places 1 (some .int) :: TB)) B.pre
  have hown : s.vm.findClass RX6 = some m.cls := findClass_of_methodNamed B.named
  have hlocks := B.notSynchronized
  subst hsz
  have hD := hD0.self (sz := s.heap.size)
  generalize hAe : va_A [(M, .inr (6, [.int 0, .int 0, .int 0, .int 0, .int 0, .ref a0, .ref a1, .ref a2, .ref a3, .int 0, .null, .long 0]))] s.heap.size = A at hD ⊢
  have hA : ∀ q : Nat, s.heap.size ≤ q → A q := fun q h => by rw [← hAe]; exact Or.inr h
  have hS : va_S A s.heap s.heap [] := va_S.rf
  have hl := lv_entry ([.ref M]) (n := 1) (Nat.le_of_ble_eq_true rfl)
  rw [lg_entry_eq]
  generalize (lg_sl ([.ref M]) ++ List.replicate (1 - (lg_sl ([.ref M])).length) Slot.unset).toArray = ls at hl ⊢
  have hl : lv_has ls 1 [(0, .ref M)] := hl
  refine lv_aload_n hx hb dX6_places_0 rfl (lv_at hl 0 rfl) ?_
  refine lv_iconst (v := 0) hx hb dX6_places_1 (by decide) ?_
  refine va_put (D := (dC, dI)) (ci := 6) (v := .int 0) (ty := .int) (C := RX6) (T := TX6) (N := 12) hx hb hts (fun w h => tb_in (inX6 w h)) tyX6 tyX6_ok nmX6 hown hK hP hD hS 0 rfl rfl 0 (by decide) (hts _ (tb_in q_fl_X6_24)) (fun _ h9 => h9) rfl (by decide +kernel) rfl rfl (Nat.le_of_ble_eq_true rfl) dX6_places_2 (fun H locs hP hD hS => ?_)
  have hP : va_P (dC, dI) cls [(M, .inr (6, [.int 0, .int 0, .int 0, .int 0, .int 0, .ref a0, .ref a1, .ref a2, .ref a3, .int 0, .null, .long 0]))] H := hP
  have hD : va_D A [(M, .inr (6, [.int 0, .int 0, .int 0, .int 0, .int 0, .ref a0, .ref a1, .ref a2, .ref a3, .int 0, .null, .long 0]))] := hD
  refine lv_aload_n hx hb dX6_places_5 rfl (lv_at hl 0 rfl) ?_
  refine va_get (D := (dC, dI)) (ci := 6) (v := .int 0) (C := RX6) (T := TX6) (N := 12) hx hb hts (fun w h => tb_in (inX6 w h)) hown hK hP 0 rfl rfl 1 (by decide) (hts _ (tb_in q_fl_X6_28)) (fun _ h9 => h9) rfl dX6_places_6 ?_
  refine W.widen (k := 0) (n := 0) (Nat.le_of_ble_eq_true rfl) (Nat.le_of_ble_eq_true rfl) ?_
  have hP := hP.sub (ws' := [(M, .inr (6, [.int 0, .int 0, .int 0, .int 0, .int 0, .ref a0, .ref a1, .ref a2, .ref a3, .int 0, .null, .long 0]))]) [0] rfl
  have hD := hD.sub (ws' := [(M, .inr (6, [.int 0, .int 0, .int 0, .int 0, .int 0, .ref a0, .ref a1, .ref a2, .ref a3, .int 0, .null, .long 0]))]) [0] (by decide) rfl
  have hP9 := hP
  have hD9 := hD
  exact W.iret (v := 0) hx hb hr (fun t9 ht9 hW9 => ⟨⟨_, (0, 0, 0, .null), rfl, ⟨rfl, (fun _ => rfl)⟩, by rw [ht9]; exact hP9, va_K.moved hW9.alike hK, hD9⟩, hS.F ht9⟩) hS.2.2 dX6_places_9
set_option maxHeartbeats 4000000 in
set_option maxRecDepth 100000 in
theorem c_X6_vehicles (l : Launch) (dC : Nat → ClassId) (dI : Nat → Nat → Nat) (cI cV cJ cL : ClassId) (M a0 a1 a2 a3 : Nat)  (sz : Nat) : Met l yX6_vehicles (Cond.code yX6_vehicles cX6_vehicles 1 (some .int) :: TB) ({ frames := 1, cells := 0, slots := 0, locals := 24 } : Room) (PW [.ref M] (dC, dI) [(M, .inr (6, [.int 0, .int 0, .int 0, .int 0, .int 0, .ref a0, .ref a1, .ref a2, .ref a3, .int 0, .null, .long 0]))] (TYP cI cV cJ cL) sz) (va_Qi (fun (r : Int32) (u : Int32 × Int32 × Int32 × Value) => u.1 = 0 ∧ (0 = 0 → r = 0)) (QB (dC, dI) (fun (u : Int32 × Int32 × Int32 × Value) => [(M, .inr (6, [.int u.1, .int u.2.1, .int 0, .int 0, .int u.2.2.1, .ref a0, .ref a1, .ref a2, .ref a3, .int 0, u.2.2.2, .long 0]))]) (TYP cI cV cJ cL) (va_A [(M, .inr (6, [.int 0, .int 0, .int 0, .int 0, .int 0, .ref a0, .ref a1, .ref a2, .ref a3, .int 0, .null, .long 0]))] sz)) (va_A [(M, .inr (6, [.int 0, .int 0, .int 0, .int 0, .int 0, .ref a0, .ref a1, .ref a2, .ref a3, .int 0, .null, .long 0]))] sz)) 0 0 (va_A [(M, .inr (6, [.int 0, .int 0, .int 0, .int 0, .int 0, .ref a0, .ref a1, .ref a2, .ref a3, .int 0, .null, .long 0]))] sz) := by
  refine Met.ofW (cc := cX6_vehicles) (maxL := 1) (ret := (some .int)) (by decide) rfl ?_
  intro p e s m args below meth c s₁ B hml hv
  obtain ⟨rfl, hsz, hP, hK, hD0, hN⟩ := hv
  have hx := B.exec
  have hb := B.bytes
  have hr := B.returns
  have hts := atoms_spec (ws := (Cond.code yX6_vehicles cX6_vehicles 1 (some .int) :: TB)) B.pre
  have hown : s.vm.findClass RX6 = some m.cls := findClass_of_methodNamed B.named
  have hlocks := B.notSynchronized
  subst hsz
  have hD := hD0.self (sz := s.heap.size)
  generalize hAe : va_A [(M, .inr (6, [.int 0, .int 0, .int 0, .int 0, .int 0, .ref a0, .ref a1, .ref a2, .ref a3, .int 0, .null, .long 0]))] s.heap.size = A at hD ⊢
  have hA : ∀ q : Nat, s.heap.size ≤ q → A q := fun q h => by rw [← hAe]; exact Or.inr h
  have hS : va_S A s.heap s.heap [] := va_S.rf
  have hl := lv_entry ([.ref M]) (n := 1) (Nat.le_of_ble_eq_true rfl)
  rw [lg_entry_eq]
  generalize (lg_sl ([.ref M]) ++ List.replicate (1 - (lg_sl ([.ref M])).length) Slot.unset).toArray = ls at hl ⊢
  have hl : lv_has ls 1 [(0, .ref M)] := hl
  refine lv_aload_n hx hb dX6_vehicles_0 rfl (lv_at hl 0 rfl) ?_
  refine lv_iconst (v := 0) hx hb dX6_vehicles_1 (by decide) ?_
  refine va_put (D := (dC, dI)) (ci := 6) (v := .int 0) (ty := .int) (C := RX6) (T := TX6) (N := 12) hx hb hts (fun w h => tb_in (inX6 w h)) tyX6 tyX6_ok nmX6 hown hK hP hD hS 0 rfl rfl 0 (by decide) (hts _ (tb_in q_fl_X6_24)) (fun _ h9 => h9) rfl (by decide +kernel) rfl rfl (Nat.le_of_ble_eq_true rfl) dX6_vehicles_2 (fun H locs hP hD hS => ?_)
  have hP : va_P (dC, dI) cls [(M, .inr (6, [.int 0, .int 0, .int 0, .int 0, .int 0, .ref a0, .ref a1, .ref a2, .ref a3, .int 0, .null, .long 0]))] H := hP
  have hD : va_D A [(M, .inr (6, [.int 0, .int 0, .int 0, .int 0, .int 0, .ref a0, .ref a1, .ref a2, .ref a3, .int 0, .null, .long 0]))] := hD
  refine lv_aload_n hx hb dX6_vehicles_5 rfl (lv_at hl 0 rfl) ?_
  refine va_get (D := (dC, dI)) (ci := 6) (v := .int 0) (C := RX6) (T := TX6) (N := 12) hx hb hts (fun w h => tb_in (inX6 w h)) hown hK hP 0 rfl rfl 2 (by decide) (hts _ (tb_in q_fl_X6_35)) (fun _ h9 => h9) rfl dX6_vehicles_6 ?_
  refine W.widen (k := 0) (n := 0) (Nat.le_of_ble_eq_true rfl) (Nat.le_of_ble_eq_true rfl) ?_
  have hP := hP.sub (ws' := [(M, .inr (6, [.int 0, .int 0, .int 0, .int 0, .int 0, .ref a0, .ref a1, .ref a2, .ref a3, .int 0, .null, .long 0]))]) [0] rfl
  have hD := hD.sub (ws' := [(M, .inr (6, [.int 0, .int 0, .int 0, .int 0, .int 0, .ref a0, .ref a1, .ref a2, .ref a3, .int 0, .null, .long 0]))]) [0] (by decide) rfl
  have hP9 := hP
  have hD9 := hD
  exact W.iret (v := 0) hx hb hr (fun t9 ht9 hW9 => ⟨⟨_, (0, 0, 0, .null), rfl, ⟨rfl, (fun _ => rfl)⟩, by rw [ht9]; exact hP9, va_K.moved hW9.alike hK, hD9⟩, hS.F ht9⟩) hS.2.2 dX6_vehicles_9
set_option maxHeartbeats 4000000 in
set_option maxRecDepth 100000 in
theorem c_X6_jobs (l : Launch) (dC : Nat → ClassId) (dI : Nat → Nat → Nat) (cI cV cJ cL : ClassId) (M a0 a1 a2 a3 : Nat)  (sz : Nat) : Met l yX6_jobs (Cond.code yX6_jobs cX6_jobs 1 (some .int) :: TB) ({ frames := 1, cells := 0, slots := 0, locals := 24 } : Room) (PW [.ref M] (dC, dI) [(M, .inr (6, [.int 0, .int 0, .int 0, .int 0, .int 0, .ref a0, .ref a1, .ref a2, .ref a3, .int 0, .null, .long 0]))] (TYP cI cV cJ cL) sz) (va_Qi (fun (r : Int32) (u : Int32 × Int32 × Int32 × Value) => u.1 = 0 ∧ (0 = 0 → r = 0)) (QB (dC, dI) (fun (u : Int32 × Int32 × Int32 × Value) => [(M, .inr (6, [.int u.1, .int u.2.1, .int 0, .int 0, .int u.2.2.1, .ref a0, .ref a1, .ref a2, .ref a3, .int 0, u.2.2.2, .long 0]))]) (TYP cI cV cJ cL) (va_A [(M, .inr (6, [.int 0, .int 0, .int 0, .int 0, .int 0, .ref a0, .ref a1, .ref a2, .ref a3, .int 0, .null, .long 0]))] sz)) (va_A [(M, .inr (6, [.int 0, .int 0, .int 0, .int 0, .int 0, .ref a0, .ref a1, .ref a2, .ref a3, .int 0, .null, .long 0]))] sz)) 0 0 (va_A [(M, .inr (6, [.int 0, .int 0, .int 0, .int 0, .int 0, .ref a0, .ref a1, .ref a2, .ref a3, .int 0, .null, .long 0]))] sz) := by
  refine Met.ofW (cc := cX6_jobs) (maxL := 1) (ret := (some .int)) (by decide) rfl ?_
  intro p e s m args below meth c s₁ B hml hv
  obtain ⟨rfl, hsz, hP, hK, hD0, hN⟩ := hv
  have hx := B.exec
  have hb := B.bytes
  have hr := B.returns
  have hts := atoms_spec (ws := (Cond.code yX6_jobs cX6_jobs 1 (some .int) :: TB)) B.pre
  have hown : s.vm.findClass RX6 = some m.cls := findClass_of_methodNamed B.named
  have hlocks := B.notSynchronized
  subst hsz
  have hD := hD0.self (sz := s.heap.size)
  generalize hAe : va_A [(M, .inr (6, [.int 0, .int 0, .int 0, .int 0, .int 0, .ref a0, .ref a1, .ref a2, .ref a3, .int 0, .null, .long 0]))] s.heap.size = A at hD ⊢
  have hA : ∀ q : Nat, s.heap.size ≤ q → A q := fun q h => by rw [← hAe]; exact Or.inr h
  have hS : va_S A s.heap s.heap [] := va_S.rf
  have hl := lv_entry ([.ref M]) (n := 1) (Nat.le_of_ble_eq_true rfl)
  rw [lg_entry_eq]
  generalize (lg_sl ([.ref M]) ++ List.replicate (1 - (lg_sl ([.ref M])).length) Slot.unset).toArray = ls at hl ⊢
  have hl : lv_has ls 1 [(0, .ref M)] := hl
  refine lv_aload_n hx hb dX6_jobs_0 rfl (lv_at hl 0 rfl) ?_
  refine lv_iconst (v := 0) hx hb dX6_jobs_1 (by decide) ?_
  refine va_put (D := (dC, dI)) (ci := 6) (v := .int 0) (ty := .int) (C := RX6) (T := TX6) (N := 12) hx hb hts (fun w h => tb_in (inX6 w h)) tyX6 tyX6_ok nmX6 hown hK hP hD hS 0 rfl rfl 0 (by decide) (hts _ (tb_in q_fl_X6_24)) (fun _ h9 => h9) rfl (by decide +kernel) rfl rfl (Nat.le_of_ble_eq_true rfl) dX6_jobs_2 (fun H locs hP hD hS => ?_)
  have hP : va_P (dC, dI) cls [(M, .inr (6, [.int 0, .int 0, .int 0, .int 0, .int 0, .ref a0, .ref a1, .ref a2, .ref a3, .int 0, .null, .long 0]))] H := hP
  have hD : va_D A [(M, .inr (6, [.int 0, .int 0, .int 0, .int 0, .int 0, .ref a0, .ref a1, .ref a2, .ref a3, .int 0, .null, .long 0]))] := hD
  refine lv_aload_n hx hb dX6_jobs_5 rfl (lv_at hl 0 rfl) ?_
  refine va_get (D := (dC, dI)) (ci := 6) (v := .int 0) (C := RX6) (T := TX6) (N := 12) hx hb hts (fun w h => tb_in (inX6 w h)) hown hK hP 0 rfl rfl 3 (by decide) (hts _ (tb_in q_fl_X6_38)) (fun _ h9 => h9) rfl dX6_jobs_6 ?_
  refine W.widen (k := 0) (n := 0) (Nat.le_of_ble_eq_true rfl) (Nat.le_of_ble_eq_true rfl) ?_
  have hP := hP.sub (ws' := [(M, .inr (6, [.int 0, .int 0, .int 0, .int 0, .int 0, .ref a0, .ref a1, .ref a2, .ref a3, .int 0, .null, .long 0]))]) [0] rfl
  have hD := hD.sub (ws' := [(M, .inr (6, [.int 0, .int 0, .int 0, .int 0, .int 0, .ref a0, .ref a1, .ref a2, .ref a3, .int 0, .null, .long 0]))]) [0] (by decide) rfl
  have hP9 := hP
  have hD9 := hD
  exact W.iret (v := 0) hx hb hr (fun t9 ht9 hW9 => ⟨⟨_, (0, 0, 0, .null), rfl, ⟨rfl, (fun _ => rfl)⟩, by rw [ht9]; exact hP9, va_K.moved hW9.alike hK, hD9⟩, hS.F ht9⟩) hS.2.2 dX6_jobs_9
set_option maxHeartbeats 4000000 in
set_option maxRecDepth 100000 in
theorem c_X6_cost (l : Launch) (dC : Nat → ClassId) (dI : Nat → Nat → Nat) (cI cV cJ cL : ClassId) (M a0 a1 a2 a3 : Nat)  (sz : Nat) : Met l yX6_cost (Cond.code yX6_cost cX6_cost 1 (some .int) :: TB) ({ frames := 3, cells := 0, slots := 0, locals := 69 } : Room) (PW [.ref M] (dC, dI) [(M, .inr (6, [.int 0, .int 0, .int 0, .int 0, .int 0, .ref a0, .ref a1, .ref a2, .ref a3, .int 0, .null, .long 0]))] (TYP cI cV cJ cL) sz) (va_Qi (fun (r : Int32) (u : Int32 × Int32 × Int32 × Value) => u.1 = 0 ∧ (0 = 0 → r = 0)) (QB (dC, dI) (fun (u : Int32 × Int32 × Int32 × Value) => [(M, .inr (6, [.int u.1, .int u.2.1, .int 0, .int 0, .int u.2.2.1, .ref a0, .ref a1, .ref a2, .ref a3, .int 0, u.2.2.2, .long 0]))]) (TYP cI cV cJ cL) (va_A [(M, .inr (6, [.int 0, .int 0, .int 0, .int 0, .int 0, .ref a0, .ref a1, .ref a2, .ref a3, .int 0, .null, .long 0]))] sz)) (va_A [(M, .inr (6, [.int 0, .int 0, .int 0, .int 0, .int 0, .ref a0, .ref a1, .ref a2, .ref a3, .int 0, .null, .long 0]))] sz)) 0 0 (va_A [(M, .inr (6, [.int 0, .int 0, .int 0, .int 0, .int 0, .ref a0, .ref a1, .ref a2, .ref a3, .int 0, .null, .long 0]))] sz) := by
  refine Met.ofW (cc := cX6_cost) (maxL := 1) (ret := (some .int)) (by decide) rfl ?_
  intro p e s m args below meth c s₁ B hml hv
  obtain ⟨rfl, hsz, hP, hK, hD0, hN⟩ := hv
  have hx := B.exec
  have hb := B.bytes
  have hr := B.returns
  have hts := atoms_spec (ws := (Cond.code yX6_cost cX6_cost 1 (some .int) :: TB)) B.pre
  have hown : s.vm.findClass RX6 = some m.cls := findClass_of_methodNamed B.named
  have hlocks := B.notSynchronized
  subst hsz
  have hD := hD0.self (sz := s.heap.size)
  generalize hAe : va_A [(M, .inr (6, [.int 0, .int 0, .int 0, .int 0, .int 0, .ref a0, .ref a1, .ref a2, .ref a3, .int 0, .null, .long 0]))] s.heap.size = A at hD ⊢
  have hA : ∀ q : Nat, s.heap.size ≤ q → A q := fun q h => by rw [← hAe]; exact Or.inr h
  have hS : va_S A s.heap s.heap [] := va_S.rf
  have hl := lv_entry ([.ref M]) (n := 1) (Nat.le_of_ble_eq_true rfl)
  rw [lg_entry_eq]
  generalize (lg_sl ([.ref M]) ++ List.replicate (1 - (lg_sl ([.ref M])).length) Slot.unset).toArray = ls at hl ⊢
  have hl : lv_has ls 1 [(0, .ref M)] := hl
  refine lv_aload_n hx hb dX6_cost_0 rfl (lv_at hl 0 rfl) ?_
  refine lv_iconst (v := 0) hx hb dX6_cost_1 (by decide) ?_
  refine va_put (D := (dC, dI)) (ci := 6) (v := .int 0) (ty := .int) (C := RX6) (T := TX6) (N := 12) hx hb hts (fun w h => tb_in (inX6 w h)) tyX6 tyX6_ok nmX6 hown hK hP hD hS 0 rfl rfl 0 (by decide) (hts _ (tb_in q_fl_X6_24)) (fun _ h9 => h9) rfl (by decide +kernel) rfl rfl (Nat.le_of_ble_eq_true rfl) dX6_cost_2 (fun H locs hP hD hS => ?_)
  have hP : va_P (dC, dI) cls [(M, .inr (6, [.int 0, .int 0, .int 0, .int 0, .int 0, .ref a0, .ref a1, .ref a2, .ref a3, .int 0, .null, .long 0]))] H := hP
  have hD : va_D A [(M, .inr (6, [.int 0, .int 0, .int 0, .int 0, .int 0, .ref a0, .ref a1, .ref a2, .ref a3, .int 0, .null, .long 0]))] := hD
  refine lv_aload_n hx hb dX6_cost_5 rfl (lv_at hl 0 rfl) ?_
  refine n_Vi (ci := 6) (q0 := 0) (wc := [(M, .inr (6, [.int 0, .int 0, .int 0, .int 0, .int 0, .ref a0, .ref a1, .ref a2, .ref a3, .int 0, .null, .long 0]))]) (wr := []) [] [0] [] ⟨hx, hb, hml, hown, hts⟩ (fun sz => c_X6_costAll l dC dI cI cV cJ cL M a0 a1 a2 a3 0 0 0 (.null) 0  sz) q_ml_X6_234 q_im_X6_costAll q_se_X6_costAll q_ini_X6 q_co_X6_costAll (n := 0) (by decide +kernel) rfl ⟨rfl, rfl⟩ ⟨Nat.le_of_ble_eq_true rfl, Nat.le_of_ble_eq_true rfl⟩ hP hD hS hA hK hN rfl rfl (by decide) (by decide) (by decide) rfl rfl rfl hl.1 rfl (Nat.le_of_ble_eq_true rfl) dX6_cost_6 ⟨Nat.le_of_ble_eq_true rfl, Nat.le_of_ble_eq_true rfl⟩ (fun r_2 u_1 H locs hu_1 hP hD hS => ?_)
  have hP : va_P (dC, dI) cls [(M, .inr (6, [.int 0, .int 0, .int 0, .int 0, .int 0, .ref a0, .ref a1, .ref a2, .ref a3, .int 0, .null, .long 0]))] H := hP
  have hD : va_D A [(M, .inr (6, [.int 0, .int 0, .int 0, .int 0, .int 0, .ref a0, .ref a1, .ref a2, .ref a3, .int 0, .null, .long 0]))] := hD
  obtain rfl := hu_1
  refine W.widen (k := 0) (n := 0) (Nat.le_of_ble_eq_true rfl) (Nat.le_of_ble_eq_true rfl) ?_
  have hP := hP.sub (ws' := [(M, .inr (6, [.int 0, .int 0, .int 0, .int 0, .int 0, .ref a0, .ref a1, .ref a2, .ref a3, .int 0, .null, .long 0]))]) [0] rfl
  have hD := hD.sub (ws' := [(M, .inr (6, [.int 0, .int 0, .int 0, .int 0, .int 0, .ref a0, .ref a1, .ref a2, .ref a3, .int 0, .null, .long 0]))]) [0] (by decide) rfl
  have hP9 := hP
  have hD9 := hD
  exact W.iret (v := 0) hx hb hr (fun t9 ht9 hW9 => ⟨⟨_, (0, 0, 0, .null), rfl, ⟨rfl, (fun _ => rfl)⟩, by rw [ht9]; exact hP9, va_K.moved hW9.alike hK, hD9⟩, hS.F ht9⟩) hS.2.2 dX6_cost_9
set_option maxHeartbeats 4000000 in
set_option maxRecDepth 100000 in
theorem c_X6_ruin (l : Launch) (dC : Nat → ClassId) (dI : Nat → Nat → Nat) (cI cV cJ cL : ClassId) (M a0 a1 a2 a3 : Nat) (p0 : Int32)  (sz : Nat) : Met l yX6_ruin (Cond.code yX6_ruin cX6_ruin 5 (some .int) :: TB) ({ frames := 2, cells := 0, slots := 0, locals := 45 } : Room) (PW [.ref M, .int p0] (dC, dI) [(M, .inr (6, [.int 0, .int 0, .int 0, .int 0, .int 0, .ref a0, .ref a1, .ref a2, .ref a3, .int 0, .null, .long 0]))] (TYP cI cV cJ cL) sz) (va_Qi (fun (r : Int32) (u : Int32 × Int32 × Int32 × Value) => u.1 = b01 (outF p0 1 9) ∧ (b01 (outF p0 1 9) = 0 → r = 0)) (QB (dC, dI) (fun (u : Int32 × Int32 × Int32 × Value) => [(M, .inr (6, [.int u.1, .int u.2.1, .int 0, .int 0, .int u.2.2.1, .ref a0, .ref a1, .ref a2, .ref a3, .int 0, u.2.2.2, .long 0]))]) (TYP cI cV cJ cL) (va_A [(M, .inr (6, [.int 0, .int 0, .int 0, .int 0, .int 0, .ref a0, .ref a1, .ref a2, .ref a3, .int 0, .null, .long 0]))] sz)) (va_A [(M, .inr (6, [.int 0, .int 0, .int 0, .int 0, .int 0, .ref a0, .ref a1, .ref a2, .ref a3, .int 0, .null, .long 0]))] sz)) 0 0 (va_A [(M, .inr (6, [.int 0, .int 0, .int 0, .int 0, .int 0, .ref a0, .ref a1, .ref a2, .ref a3, .int 0, .null, .long 0]))] sz) := by
  refine Met.ofW (cc := cX6_ruin) (maxL := 5) (ret := (some .int)) (by decide) rfl ?_
  intro p e s m args below meth c s₁ B hml hv
  obtain ⟨rfl, hsz, hP, hK, hD0, hN⟩ := hv
  have hx := B.exec
  have hb := B.bytes
  have hr := B.returns
  have hts := atoms_spec (ws := (Cond.code yX6_ruin cX6_ruin 5 (some .int) :: TB)) B.pre
  have hown : s.vm.findClass RX6 = some m.cls := findClass_of_methodNamed B.named
  have hlocks := B.notSynchronized
  subst hsz
  have hD := hD0.self (sz := s.heap.size)
  generalize hAe : va_A [(M, .inr (6, [.int 0, .int 0, .int 0, .int 0, .int 0, .ref a0, .ref a1, .ref a2, .ref a3, .int 0, .null, .long 0]))] s.heap.size = A at hD ⊢
  have hA : ∀ q : Nat, s.heap.size ≤ q → A q := fun q h => by rw [← hAe]; exact Or.inr h
  have hS : va_S A s.heap s.heap [] := va_S.rf
  have hl := lv_entry ([.ref M, .int p0]) (n := 5) (Nat.le_of_ble_eq_true rfl)
  rw [lg_entry_eq]
  generalize (lg_sl ([.ref M, .int p0]) ++ List.replicate (5 - (lg_sl ([.ref M, .int p0])).length) Slot.unset).toArray = ls at hl ⊢
  have hl : lv_has ls 5 [(0, .ref M), (1, .int p0)] := hl
  refine lv_aload_n hx hb dX6_ruin_0 rfl (lv_at hl 0 rfl) ?_
  refine lv_iconst (v := 0) hx hb dX6_ruin_1 (by decide) ?_
  refine va_put (D := (dC, dI)) (ci := 6) (v := .int 0) (ty := .int) (C := RX6) (T := TX6) (N := 12) hx hb hts (fun w h => tb_in (inX6 w h)) tyX6 tyX6_ok nmX6 hown hK hP hD hS 0 rfl rfl 0 (by decide) (hts _ (tb_in q_fl_X6_24)) (fun _ h9 => h9) rfl (by decide +kernel) rfl rfl (Nat.le_of_ble_eq_true rfl) dX6_ruin_2 (fun H locs hP hD hS => ?_)
  have hP : va_P (dC, dI) cls [(M, .inr (6, [.int 0, .int 0, .int 0, .int 0, .int 0, .ref a0, .ref a1, .ref a2, .ref a3, .int 0, .null, .long 0]))] H := hP
  have hD : va_D A [(M, .inr (6, [.int 0, .int 0, .int 0, .int 0, .int 0, .ref a0, .ref a1, .ref a2, .ref a3, .int 0, .null, .long 0]))] := hD
  refine lv_iload_n hx hb dX6_ruin_5 rfl (lv_at hl 1 rfl) ?_
  refine lv_iconst (v := 1) hx hb dX6_ruin_6 (by decide) ?_
  refine lv_bipush (v := 9) hx hb dX6_ruin_7 (by decide) ?_
  refine k_Ti [.int p0, .int 1, .int 9] ⟨hx, hb, hml, hown, hts⟩ (c_X6_is l p0 1 9) q_ml_X6_31 q_st_X6_is q_ini_X6 q_co_X6_is (n := 3) (by decide +kernel) rfl ⟨rfl, rfl⟩ ⟨Nat.le_of_ble_eq_true rfl, Nat.le_of_ble_eq_true rfl⟩ hl.1 rfl (Nat.le_of_ble_eq_true rfl) dX6_ruin_9 ⟨Nat.le_of_ble_eq_true rfl, Nat.le_of_ble_eq_true rfl⟩ (fun r_1 hr_1 => ?_)
  subst hr_1
  refine lv_if_ne (tgt := 21) hx hb dX6_ruin_12 (by decide) (fun c_2 => ?_) (fun c_2 => ?_)
  · refine lv_iconst (v := 0) hx hb dX6_ruin_21 (by decide) ?_
    refine lv_istore_n (lv' := [(2, .int 0), (0, .ref M), (1, .int p0)]) hx hb dX6_ruin_22 rfl hl (by decide) rfl (fun ls hl => ?_)
    refine lv_iload_n hx hb dX6_ruin_23 rfl (lv_at hl 0 rfl) ?_
    refine lv_iload_n hx hb dX6_ruin_24 rfl (lv_at hl 2 rfl) ?_
    refine lv_icmp_ge (tgt := 108) hx hb dX6_ruin_25 (by decide) (fun c_3 => ?_) (fun c_3 => ?_)
    · exact absurd c_3 (z_pos (show outF p0 1 9 = false from bz1 c_2))
    · refine lv_iconst (v := (-1)) hx hb dX6_ruin_28 (by decide) ?_
      refine lv_istore_n (lv' := [(3, .int ((-1))), (2, .int 0), (0, .ref M), (1, .int p0)]) hx hb dX6_ruin_29 rfl hl (by decide) rfl (fun ls hl => ?_)
      refine lv_iconst (v := 0) hx hb dX6_ruin_30 (by decide) ?_
      refine lv_istore (lv' := [(4, .int 0), (3, .int ((-1))), (2, .int 0), (0, .ref M), (1, .int p0)]) hx hb dX6_ruin_31 hl (by decide) rfl (fun ls hl => ?_)
      refine lv_iload hx hb dX6_ruin_33 (lv_at hl 0 rfl) ?_
      refine lv_aload_n hx hb dX6_ruin_35 rfl (lv_at hl 3 rfl) ?_
      refine va_get (D := (dC, dI)) (ci := 6) (v := .int 0) (C := RX6) (T := TX6) (N := 12) hx hb hts (fun w h => tb_in (inX6 w h)) hown hK hP 0 rfl rfl 3 (by decide) (hts _ (tb_in q_fl_X6_38)) (fun _ h9 => h9) rfl dX6_ruin_36 ?_
      refine lv_icmp_ge (tgt := 89) hx hb dX6_ruin_39 (by decide) (fun c_4 => ?_) (fun c_4 => ?_)
      rotate_left
      · first | exact absurd c_4 (by decide) | exact absurd (by decide) c_4
      refine lv_iload_n hx hb dX6_ruin_89 rfl (lv_at hl 1 rfl) ?_
      refine lv_iconst (v := (-1)) hx hb dX6_ruin_90 (by decide) ?_
      refine lv_icmp_ne (tgt := 96) hx hb dX6_ruin_91 (by decide) (fun c_5 => ?_) (fun c_5 => ?_)
      · first | exact absurd c_5 (by decide) | exact absurd (by decide) c_5
      refine lv_iload_n hx hb dX6_ruin_94 rfl (lv_at hl 2 rfl) ?_
      refine W.widen (k := 0) (n := 0) (Nat.le_of_ble_eq_true rfl) (Nat.le_of_ble_eq_true rfl) ?_
      have hP := hP.sub (ws' := [(M, .inr (6, [.int 0, .int 0, .int 0, .int 0, .int 0, .ref a0, .ref a1, .ref a2, .ref a3, .int 0, .null, .long 0]))]) [0] rfl
      have hD := hD.sub (ws' := [(M, .inr (6, [.int 0, .int 0, .int 0, .int 0, .int 0, .ref a0, .ref a1, .ref a2, .ref a3, .int 0, .null, .long 0]))]) [0] (by decide) rfl
      have hP9 := hP
      have hD9 := hD
      exact W.iret (v := 0) hx hb hr (fun t9 ht9 hW9 => ⟨⟨_, (0, 0, 0, .null), rfl, ⟨(show (0 : Int32) = b01 (outF p0 1 9) by simp [b01, (show outF p0 1 9 = false from bz1 c_2)]), (fun _ => rfl)⟩, by rw [ht9]; exact hP9, va_K.moved hW9.alike hK, hD9⟩, hS.F ht9⟩) hS.2.2 dX6_ruin_95
  · refine lv_aload_n hx hb dX6_ruin_15 rfl (lv_at hl 0 rfl) ?_
    refine lv_iconst (v := 1) hx hb dX6_ruin_16 (by decide) ?_
    refine n_Vi (ci := 6) (q0 := 0) (wc := [(M, .inr (6, [.int 0, .int 0, .int 0, .int 0, .int 0, .ref a0, .ref a1, .ref a2, .ref a3, .int 0, .null, .long 0]))]) (wr := []) [.int 1] [0] [] ⟨hx, hb, hml, hown, hts⟩ (fun sz => c_X6_refuse l dC dI cI cV cJ cL M a0 a1 a2 a3 0 0 0 (.null) 0 1 sz) q_ml_X6_171 q_im_X6_refuse q_se_X6_refuse q_ini_X6 q_co_X6_refuse (n := 1) (by decide +kernel) rfl ⟨rfl, rfl⟩ ⟨Nat.le_of_ble_eq_true rfl, Nat.le_of_ble_eq_true rfl⟩ hP hD hS hA hK hN rfl rfl (by decide) (by decide) (by decide) rfl rfl rfl hl.1 rfl (Nat.le_of_ble_eq_true rfl) dX6_ruin_17 ⟨Nat.le_of_ble_eq_true rfl, Nat.le_of_ble_eq_true rfl⟩ (fun r_7 u_6 H locs hu_6 hP hD hS => ?_)
    have hP : va_P (dC, dI) cls [(M, .inr (6, [.int 1, .int 0, .int 0, .int 0, .int 0, .ref a0, .ref a1, .ref a2, .ref a3, .int 0, .null, .long 0]))] H := hP
    have hD : va_D A [(M, .inr (6, [.int 1, .int 0, .int 0, .int 0, .int 0, .ref a0, .ref a1, .ref a2, .ref a3, .int 0, .null, .long 0]))] := hD
    obtain rfl := hu_6
    refine W.widen (k := 0) (n := 0) (Nat.le_of_ble_eq_true rfl) (Nat.le_of_ble_eq_true rfl) ?_
    have hP := hP.sub (ws' := [(M, .inr (6, [.int 1, .int 0, .int 0, .int 0, .int 0, .ref a0, .ref a1, .ref a2, .ref a3, .int 0, .null, .long 0]))]) [0] rfl
    have hD := hD.sub (ws' := [(M, .inr (6, [.int 1, .int 0, .int 0, .int 0, .int 0, .ref a0, .ref a1, .ref a2, .ref a3, .int 0, .null, .long 0]))]) [0] (by decide) rfl
    have hP9 := hP
    have hD9 := hD
    exact W.iret (v := 0) hx hb hr (fun t9 ht9 hW9 => ⟨⟨_, (1, 0, 0, .null), rfl, ⟨(show (1 : Int32) = b01 (outF p0 1 9) by simp [b01, (show outF p0 1 9 = true from bz0 c_2)]), (fun _ => rfl)⟩, by rw [ht9]; exact hP9, va_K.moved hW9.alike hK, hD9⟩, hS.F ht9⟩) hS.2.2 dX6_ruin_20
set_option maxHeartbeats 4000000 in
set_option maxRecDepth 100000 in
theorem c_X6_change (l : Launch) (dC : Nat → ClassId) (dI : Nat → Nat → Nat) (cI cV cJ cL : ClassId) (M a0 a1 a2 a3 : Nat) (p0 : Int32)  (sz : Nat) : Met l yX6_change (Cond.code yX6_change cX6_change 2 (some .int) :: TB) ({ frames := 4, cells := 0, slots := 0, locals := 94 } : Room) (PW [.ref M, .int p0] (dC, dI) [(M, .inr (6, [.int 0, .int 0, .int 0, .int 0, .int 0, .ref a0, .ref a1, .ref a2, .ref a3, .int 0, .null, .long 0]))] (TYP cI cV cJ cL) sz) (va_Qi (fun (r : Int32) (u : Int32 × Int32 × Int32 × Value) => u.1 = b01 (outF p0 0 3) ∧ (b01 (outF p0 0 3) = 0 → r = 0)) (QB (dC, dI) (fun (u : Int32 × Int32 × Int32 × Value) => [(M, .inr (6, [.int u.1, .int u.2.1, .int 0, .int 0, .int u.2.2.1, .ref a0, .ref a1, .ref a2, .ref a3, .int 0, u.2.2.2, .long 0]))]) (TYP cI cV cJ cL) (va_A [(M, .inr (6, [.int 0, .int 0, .int 0, .int 0, .int 0, .ref a0, .ref a1, .ref a2, .ref a3, .int 0, .null, .long 0]))] sz)) (va_A [(M, .inr (6, [.int 0, .int 0, .int 0, .int 0, .int 0, .ref a0, .ref a1, .ref a2, .ref a3, .int 0, .null, .long 0]))] sz)) 0 0 (va_A [(M, .inr (6, [.int 0, .int 0, .int 0, .int 0, .int 0, .ref a0, .ref a1, .ref a2, .ref a3, .int 0, .null, .long 0]))] sz) := by
  refine Met.ofW (cc := cX6_change) (maxL := 2) (ret := (some .int)) (by decide) rfl ?_
  intro p e s m args below meth c s₁ B hml hv
  obtain ⟨rfl, hsz, hP, hK, hD0, hN⟩ := hv
  have hx := B.exec
  have hb := B.bytes
  have hr := B.returns
  have hts := atoms_spec (ws := (Cond.code yX6_change cX6_change 2 (some .int) :: TB)) B.pre
  have hown : s.vm.findClass RX6 = some m.cls := findClass_of_methodNamed B.named
  have hlocks := B.notSynchronized
  subst hsz
  have hD := hD0.self (sz := s.heap.size)
  generalize hAe : va_A [(M, .inr (6, [.int 0, .int 0, .int 0, .int 0, .int 0, .ref a0, .ref a1, .ref a2, .ref a3, .int 0, .null, .long 0]))] s.heap.size = A at hD ⊢
  have hA : ∀ q : Nat, s.heap.size ≤ q → A q := fun q h => by rw [← hAe]; exact Or.inr h
  have hS : va_S A s.heap s.heap [] := va_S.rf
  have hl := lv_entry ([.ref M, .int p0]) (n := 2) (Nat.le_of_ble_eq_true rfl)
  rw [lg_entry_eq]
  generalize (lg_sl ([.ref M, .int p0]) ++ List.replicate (2 - (lg_sl ([.ref M, .int p0])).length) Slot.unset).toArray = ls at hl ⊢
  have hl : lv_has ls 2 [(0, .ref M), (1, .int p0)] := hl
  refine lv_aload_n hx hb dX6_change_0 rfl (lv_at hl 0 rfl) ?_
  refine lv_iconst (v := 0) hx hb dX6_change_1 (by decide) ?_
  refine va_put (D := (dC, dI)) (ci := 6) (v := .int 0) (ty := .int) (C := RX6) (T := TX6) (N := 12) hx hb hts (fun w h => tb_in (inX6 w h)) tyX6 tyX6_ok nmX6 hown hK hP hD hS 0 rfl rfl 0 (by decide) (hts _ (tb_in q_fl_X6_24)) (fun _ h9 => h9) rfl (by decide +kernel) rfl rfl (Nat.le_of_ble_eq_true rfl) dX6_change_2 (fun H locs hP hD hS => ?_)
  have hP : va_P (dC, dI) cls [(M, .inr (6, [.int 0, .int 0, .int 0, .int 0, .int 0, .ref a0, .ref a1, .ref a2, .ref a3, .int 0, .null, .long 0]))] H := hP
  have hD : va_D A [(M, .inr (6, [.int 0, .int 0, .int 0, .int 0, .int 0, .ref a0, .ref a1, .ref a2, .ref a3, .int 0, .null, .long 0]))] := hD
  refine lv_iload_n hx hb dX6_change_5 rfl (lv_at hl 1 rfl) ?_
  refine lv_iconst (v := 0) hx hb dX6_change_6 (by decide) ?_
  refine lv_iconst (v := 3) hx hb dX6_change_7 (by decide) ?_
  refine k_Ti [.int p0, .int 0, .int 3] ⟨hx, hb, hml, hown, hts⟩ (c_X6_is l p0 0 3) q_ml_X6_31 q_st_X6_is q_ini_X6 q_co_X6_is (n := 3) (by decide +kernel) rfl ⟨rfl, rfl⟩ ⟨Nat.le_of_ble_eq_true rfl, Nat.le_of_ble_eq_true rfl⟩ hl.1 rfl (Nat.le_of_ble_eq_true rfl) dX6_change_8 ⟨Nat.le_of_ble_eq_true rfl, Nat.le_of_ble_eq_true rfl⟩ (fun r_1 hr_1 => ?_)
  subst hr_1
  refine lv_if_eq (tgt := 22) hx hb dX6_change_11 (by decide) (fun c_2 => ?_) (fun c_2 => ?_)
  · refine lv_aload_n hx hb dX6_change_22 rfl (lv_at hl 0 rfl) ?_
    refine lv_iconst (v := 1) hx hb dX6_change_23 (by decide) ?_
    refine n_Vi (ci := 6) (q0 := 0) (wc := [(M, .inr (6, [.int 0, .int 0, .int 0, .int 0, .int 0, .ref a0, .ref a1, .ref a2, .ref a3, .int 0, .null, .long 0]))]) (wr := []) [.int 1] [0] [] ⟨hx, hb, hml, hown, hts⟩ (fun sz => c_X6_refuse l dC dI cI cV cJ cL M a0 a1 a2 a3 0 0 0 (.null) 0 1 sz) q_ml_X6_171 q_im_X6_refuse q_se_X6_refuse q_ini_X6 q_co_X6_refuse (n := 1) (by decide +kernel) rfl ⟨rfl, rfl⟩ ⟨Nat.le_of_ble_eq_true rfl, Nat.le_of_ble_eq_true rfl⟩ hP hD hS hA hK hN rfl rfl (by decide) (by decide) (by decide) rfl rfl rfl hl.1 rfl (Nat.le_of_ble_eq_true rfl) dX6_change_24 ⟨Nat.le_of_ble_eq_true rfl, Nat.le_of_ble_eq_true rfl⟩ (fun r_4 u_3 H locs hu_3 hP hD hS => ?_)
    have hP : va_P (dC, dI) cls [(M, .inr (6, [.int 1, .int 0, .int 0, .int 0, .int 0, .ref a0, .ref a1, .ref a2, .ref a3, .int 0, .null, .long 0]))] H := hP
    have hD : va_D A [(M, .inr (6, [.int 1, .int 0, .int 0, .int 0, .int 0, .ref a0, .ref a1, .ref a2, .ref a3, .int 0, .null, .long 0]))] := hD
    obtain rfl := hu_3
    refine W.widen (k := 0) (n := 0) (Nat.le_of_ble_eq_true rfl) (Nat.le_of_ble_eq_true rfl) ?_
    have hP := hP.sub (ws' := [(M, .inr (6, [.int 1, .int 0, .int 0, .int 0, .int 0, .ref a0, .ref a1, .ref a2, .ref a3, .int 0, .null, .long 0]))]) [0] rfl
    have hD := hD.sub (ws' := [(M, .inr (6, [.int 1, .int 0, .int 0, .int 0, .int 0, .ref a0, .ref a1, .ref a2, .ref a3, .int 0, .null, .long 0]))]) [0] (by decide) rfl
    have hP9 := hP
    have hD9 := hD
    exact W.iret (v := 0) hx hb hr (fun t9 ht9 hW9 => ⟨⟨_, (1, 0, 0, .null), rfl, ⟨(show (1 : Int32) = b01 (outF p0 0 3) by simp [b01, (show outF p0 0 3 = true from bz0 c_2)]), (fun _ => rfl)⟩, by rw [ht9]; exact hP9, va_K.moved hW9.alike hK, hD9⟩, hS.F ht9⟩) hS.2.2 dX6_change_27
  · refine lv_aload_n hx hb dX6_change_14 rfl (lv_at hl 0 rfl) ?_
    refine lv_iload_n hx hb dX6_change_15 rfl (lv_at hl 1 rfl) ?_
    refine n_Vi (ci := 6) (q0 := 0) (wc := [(M, .inr (6, [.int 0, .int 0, .int 0, .int 0, .int 0, .ref a0, .ref a1, .ref a2, .ref a3, .int 0, .null, .long 0]))]) (wr := []) [.int p0] [0] [] ⟨hx, hb, hml, hown, hts⟩ (fun sz => c_X6_make l dC dI cI cV cJ cL M a0 a1 a2 a3 0 0 0 (.null) 0 p0 sz) q_ml_X6_210 q_im_X6_make q_se_X6_make q_ini_X6 q_co_X6_make (n := 1) (by decide +kernel) rfl ⟨rfl, rfl⟩ ⟨Nat.le_of_ble_eq_true rfl, Nat.le_of_ble_eq_true rfl⟩ hP hD hS hA hK hN rfl rfl (by decide) (by decide) (by decide) rfl rfl rfl hl.1 rfl (Nat.le_of_ble_eq_true rfl) dX6_change_16 ⟨Nat.le_of_ble_eq_true rfl, Nat.le_of_ble_eq_true rfl⟩ (fun r_6 u_5 H locs hu_5 hP hD hS => ?_)
    have hP : va_P (dC, dI) cls [(M, .inr (6, [.int 0, .int 0, .int 0, .int 0, .int 0, .ref a0, .ref a1, .ref a2, .ref a3, .int 0, .ref a3, .long 0]))] H := hP
    have hD : va_D A [(M, .inr (6, [.int 0, .int 0, .int 0, .int 0, .int 0, .ref a0, .ref a1, .ref a2, .ref a3, .int 0, .ref a3, .long 0]))] := hD
    obtain rfl := hu_5
    refine lv_goto (tgt := 27) hx hb dX6_change_19 (by decide) ?_
    refine W.widen (k := 0) (n := 0) (Nat.le_of_ble_eq_true rfl) (Nat.le_of_ble_eq_true rfl) ?_
    have hP := hP.sub (ws' := [(M, .inr (6, [.int 0, .int 0, .int 0, .int 0, .int 0, .ref a0, .ref a1, .ref a2, .ref a3, .int 0, .ref a3, .long 0]))]) [0] rfl
    have hD := hD.sub (ws' := [(M, .inr (6, [.int 0, .int 0, .int 0, .int 0, .int 0, .ref a0, .ref a1, .ref a2, .ref a3, .int 0, .ref a3, .long 0]))]) [0] (by decide) rfl
    have hP9 := hP
    have hD9 := hD
    exact W.iret (v := 0) hx hb hr (fun t9 ht9 hW9 => ⟨⟨_, (0, 0, 0, .ref a3), rfl, ⟨(show (0 : Int32) = b01 (outF p0 0 3) by simp [b01, (show outF p0 0 3 = false from bz1 c_2)]), (fun _ => rfl)⟩, by rw [ht9]; exact hP9, va_K.moved hW9.alike hK, hD9⟩, hS.F ht9⟩) hS.2.2 dX6_change_27
set_option maxHeartbeats 4000000 in
set_option maxRecDepth 100000 in
theorem c_X6_gain (l : Launch) (dC : Nat → ClassId) (dI : Nat → Nat → Nat) (cI cV cJ cL : ClassId) (M a0 a1 a2 a3 : Nat) (p0 : Int32)  (sz : Nat) : Met l yX6_gain (Cond.code yX6_gain cX6_gain 2 (some .int) :: TB) ({ frames := 3, cells := 0, slots := 0, locals := 72 } : Room) (PW [.ref M, .int p0] (dC, dI) [(M, .inr (6, [.int 0, .int 0, .int 0, .int 0, .int 0, .ref a0, .ref a1, .ref a2, .ref a3, .int 0, .null, .long 0]))] (TYP cI cV cJ cL) sz) (va_Qi (fun (r : Int32) (u : Int32 × Int32 × Int32 × Value) => u.1 = b01 (outF p0 0 3) ∧ (b01 (outF p0 0 3) = 0 → r = 0)) (QB (dC, dI) (fun (u : Int32 × Int32 × Int32 × Value) => [(M, .inr (6, [.int u.1, .int u.2.1, .int 0, .int 0, .int u.2.2.1, .ref a0, .ref a1, .ref a2, .ref a3, .int 0, u.2.2.2, .long 0]))]) (TYP cI cV cJ cL) (va_A [(M, .inr (6, [.int 0, .int 0, .int 0, .int 0, .int 0, .ref a0, .ref a1, .ref a2, .ref a3, .int 0, .null, .long 0]))] sz)) (va_A [(M, .inr (6, [.int 0, .int 0, .int 0, .int 0, .int 0, .ref a0, .ref a1, .ref a2, .ref a3, .int 0, .null, .long 0]))] sz)) 0 0 (va_A [(M, .inr (6, [.int 0, .int 0, .int 0, .int 0, .int 0, .ref a0, .ref a1, .ref a2, .ref a3, .int 0, .null, .long 0]))] sz) := by
  refine Met.ofW (cc := cX6_gain) (maxL := 2) (ret := (some .int)) (by decide) rfl ?_
  intro p e s m args below meth c s₁ B hml hv
  obtain ⟨rfl, hsz, hP, hK, hD0, hN⟩ := hv
  have hx := B.exec
  have hb := B.bytes
  have hr := B.returns
  have hts := atoms_spec (ws := (Cond.code yX6_gain cX6_gain 2 (some .int) :: TB)) B.pre
  have hown : s.vm.findClass RX6 = some m.cls := findClass_of_methodNamed B.named
  have hlocks := B.notSynchronized
  subst hsz
  have hD := hD0.self (sz := s.heap.size)
  generalize hAe : va_A [(M, .inr (6, [.int 0, .int 0, .int 0, .int 0, .int 0, .ref a0, .ref a1, .ref a2, .ref a3, .int 0, .null, .long 0]))] s.heap.size = A at hD ⊢
  have hA : ∀ q : Nat, s.heap.size ≤ q → A q := fun q h => by rw [← hAe]; exact Or.inr h
  have hS : va_S A s.heap s.heap [] := va_S.rf
  have hl := lv_entry ([.ref M, .int p0]) (n := 2) (Nat.le_of_ble_eq_true rfl)
  rw [lg_entry_eq]
  generalize (lg_sl ([.ref M, .int p0]) ++ List.replicate (2 - (lg_sl ([.ref M, .int p0])).length) Slot.unset).toArray = ls at hl ⊢
  have hl : lv_has ls 2 [(0, .ref M), (1, .int p0)] := hl
  refine lv_aload_n hx hb dX6_gain_0 rfl (lv_at hl 0 rfl) ?_
  refine lv_iconst (v := 0) hx hb dX6_gain_1 (by decide) ?_
  refine va_put (D := (dC, dI)) (ci := 6) (v := .int 0) (ty := .int) (C := RX6) (T := TX6) (N := 12) hx hb hts (fun w h => tb_in (inX6 w h)) tyX6 tyX6_ok nmX6 hown hK hP hD hS 0 rfl rfl 0 (by decide) (hts _ (tb_in q_fl_X6_24)) (fun _ h9 => h9) rfl (by decide +kernel) rfl rfl (Nat.le_of_ble_eq_true rfl) dX6_gain_2 (fun H locs hP hD hS => ?_)
  have hP : va_P (dC, dI) cls [(M, .inr (6, [.int 0, .int 0, .int 0, .int 0, .int 0, .ref a0, .ref a1, .ref a2, .ref a3, .int 0, .null, .long 0]))] H := hP
  have hD : va_D A [(M, .inr (6, [.int 0, .int 0, .int 0, .int 0, .int 0, .ref a0, .ref a1, .ref a2, .ref a3, .int 0, .null, .long 0]))] := hD
  refine lv_iload_n hx hb dX6_gain_5 rfl (lv_at hl 1 rfl) ?_
  refine lv_iconst (v := 0) hx hb dX6_gain_6 (by decide) ?_
  refine lv_iconst (v := 3) hx hb dX6_gain_7 (by decide) ?_
  refine k_Ti [.int p0, .int 0, .int 3] ⟨hx, hb, hml, hown, hts⟩ (c_X6_is l p0 0 3) q_ml_X6_31 q_st_X6_is q_ini_X6 q_co_X6_is (n := 3) (by decide +kernel) rfl ⟨rfl, rfl⟩ ⟨Nat.le_of_ble_eq_true rfl, Nat.le_of_ble_eq_true rfl⟩ hl.1 rfl (Nat.le_of_ble_eq_true rfl) dX6_gain_8 ⟨Nat.le_of_ble_eq_true rfl, Nat.le_of_ble_eq_true rfl⟩ (fun r_1 hr_1 => ?_)
  subst hr_1
  refine lv_if_eq (tgt := 22) hx hb dX6_gain_11 (by decide) (fun c_2 => ?_) (fun c_2 => ?_)
  · refine lv_aload_n hx hb dX6_gain_22 rfl (lv_at hl 0 rfl) ?_
    refine lv_iconst (v := 1) hx hb dX6_gain_23 (by decide) ?_
    refine n_Vi (ci := 6) (q0 := 0) (wc := [(M, .inr (6, [.int 0, .int 0, .int 0, .int 0, .int 0, .ref a0, .ref a1, .ref a2, .ref a3, .int 0, .null, .long 0]))]) (wr := []) [.int 1] [0] [] ⟨hx, hb, hml, hown, hts⟩ (fun sz => c_X6_refuse l dC dI cI cV cJ cL M a0 a1 a2 a3 0 0 0 (.null) 0 1 sz) q_ml_X6_171 q_im_X6_refuse q_se_X6_refuse q_ini_X6 q_co_X6_refuse (n := 1) (by decide +kernel) rfl ⟨rfl, rfl⟩ ⟨Nat.le_of_ble_eq_true rfl, Nat.le_of_ble_eq_true rfl⟩ hP hD hS hA hK hN rfl rfl (by decide) (by decide) (by decide) rfl rfl rfl hl.1 rfl (Nat.le_of_ble_eq_true rfl) dX6_gain_24 ⟨Nat.le_of_ble_eq_true rfl, Nat.le_of_ble_eq_true rfl⟩ (fun r_4 u_3 H locs hu_3 hP hD hS => ?_)
    have hP : va_P (dC, dI) cls [(M, .inr (6, [.int 1, .int 0, .int 0, .int 0, .int 0, .ref a0, .ref a1, .ref a2, .ref a3, .int 0, .null, .long 0]))] H := hP
    have hD : va_D A [(M, .inr (6, [.int 1, .int 0, .int 0, .int 0, .int 0, .ref a0, .ref a1, .ref a2, .ref a3, .int 0, .null, .long 0]))] := hD
    obtain rfl := hu_3
    refine W.widen (k := 0) (n := 0) (Nat.le_of_ble_eq_true rfl) (Nat.le_of_ble_eq_true rfl) ?_
    have hP := hP.sub (ws' := [(M, .inr (6, [.int 1, .int 0, .int 0, .int 0, .int 0, .ref a0, .ref a1, .ref a2, .ref a3, .int 0, .null, .long 0]))]) [0] rfl
    have hD := hD.sub (ws' := [(M, .inr (6, [.int 1, .int 0, .int 0, .int 0, .int 0, .ref a0, .ref a1, .ref a2, .ref a3, .int 0, .null, .long 0]))]) [0] (by decide) rfl
    have hP9 := hP
    have hD9 := hD
    exact W.iret (v := 0) hx hb hr (fun t9 ht9 hW9 => ⟨⟨_, (1, 0, 0, .null), rfl, ⟨(show (1 : Int32) = b01 (outF p0 0 3) by simp [b01, (show outF p0 0 3 = true from bz0 c_2)]), (fun _ => rfl)⟩, by rw [ht9]; exact hP9, va_K.moved hW9.alike hK, hD9⟩, hS.F ht9⟩) hS.2.2 dX6_gain_27
  · refine lv_aload_n hx hb dX6_gain_14 rfl (lv_at hl 0 rfl) ?_
    refine lv_iload_n hx hb dX6_gain_15 rfl (lv_at hl 1 rfl) ?_
    refine n_Vi (ci := 6) (q0 := 0) (wc := [(M, .inr (6, [.int 0, .int 0, .int 0, .int 0, .int 0, .ref a0, .ref a1, .ref a2, .ref a3, .int 0, .null, .long 0]))]) (wr := []) [.int p0] [0] [] ⟨hx, hb, hml, hown, hts⟩ (fun sz => c_X6_gainOf l dC dI cI cV cJ cL M a0 a1 a2 a3 0 0 0 (.null) 0 p0 sz) q_ml_X6_168 q_im_X6_gainOf q_se_X6_gainOf q_ini_X6 q_co_X6_gainOf (n := 1) (by decide +kernel) rfl ⟨rfl, rfl⟩ ⟨Nat.le_of_ble_eq_true rfl, Nat.le_of_ble_eq_true rfl⟩ hP hD hS hA hK hN rfl rfl (by decide) (by decide) (by decide) rfl rfl rfl hl.1 rfl (Nat.le_of_ble_eq_true rfl) dX6_gain_16 ⟨Nat.le_of_ble_eq_true rfl, Nat.le_of_ble_eq_true rfl⟩ (fun r_6 u_5 H locs hu_5 hP hD hS => ?_)
    have hP : va_P (dC, dI) cls [(M, .inr (6, [.int 0, .int 0, .int 0, .int 0, .int 0, .ref a0, .ref a1, .ref a2, .ref a3, .int 0, .ref a3, .long 0]))] H := hP
    have hD : va_D A [(M, .inr (6, [.int 0, .int 0, .int 0, .int 0, .int 0, .ref a0, .ref a1, .ref a2, .ref a3, .int 0, .ref a3, .long 0]))] := hD
    obtain rfl := hu_5
    refine lv_goto (tgt := 27) hx hb dX6_gain_19 (by decide) ?_
    refine W.widen (k := 0) (n := 0) (Nat.le_of_ble_eq_true rfl) (Nat.le_of_ble_eq_true rfl) ?_
    have hP := hP.sub (ws' := [(M, .inr (6, [.int 0, .int 0, .int 0, .int 0, .int 0, .ref a0, .ref a1, .ref a2, .ref a3, .int 0, .ref a3, .long 0]))]) [0] rfl
    have hD := hD.sub (ws' := [(M, .inr (6, [.int 0, .int 0, .int 0, .int 0, .int 0, .ref a0, .ref a1, .ref a2, .ref a3, .int 0, .ref a3, .long 0]))]) [0] (by decide) rfl
    have hP9 := hP
    have hD9 := hD
    exact W.iret (v := 0) hx hb hr (fun t9 ht9 hW9 => ⟨⟨_, (0, 0, 0, .ref a3), rfl, ⟨(show (0 : Int32) = b01 (outF p0 0 3) by simp [b01, (show outF p0 0 3 = false from bz1 c_2)]), (fun _ => rfl)⟩, by rw [ht9]; exact hP9, va_K.moved hW9.alike hK, hD9⟩, hS.F ht9⟩) hS.2.2 dX6_gain_27
set_option maxHeartbeats 4000000 in
set_option maxRecDepth 100000 in
theorem c_X6_improve (l : Launch) (dC : Nat → ClassId) (dI : Nat → Nat → Nat) (cI cV cJ cL : ClassId) (M a0 a1 a2 a3 : Nat) (p0 : Int32)  (sz : Nat) : Met l yX6_improve (Cond.code yX6_improve cX6_improve 6 (some .int) :: TB) ({ frames := 3, cells := 0, slots := 0, locals := 72 } : Room) (PW [.ref M, .int p0] (dC, dI) [(M, .inr (6, [.int 0, .int 0, .int 0, .int 0, .int 0, .ref a0, .ref a1, .ref a2, .ref a3, .int 0, .null, .long 0]))] (TYP cI cV cJ cL) sz) (va_Qi (fun (r : Int32) (u : Int32 × Int32 × Int32 × Value) => u.1 = b01 (outF p0 1 10) ∧ (b01 (outF p0 1 10) = 0 → r = 0)) (QB (dC, dI) (fun (u : Int32 × Int32 × Int32 × Value) => [(M, .inr (6, [.int u.1, .int u.2.1, .int 0, .int 0, .int u.2.2.1, .ref a0, .ref a1, .ref a2, .ref a3, .int 0, u.2.2.2, .long 0]))]) (TYP cI cV cJ cL) (va_A [(M, .inr (6, [.int 0, .int 0, .int 0, .int 0, .int 0, .ref a0, .ref a1, .ref a2, .ref a3, .int 0, .null, .long 0]))] sz)) (va_A [(M, .inr (6, [.int 0, .int 0, .int 0, .int 0, .int 0, .ref a0, .ref a1, .ref a2, .ref a3, .int 0, .null, .long 0]))] sz)) 0 0 (va_A [(M, .inr (6, [.int 0, .int 0, .int 0, .int 0, .int 0, .ref a0, .ref a1, .ref a2, .ref a3, .int 0, .null, .long 0]))] sz) := by
  refine Met.ofW (cc := cX6_improve) (maxL := 6) (ret := (some .int)) (by decide) rfl ?_
  intro p e s m args below meth c s₁ B hml hv
  obtain ⟨rfl, hsz, hP, hK, hD0, hN⟩ := hv
  have hx := B.exec
  have hb := B.bytes
  have hr := B.returns
  have hts := atoms_spec (ws := (Cond.code yX6_improve cX6_improve 6 (some .int) :: TB)) B.pre
  have hown : s.vm.findClass RX6 = some m.cls := findClass_of_methodNamed B.named
  have hlocks := B.notSynchronized
  subst hsz
  have hD := hD0.self (sz := s.heap.size)
  generalize hAe : va_A [(M, .inr (6, [.int 0, .int 0, .int 0, .int 0, .int 0, .ref a0, .ref a1, .ref a2, .ref a3, .int 0, .null, .long 0]))] s.heap.size = A at hD ⊢
  have hA : ∀ q : Nat, s.heap.size ≤ q → A q := fun q h => by rw [← hAe]; exact Or.inr h
  have hS : va_S A s.heap s.heap [] := va_S.rf
  have hl := lv_entry ([.ref M, .int p0]) (n := 6) (Nat.le_of_ble_eq_true rfl)
  rw [lg_entry_eq]
  generalize (lg_sl ([.ref M, .int p0]) ++ List.replicate (6 - (lg_sl ([.ref M, .int p0])).length) Slot.unset).toArray = ls at hl ⊢
  have hl : lv_has ls 6 [(0, .ref M), (1, .int p0)] := hl
  refine lv_aload_n hx hb dX6_improve_0 rfl (lv_at hl 0 rfl) ?_
  refine lv_iconst (v := 0) hx hb dX6_improve_1 (by decide) ?_
  refine va_put (D := (dC, dI)) (ci := 6) (v := .int 0) (ty := .int) (C := RX6) (T := TX6) (N := 12) hx hb hts (fun w h => tb_in (inX6 w h)) tyX6 tyX6_ok nmX6 hown hK hP hD hS 0 rfl rfl 0 (by decide) (hts _ (tb_in q_fl_X6_24)) (fun _ h9 => h9) rfl (by decide +kernel) rfl rfl (Nat.le_of_ble_eq_true rfl) dX6_improve_2 (fun H locs hP hD hS => ?_)
  have hP : va_P (dC, dI) cls [(M, .inr (6, [.int 0, .int 0, .int 0, .int 0, .int 0, .ref a0, .ref a1, .ref a2, .ref a3, .int 0, .null, .long 0]))] H := hP
  have hD : va_D A [(M, .inr (6, [.int 0, .int 0, .int 0, .int 0, .int 0, .ref a0, .ref a1, .ref a2, .ref a3, .int 0, .null, .long 0]))] := hD
  refine lv_iload_n hx hb dX6_improve_5 rfl (lv_at hl 1 rfl) ?_
  refine lv_iconst (v := 1) hx hb dX6_improve_6 (by decide) ?_
  refine lv_bipush (v := 10) hx hb dX6_improve_7 (by decide) ?_
  refine k_Ti [.int p0, .int 1, .int 10] ⟨hx, hb, hml, hown, hts⟩ (c_X6_is l p0 1 10) q_ml_X6_31 q_st_X6_is q_ini_X6 q_co_X6_is (n := 3) (by decide +kernel) rfl ⟨rfl, rfl⟩ ⟨Nat.le_of_ble_eq_true rfl, Nat.le_of_ble_eq_true rfl⟩ hl.1 rfl (Nat.le_of_ble_eq_true rfl) dX6_improve_9 ⟨Nat.le_of_ble_eq_true rfl, Nat.le_of_ble_eq_true rfl⟩ (fun r_1 hr_1 => ?_)
  subst hr_1
  refine lv_if_ne (tgt := 21) hx hb dX6_improve_12 (by decide) (fun c_2 => ?_) (fun c_2 => ?_)
  · refine lv_iconst (v := 0) hx hb dX6_improve_21 (by decide) ?_
    refine lv_istore_n (lv' := [(2, .int 0), (0, .ref M), (1, .int p0)]) hx hb dX6_improve_22 rfl hl (by decide) rfl (fun ls hl => ?_)
    refine lv_iconst (v := 0) hx hb dX6_improve_23 (by decide) ?_
    refine lv_istore_n (lv' := [(3, .int 0), (2, .int 0), (0, .ref M), (1, .int p0)]) hx hb dX6_improve_24 rfl hl (by decide) rfl (fun ls hl => ?_)
    refine lv_iload_n hx hb dX6_improve_25 rfl (lv_at hl 0 rfl) ?_
    refine lv_iload_n hx hb dX6_improve_26 rfl (lv_at hl 3 rfl) ?_
    refine lv_icmp_ge (tgt := 93) hx hb dX6_improve_27 (by decide) (fun c_3 => ?_) (fun c_3 => ?_)
    · exact absurd c_3 (z_pos (show outF p0 1 10 = false from bz1 c_2))
    · refine lv_iconst (v := 0) hx hb dX6_improve_30 (by decide) ?_
      refine lv_istore (lv' := [(4, .int 0), (3, .int 0), (2, .int 0), (0, .ref M), (1, .int p0)]) hx hb dX6_improve_31 hl (by decide) rfl (fun ls hl => ?_)
      refine lv_iconst (v := 1) hx hb dX6_improve_33 (by decide) ?_
      refine lv_istore (lv' := [(5, .int 1), (4, .int 0), (3, .int 0), (2, .int 0), (0, .ref M), (1, .int p0)]) hx hb dX6_improve_34 hl (by decide) rfl (fun ls hl => ?_)
      refine lv_iload hx hb dX6_improve_36 (lv_at hl 0 rfl) ?_
      refine lv_iconst (v := 4) hx hb dX6_improve_38 (by decide) ?_
      refine lv_icmp_ge (tgt := 67) hx hb dX6_improve_39 (by decide) (fun c_4 => ?_) (fun c_4 => ?_)
      · first | exact absurd c_4 (by decide) | exact absurd (by decide) c_4
      refine lv_aload_n hx hb dX6_improve_42 rfl (lv_at hl 4 rfl) ?_
      refine lv_iload hx hb dX6_improve_43 (lv_at hl 0 rfl) ?_
      refine n_Vi (ci := 6) (q0 := 0) (wc := [(M, .inr (6, [.int 0, .int 0, .int 0, .int 0, .int 0, .ref a0, .ref a1, .ref a2, .ref a3, .int 0, .null, .long 0]))]) (wr := []) [.int 1] [0] [] ⟨hx, hb, hml, hown, hts⟩ (fun sz => c_X6_gainOf l dC dI cI cV cJ cL M a0 a1 a2 a3 0 0 0 (.null) 0 1 sz) q_ml_X6_168 q_im_X6_gainOf q_se_X6_gainOf q_ini_X6 q_co_X6_gainOf (n := 1) (by decide +kernel) rfl ⟨rfl, rfl⟩ ⟨Nat.le_of_ble_eq_true rfl, Nat.le_of_ble_eq_true rfl⟩ hP hD hS hA hK hN rfl rfl (by decide) (by decide) (by decide) rfl rfl rfl hl.1 rfl (Nat.le_of_ble_eq_true rfl) dX6_improve_45 ⟨Nat.le_of_ble_eq_true rfl, Nat.le_of_ble_eq_true rfl⟩ (fun r_6 u_5 H locs hu_5 hP hD hS => ?_)
      have hP : va_P (dC, dI) cls [(M, .inr (6, [.int 0, .int 0, .int 0, .int 0, .int 0, .ref a0, .ref a1, .ref a2, .ref a3, .int 0, .ref a3, .long 0]))] H := hP
      have hD : va_D A [(M, .inr (6, [.int 0, .int 0, .int 0, .int 0, .int 0, .ref a0, .ref a1, .ref a2, .ref a3, .int 0, .ref a3, .long 0]))] := hD
      obtain rfl := hu_5
      refine lv_aload_n hx hb dX6_improve_48 rfl (lv_at hl 4 rfl) ?_
      refine lv_iload hx hb dX6_improve_49 (lv_at hl 1 rfl) ?_
      refine n_Vi (ci := 6) (q0 := 0) (wc := [(M, .inr (6, [.int 0, .int 0, .int 0, .int 0, .int 0, .ref a0, .ref a1, .ref a2, .ref a3, .int 0, .ref a3, .long 0]))]) (wr := []) [.int 0] [0] [] ⟨hx, hb, hml, hown, hts⟩ (fun sz => c_X6_gainOf l dC dI cI cV cJ cL M a0 a1 a2 a3 0 0 0 (.ref a3) 0 0 sz) q_ml_X6_168 q_im_X6_gainOf q_se_X6_gainOf q_ini_X6 q_co_X6_gainOf (n := 1) (by decide +kernel) rfl ⟨rfl, rfl⟩ ⟨Nat.le_of_ble_eq_true rfl, Nat.le_of_ble_eq_true rfl⟩ hP hD hS hA hK hN rfl rfl (by decide) (by decide) (by decide) rfl rfl rfl hl.1 rfl (Nat.le_of_ble_eq_true rfl) dX6_improve_51 ⟨Nat.le_of_ble_eq_true rfl, Nat.le_of_ble_eq_true rfl⟩ (fun r_8 u_7 H locs hu_7 hP hD hS => ?_)
      have hP : va_P (dC, dI) cls [(M, .inr (6, [.int 0, .int 0, .int 0, .int 0, .int 0, .ref a0, .ref a1, .ref a2, .ref a3, .int 0, .ref a3, .long 0]))] H := hP
      have hD : va_D A [(M, .inr (6, [.int 0, .int 0, .int 0, .int 0, .int 0, .ref a0, .ref a1, .ref a2, .ref a3, .int 0, .ref a3, .long 0]))] := hD
      obtain rfl := hu_7
      refine lv_icmp_le (tgt := 61) hx hb dX6_improve_54 (by decide) (fun c_9 => ?_) (fun c_9 => ?_)
      rotate_left
      · first | exact absurd c_9 (by decide) | exact absurd (by decide) c_9
      refine lv_iinc (v := 2) (lv' := [(5, .int 2), (4, .int 0), (3, .int 0), (2, .int 0), (0, .ref M), (1, .int p0)]) hx hb dX6_improve_61 hl (k := 0) rfl (by decide) (by decide) rfl (fun ls hl => ?_)
      refine lv_goto (tgt := 36) hx hb dX6_improve_64 (by decide) ?_
      refine lv_iload hx hb dX6_improve_36 (lv_at hl 0 rfl) ?_
      refine lv_iconst (v := 4) hx hb dX6_improve_38 (by decide) ?_
      refine lv_icmp_ge (tgt := 67) hx hb dX6_improve_39 (by decide) (fun c_10 => ?_) (fun c_10 => ?_)
      · first | exact absurd c_10 (by decide) | exact absurd (by decide) c_10
      refine lv_aload_n hx hb dX6_improve_42 rfl (lv_at hl 4 rfl) ?_
      refine lv_iload hx hb dX6_improve_43 (lv_at hl 0 rfl) ?_
      refine n_Vi (ci := 6) (q0 := 0) (wc := [(M, .inr (6, [.int 0, .int 0, .int 0, .int 0, .int 0, .ref a0, .ref a1, .ref a2, .ref a3, .int 0, .ref a3, .long 0]))]) (wr := []) [.int 2] [0] [] ⟨hx, hb, hml, hown, hts⟩ (fun sz => c_X6_gainOf l dC dI cI cV cJ cL M a0 a1 a2 a3 0 0 0 (.ref a3) 0 2 sz) q_ml_X6_168 q_im_X6_gainOf q_se_X6_gainOf q_ini_X6 q_co_X6_gainOf (n := 1) (by decide +kernel) rfl ⟨rfl, rfl⟩ ⟨Nat.le_of_ble_eq_true rfl, Nat.le_of_ble_eq_true rfl⟩ hP hD hS hA hK hN rfl rfl (by decide) (by decide) (by decide) rfl rfl rfl hl.1 rfl (Nat.le_of_ble_eq_true rfl) dX6_improve_45 ⟨Nat.le_of_ble_eq_true rfl, Nat.le_of_ble_eq_true rfl⟩ (fun r_12 u_11 H locs hu_11 hP hD hS => ?_)
      have hP : va_P (dC, dI) cls [(M, .inr (6, [.int 0, .int 0, .int 0, .int 0, .int 0, .ref a0, .ref a1, .ref a2, .ref a3, .int 0, .ref a3, .long 0]))] H := hP
      have hD : va_D A [(M, .inr (6, [.int 0, .int 0, .int 0, .int 0, .int 0, .ref a0, .ref a1, .ref a2, .ref a3, .int 0, .ref a3, .long 0]))] := hD
      obtain rfl := hu_11
      refine lv_aload_n hx hb dX6_improve_48 rfl (lv_at hl 4 rfl) ?_
      refine lv_iload hx hb dX6_improve_49 (lv_at hl 1 rfl) ?_
      refine n_Vi (ci := 6) (q0 := 0) (wc := [(M, .inr (6, [.int 0, .int 0, .int 0, .int 0, .int 0, .ref a0, .ref a1, .ref a2, .ref a3, .int 0, .ref a3, .long 0]))]) (wr := []) [.int 0] [0] [] ⟨hx, hb, hml, hown, hts⟩ (fun sz => c_X6_gainOf l dC dI cI cV cJ cL M a0 a1 a2 a3 0 0 0 (.ref a3) 0 0 sz) q_ml_X6_168 q_im_X6_gainOf q_se_X6_gainOf q_ini_X6 q_co_X6_gainOf (n := 1) (by decide +kernel) rfl ⟨rfl, rfl⟩ ⟨Nat.le_of_ble_eq_true rfl, Nat.le_of_ble_eq_true rfl⟩ hP hD hS hA hK hN rfl rfl (by decide) (by decide) (by decide) rfl rfl rfl hl.1 rfl (Nat.le_of_ble_eq_true rfl) dX6_improve_51 ⟨Nat.le_of_ble_eq_true rfl, Nat.le_of_ble_eq_true rfl⟩ (fun r_14 u_13 H locs hu_13 hP hD hS => ?_)
      have hP : va_P (dC, dI) cls [(M, .inr (6, [.int 0, .int 0, .int 0, .int 0, .int 0, .ref a0, .ref a1, .ref a2, .ref a3, .int 0, .ref a3, .long 0]))] H := hP
      have hD : va_D A [(M, .inr (6, [.int 0, .int 0, .int 0, .int 0, .int 0, .ref a0, .ref a1, .ref a2, .ref a3, .int 0, .ref a3, .long 0]))] := hD
      obtain rfl := hu_13
      refine lv_icmp_le (tgt := 61) hx hb dX6_improve_54 (by decide) (fun c_15 => ?_) (fun c_15 => ?_)
      rotate_left
      · first | exact absurd c_15 (by decide) | exact absurd (by decide) c_15
      refine lv_iinc (v := 3) (lv' := [(5, .int 3), (4, .int 0), (3, .int 0), (2, .int 0), (0, .ref M), (1, .int p0)]) hx hb dX6_improve_61 hl (k := 0) rfl (by decide) (by decide) rfl (fun ls hl => ?_)
      refine lv_goto (tgt := 36) hx hb dX6_improve_64 (by decide) ?_
      refine lv_iload hx hb dX6_improve_36 (lv_at hl 0 rfl) ?_
      refine lv_iconst (v := 4) hx hb dX6_improve_38 (by decide) ?_
      refine lv_icmp_ge (tgt := 67) hx hb dX6_improve_39 (by decide) (fun c_16 => ?_) (fun c_16 => ?_)
      · first | exact absurd c_16 (by decide) | exact absurd (by decide) c_16
      refine lv_aload_n hx hb dX6_improve_42 rfl (lv_at hl 4 rfl) ?_
      refine lv_iload hx hb dX6_improve_43 (lv_at hl 0 rfl) ?_
      refine n_Vi (ci := 6) (q0 := 0) (wc := [(M, .inr (6, [.int 0, .int 0, .int 0, .int 0, .int 0, .ref a0, .ref a1, .ref a2, .ref a3, .int 0, .ref a3, .long 0]))]) (wr := []) [.int 3] [0] [] ⟨hx, hb, hml, hown, hts⟩ (fun sz => c_X6_gainOf l dC dI cI cV cJ cL M a0 a1 a2 a3 0 0 0 (.ref a3) 0 3 sz) q_ml_X6_168 q_im_X6_gainOf q_se_X6_gainOf q_ini_X6 q_co_X6_gainOf (n := 1) (by decide +kernel) rfl ⟨rfl, rfl⟩ ⟨Nat.le_of_ble_eq_true rfl, Nat.le_of_ble_eq_true rfl⟩ hP hD hS hA hK hN rfl rfl (by decide) (by decide) (by decide) rfl rfl rfl hl.1 rfl (Nat.le_of_ble_eq_true rfl) dX6_improve_45 ⟨Nat.le_of_ble_eq_true rfl, Nat.le_of_ble_eq_true rfl⟩ (fun r_18 u_17 H locs hu_17 hP hD hS => ?_)
      have hP : va_P (dC, dI) cls [(M, .inr (6, [.int 0, .int 0, .int 0, .int 0, .int 0, .ref a0, .ref a1, .ref a2, .ref a3, .int 0, .ref a3, .long 0]))] H := hP
      have hD : va_D A [(M, .inr (6, [.int 0, .int 0, .int 0, .int 0, .int 0, .ref a0, .ref a1, .ref a2, .ref a3, .int 0, .ref a3, .long 0]))] := hD
      obtain rfl := hu_17
      refine lv_aload_n hx hb dX6_improve_48 rfl (lv_at hl 4 rfl) ?_
      refine lv_iload hx hb dX6_improve_49 (lv_at hl 1 rfl) ?_
      refine n_Vi (ci := 6) (q0 := 0) (wc := [(M, .inr (6, [.int 0, .int 0, .int 0, .int 0, .int 0, .ref a0, .ref a1, .ref a2, .ref a3, .int 0, .ref a3, .long 0]))]) (wr := []) [.int 0] [0] [] ⟨hx, hb, hml, hown, hts⟩ (fun sz => c_X6_gainOf l dC dI cI cV cJ cL M a0 a1 a2 a3 0 0 0 (.ref a3) 0 0 sz) q_ml_X6_168 q_im_X6_gainOf q_se_X6_gainOf q_ini_X6 q_co_X6_gainOf (n := 1) (by decide +kernel) rfl ⟨rfl, rfl⟩ ⟨Nat.le_of_ble_eq_true rfl, Nat.le_of_ble_eq_true rfl⟩ hP hD hS hA hK hN rfl rfl (by decide) (by decide) (by decide) rfl rfl rfl hl.1 rfl (Nat.le_of_ble_eq_true rfl) dX6_improve_51 ⟨Nat.le_of_ble_eq_true rfl, Nat.le_of_ble_eq_true rfl⟩ (fun r_20 u_19 H locs hu_19 hP hD hS => ?_)
      have hP : va_P (dC, dI) cls [(M, .inr (6, [.int 0, .int 0, .int 0, .int 0, .int 0, .ref a0, .ref a1, .ref a2, .ref a3, .int 0, .ref a3, .long 0]))] H := hP
      have hD : va_D A [(M, .inr (6, [.int 0, .int 0, .int 0, .int 0, .int 0, .ref a0, .ref a1, .ref a2, .ref a3, .int 0, .ref a3, .long 0]))] := hD
      obtain rfl := hu_19
      refine lv_icmp_le (tgt := 61) hx hb dX6_improve_54 (by decide) (fun c_21 => ?_) (fun c_21 => ?_)
      rotate_left
      · first | exact absurd c_21 (by decide) | exact absurd (by decide) c_21
      refine lv_iinc (v := 4) (lv' := [(5, .int 4), (4, .int 0), (3, .int 0), (2, .int 0), (0, .ref M), (1, .int p0)]) hx hb dX6_improve_61 hl (k := 0) rfl (by decide) (by decide) rfl (fun ls hl => ?_)
      refine lv_goto (tgt := 36) hx hb dX6_improve_64 (by decide) ?_
      refine lv_iload hx hb dX6_improve_36 (lv_at hl 0 rfl) ?_
      refine lv_iconst (v := 4) hx hb dX6_improve_38 (by decide) ?_
      refine lv_icmp_ge (tgt := 67) hx hb dX6_improve_39 (by decide) (fun c_22 => ?_) (fun c_22 => ?_)
      rotate_left
      · first | exact absurd c_22 (by decide) | exact absurd (by decide) c_22
      refine lv_aload_n hx hb dX6_improve_67 rfl (lv_at hl 4 rfl) ?_
      refine lv_iload hx hb dX6_improve_68 (lv_at hl 1 rfl) ?_
      refine n_Vi (ci := 6) (q0 := 0) (wc := [(M, .inr (6, [.int 0, .int 0, .int 0, .int 0, .int 0, .ref a0, .ref a1, .ref a2, .ref a3, .int 0, .ref a3, .long 0]))]) (wr := []) [.int 0] [0] [] ⟨hx, hb, hml, hown, hts⟩ (fun sz => c_X6_gainOf l dC dI cI cV cJ cL M a0 a1 a2 a3 0 0 0 (.ref a3) 0 0 sz) q_ml_X6_168 q_im_X6_gainOf q_se_X6_gainOf q_ini_X6 q_co_X6_gainOf (n := 1) (by decide +kernel) rfl ⟨rfl, rfl⟩ ⟨Nat.le_of_ble_eq_true rfl, Nat.le_of_ble_eq_true rfl⟩ hP hD hS hA hK hN rfl rfl (by decide) (by decide) (by decide) rfl rfl rfl hl.1 rfl (Nat.le_of_ble_eq_true rfl) dX6_improve_70 ⟨Nat.le_of_ble_eq_true rfl, Nat.le_of_ble_eq_true rfl⟩ (fun r_24 u_23 H locs hu_23 hP hD hS => ?_)
      have hP : va_P (dC, dI) cls [(M, .inr (6, [.int 0, .int 0, .int 0, .int 0, .int 0, .ref a0, .ref a1, .ref a2, .ref a3, .int 0, .ref a3, .long 0]))] H := hP
      have hD : va_D A [(M, .inr (6, [.int 0, .int 0, .int 0, .int 0, .int 0, .ref a0, .ref a1, .ref a2, .ref a3, .int 0, .ref a3, .long 0]))] := hD
      obtain rfl := hu_23
      refine lv_if_ne (tgt := 78) hx hb dX6_improve_73 (by decide) (fun c_25 => ?_) (fun c_25 => ?_)
      · first | exact absurd c_25 (by decide) | exact absurd (by decide) c_25
      refine lv_iload_n hx hb dX6_improve_76 rfl (lv_at hl 3 rfl) ?_
      refine W.widen (k := 0) (n := 0) (Nat.le_of_ble_eq_true rfl) (Nat.le_of_ble_eq_true rfl) ?_
      have hP := hP.sub (ws' := [(M, .inr (6, [.int 0, .int 0, .int 0, .int 0, .int 0, .ref a0, .ref a1, .ref a2, .ref a3, .int 0, .ref a3, .long 0]))]) [0] rfl
      have hD := hD.sub (ws' := [(M, .inr (6, [.int 0, .int 0, .int 0, .int 0, .int 0, .ref a0, .ref a1, .ref a2, .ref a3, .int 0, .ref a3, .long 0]))]) [0] (by decide) rfl
      have hP9 := hP
      have hD9 := hD
      exact W.iret (v := 0) hx hb hr (fun t9 ht9 hW9 => ⟨⟨_, (0, 0, 0, .ref a3), rfl, ⟨(show (0 : Int32) = b01 (outF p0 1 10) by simp [b01, (show outF p0 1 10 = false from bz1 c_2)]), (fun _ => rfl)⟩, by rw [ht9]; exact hP9, va_K.moved hW9.alike hK, hD9⟩, hS.F ht9⟩) hS.2.2 dX6_improve_77
  · refine lv_aload_n hx hb dX6_improve_15 rfl (lv_at hl 0 rfl) ?_
    refine lv_iconst (v := 1) hx hb dX6_improve_16 (by decide) ?_
    refine n_Vi (ci := 6) (q0 := 0) (wc := [(M, .inr (6, [.int 0, .int 0, .int 0, .int 0, .int 0, .ref a0, .ref a1, .ref a2, .ref a3, .int 0, .null, .long 0]))]) (wr := []) [.int 1] [0] [] ⟨hx, hb, hml, hown, hts⟩ (fun sz => c_X6_refuse l dC dI cI cV cJ cL M a0 a1 a2 a3 0 0 0 (.null) 0 1 sz) q_ml_X6_171 q_im_X6_refuse q_se_X6_refuse q_ini_X6 q_co_X6_refuse (n := 1) (by decide +kernel) rfl ⟨rfl, rfl⟩ ⟨Nat.le_of_ble_eq_true rfl, Nat.le_of_ble_eq_true rfl⟩ hP hD hS hA hK hN rfl rfl (by decide) (by decide) (by decide) rfl rfl rfl hl.1 rfl (Nat.le_of_ble_eq_true rfl) dX6_improve_17 ⟨Nat.le_of_ble_eq_true rfl, Nat.le_of_ble_eq_true rfl⟩ (fun r_27 u_26 H locs hu_26 hP hD hS => ?_)
    have hP : va_P (dC, dI) cls [(M, .inr (6, [.int 1, .int 0, .int 0, .int 0, .int 0, .ref a0, .ref a1, .ref a2, .ref a3, .int 0, .null, .long 0]))] H := hP
    have hD : va_D A [(M, .inr (6, [.int 1, .int 0, .int 0, .int 0, .int 0, .ref a0, .ref a1, .ref a2, .ref a3, .int 0, .null, .long 0]))] := hD
    obtain rfl := hu_26
    refine W.widen (k := 0) (n := 0) (Nat.le_of_ble_eq_true rfl) (Nat.le_of_ble_eq_true rfl) ?_
    have hP := hP.sub (ws' := [(M, .inr (6, [.int 1, .int 0, .int 0, .int 0, .int 0, .ref a0, .ref a1, .ref a2, .ref a3, .int 0, .null, .long 0]))]) [0] rfl
    have hD := hD.sub (ws' := [(M, .inr (6, [.int 1, .int 0, .int 0, .int 0, .int 0, .ref a0, .ref a1, .ref a2, .ref a3, .int 0, .null, .long 0]))]) [0] (by decide) rfl
    have hP9 := hP
    have hD9 := hD
    exact W.iret (v := 0) hx hb hr (fun t9 ht9 hW9 => ⟨⟨_, (1, 0, 0, .null), rfl, ⟨(show (1 : Int32) = b01 (outF p0 1 10) by simp [b01, (show outF p0 1 10 = true from bz0 c_2)]), (fun _ => rfl)⟩, by rw [ht9]; exact hP9, va_K.moved hW9.alike hK, hD9⟩, hS.F ht9⟩) hS.2.2 dX6_improve_20
set_option maxHeartbeats 4000000 in
set_option maxRecDepth 100000 in
theorem c_X6_advance (l : Launch) (dC : Nat → ClassId) (dI : Nat → Nat → Nat) (cI cV cJ cL : ClassId) (M a0 a1 a2 a3 : Nat) (p0 : Int32)  (sz : Nat) : Met l yX6_advance (Cond.code yX6_advance cX6_advance 3 (some .int) :: TB) ({ frames := 2, cells := 0, slots := 0, locals := 46 } : Room) (PW [.ref M, .int p0] (dC, dI) [(M, .inr (6, [.int 0, .int 0, .int 0, .int 0, .int 0, .ref a0, .ref a1, .ref a2, .ref a3, .int 0, .null, .long 0]))] (TYP cI cV cJ cL) sz) (va_Qi (fun (r : Int32) (u : Int32 × Int32 × Int32 × Value) => u.1 = b01 (outF p0 1 1440) ∧ (b01 (outF p0 1 1440) = 0 → r = 0)) (QB (dC, dI) (fun (u : Int32 × Int32 × Int32 × Value) => [(M, .inr (6, [.int u.1, .int u.2.1, .int 0, .int 0, .int u.2.2.1, .ref a0, .ref a1, .ref a2, .ref a3, .int 0, u.2.2.2, .long 0]))]) (TYP cI cV cJ cL) (va_A [(M, .inr (6, [.int 0, .int 0, .int 0, .int 0, .int 0, .ref a0, .ref a1, .ref a2, .ref a3, .int 0, .null, .long 0]))] sz)) (va_A [(M, .inr (6, [.int 0, .int 0, .int 0, .int 0, .int 0, .ref a0, .ref a1, .ref a2, .ref a3, .int 0, .null, .long 0]))] sz)) 0 0 (va_A [(M, .inr (6, [.int 0, .int 0, .int 0, .int 0, .int 0, .ref a0, .ref a1, .ref a2, .ref a3, .int 0, .null, .long 0]))] sz) := by
  refine Met.ofW (cc := cX6_advance) (maxL := 3) (ret := (some .int)) (by decide) rfl ?_
  intro p e s m args below meth c s₁ B hml hv
  obtain ⟨rfl, hsz, hP, hK, hD0, hN⟩ := hv
  have hx := B.exec
  have hb := B.bytes
  have hr := B.returns
  have hts := atoms_spec (ws := (Cond.code yX6_advance cX6_advance 3 (some .int) :: TB)) B.pre
  have hown : s.vm.findClass RX6 = some m.cls := findClass_of_methodNamed B.named
  have hlocks := B.notSynchronized
  subst hsz
  have hD := hD0.self (sz := s.heap.size)
  generalize hAe : va_A [(M, .inr (6, [.int 0, .int 0, .int 0, .int 0, .int 0, .ref a0, .ref a1, .ref a2, .ref a3, .int 0, .null, .long 0]))] s.heap.size = A at hD ⊢
  have hA : ∀ q : Nat, s.heap.size ≤ q → A q := fun q h => by rw [← hAe]; exact Or.inr h
  have hS : va_S A s.heap s.heap [] := va_S.rf
  have hl := lv_entry ([.ref M, .int p0]) (n := 3) (Nat.le_of_ble_eq_true rfl)
  rw [lg_entry_eq]
  generalize (lg_sl ([.ref M, .int p0]) ++ List.replicate (3 - (lg_sl ([.ref M, .int p0])).length) Slot.unset).toArray = ls at hl ⊢
  have hl : lv_has ls 3 [(0, .ref M), (1, .int p0)] := hl
  refine lv_aload_n hx hb dX6_advance_0 rfl (lv_at hl 0 rfl) ?_
  refine lv_iconst (v := 0) hx hb dX6_advance_1 (by decide) ?_
  refine va_put (D := (dC, dI)) (ci := 6) (v := .int 0) (ty := .int) (C := RX6) (T := TX6) (N := 12) hx hb hts (fun w h => tb_in (inX6 w h)) tyX6 tyX6_ok nmX6 hown hK hP hD hS 0 rfl rfl 0 (by decide) (hts _ (tb_in q_fl_X6_24)) (fun _ h9 => h9) rfl (by decide +kernel) rfl rfl (Nat.le_of_ble_eq_true rfl) dX6_advance_2 (fun H locs hP hD hS => ?_)
  have hP : va_P (dC, dI) cls [(M, .inr (6, [.int 0, .int 0, .int 0, .int 0, .int 0, .ref a0, .ref a1, .ref a2, .ref a3, .int 0, .null, .long 0]))] H := hP
  have hD : va_D A [(M, .inr (6, [.int 0, .int 0, .int 0, .int 0, .int 0, .ref a0, .ref a1, .ref a2, .ref a3, .int 0, .null, .long 0]))] := hD
  refine lv_iload_n hx hb dX6_advance_5 rfl (lv_at hl 1 rfl) ?_
  refine lv_iconst (v := 1) hx hb dX6_advance_6 (by decide) ?_
  refine lv_sipush (v := 1440) hx hb dX6_advance_7 (by decide) ?_
  refine k_Ti [.int p0, .int 1, .int 1440] ⟨hx, hb, hml, hown, hts⟩ (c_X6_is l p0 1 1440) q_ml_X6_31 q_st_X6_is q_ini_X6 q_co_X6_is (n := 3) (by decide +kernel) rfl ⟨rfl, rfl⟩ ⟨Nat.le_of_ble_eq_true rfl, Nat.le_of_ble_eq_true rfl⟩ hl.1 rfl (Nat.le_of_ble_eq_true rfl) dX6_advance_10 ⟨Nat.le_of_ble_eq_true rfl, Nat.le_of_ble_eq_true rfl⟩ (fun r_1 hr_1 => ?_)
  subst hr_1
  refine lv_if_ne (tgt := 22) hx hb dX6_advance_13 (by decide) (fun c_2 => ?_) (fun c_2 => ?_)
  · refine lv_aload_n hx hb dX6_advance_22 rfl (lv_at hl 0 rfl) ?_
    refine va_get (D := (dC, dI)) (ci := 6) (v := .int 0) (C := RX6) (T := TX6) (N := 12) hx hb hts (fun w h => tb_in (inX6 w h)) hown hK hP 0 rfl rfl 4 (by decide) (hts _ (tb_in q_fl_X6_73)) (fun _ h9 => h9) rfl dX6_advance_23 ?_
    refine lv_iload_n hx hb dX6_advance_26 rfl (lv_at hl 1 rfl) ?_
    refine lv_iadd hx hb dX6_advance_27 ?_
    refine k_st1 (y := p0) (Int32.zero_add p0) ?_
    refine lv_sipush (v := 1440) hx hb dX6_advance_28 (by decide) ?_
    refine lv_icmp_gt (tgt := 41) hx hb dX6_advance_31 (by decide) (fun c_3 => ?_) (fun c_3 => ?_)
    · exact absurd c_3 (z_top (show outF p0 1 1440 = false from bz1 c_2))
    · refine lv_aload_n hx hb dX6_advance_34 rfl (lv_at hl 0 rfl) ?_
      refine n_Vz (ci := 6) (q0 := 0) (wc := [(M, .inr (6, [.int 0, .int 0, .int 0, .int 0, .int 0, .ref a0, .ref a1, .ref a2, .ref a3, .int 0, .null, .long 0]))]) (wr := []) [] [0] [] ⟨hx, hb, hml, hown, hts⟩ (fun sz => c_X6_areRight l dC dI cI cV cJ cL M a0 a1 a2 a3 0 0 0 (.null) 0  sz) q_ml_X6_180 q_im_X6_areRight q_se_X6_areRight q_ini_X6 q_co_X6_areRight (n := 0) (by decide +kernel) rfl ⟨rfl, rfl⟩ ⟨Nat.le_of_ble_eq_true rfl, Nat.le_of_ble_eq_true rfl⟩ hP hD hS hA hK hN rfl rfl (by decide) (by decide) (by decide) rfl rfl rfl hl.1 rfl (Nat.le_of_ble_eq_true rfl) dX6_advance_35 ⟨Nat.le_of_ble_eq_true rfl, Nat.le_of_ble_eq_true rfl⟩ (fun r_5 u_4 H locs hu_4 hP hD hS => ?_)
      have hP : va_P (dC, dI) cls [(M, .inr (6, [.int 0, .int 0, .int 0, .int 0, .int 0, .ref a0, .ref a1, .ref a2, .ref a3, .int 0, .null, .long 0]))] H := hP
      have hD : va_D A [(M, .inr (6, [.int 0, .int 0, .int 0, .int 0, .int 0, .ref a0, .ref a1, .ref a2, .ref a3, .int 0, .null, .long 0]))] := hD
      obtain rfl := hu_4
      refine lv_if_ne (tgt := 47) hx hb dX6_advance_38 (by decide) (fun c_6 => ?_) (fun c_6 => ?_)
      rotate_left
      · first | exact absurd c_6 (by decide) | exact absurd (by decide) c_6
      refine lv_aload_n hx hb dX6_advance_47 rfl (lv_at hl 0 rfl) ?_
      refine n_Vi (ci := 6) (q0 := 0) (wc := [(M, .inr (6, [.int 0, .int 0, .int 0, .int 0, .int 0, .ref a0, .ref a1, .ref a2, .ref a3, .int 0, .null, .long 0]))]) (wr := []) [] [0] [] ⟨hx, hb, hml, hown, hts⟩ (fun sz => c_X6_setNow l dC dI cI cV cJ cL M a0 a1 a2 a3 0 0 0 (.null) 0  sz) q_ml_X6_216 q_im_X6_setNow q_se_X6_setNow q_ini_X6 q_co_X6_setNow (n := 0) (by decide +kernel) rfl ⟨rfl, rfl⟩ ⟨Nat.le_of_ble_eq_true rfl, Nat.le_of_ble_eq_true rfl⟩ hP hD hS hA hK hN rfl rfl (by decide) (by decide) (by decide) rfl rfl rfl hl.1 rfl (Nat.le_of_ble_eq_true rfl) dX6_advance_48 ⟨Nat.le_of_ble_eq_true rfl, Nat.le_of_ble_eq_true rfl⟩ (fun r_8 u_7 H locs hu_7 hP hD hS => ?_)
      have hP : va_P (dC, dI) cls [(M, .inr (6, [.int 0, .int 0, .int 0, .int 0, .int 0, .ref a0, .ref a1, .ref a2, .ref a3, .int 0, .null, .long 0]))] H := hP
      have hD : va_D A [(M, .inr (6, [.int 0, .int 0, .int 0, .int 0, .int 0, .ref a0, .ref a1, .ref a2, .ref a3, .int 0, .null, .long 0]))] := hD
      obtain rfl := hu_7
      refine lv_istore_n (lv' := [(2, .int 0), (0, .ref M), (1, .int p0)]) hx hb dX6_advance_51 rfl hl (by decide) rfl (fun ls hl => ?_)
      refine lv_aload_n hx hb dX6_advance_52 rfl (lv_at hl 1 rfl) ?_
      refine lv_dup hx hb dX6_advance_53 rfl ?_
      refine va_get (D := (dC, dI)) (ci := 6) (v := .int 0) (C := RX6) (T := TX6) (N := 12) hx hb hts (fun w h => tb_in (inX6 w h)) hown hK hP 0 rfl rfl 4 (by decide) (hts _ (tb_in q_fl_X6_73)) (fun _ h9 => h9) rfl dX6_advance_54 ?_
      refine lv_iload_n hx hb dX6_advance_57 rfl (lv_at hl 2 rfl) ?_
      refine lv_iadd hx hb dX6_advance_58 ?_
      refine k_st1 (y := p0) (Int32.zero_add p0) ?_
      refine va_put (D := (dC, dI)) (ci := 6) (v := .int p0) (ty := .int) (C := RX6) (T := TX6) (N := 12) hx hb hts (fun w h => tb_in (inX6 w h)) tyX6 tyX6_ok nmX6 hown hK hP hD hS 0 rfl rfl 4 (by decide) (hts _ (tb_in q_fl_X6_73)) (fun _ h9 => h9) rfl (by decide +kernel) rfl rfl (Nat.le_of_ble_eq_true rfl) dX6_advance_59 (fun H locs hP hD hS => ?_)
      have hP : va_P (dC, dI) cls [(M, .inr (6, [.int 0, .int 0, .int 0, .int 0, .int p0, .ref a0, .ref a1, .ref a2, .ref a3, .int 0, .null, .long 0]))] H := hP
      have hD : va_D A [(M, .inr (6, [.int 0, .int 0, .int 0, .int 0, .int p0, .ref a0, .ref a1, .ref a2, .ref a3, .int 0, .null, .long 0]))] := hD
      refine lv_aload_n hx hb dX6_advance_62 rfl (lv_at hl 1 rfl) ?_
      refine n_Vi (ci := 6) (q0 := 0) (wc := [(M, .inr (6, [.int 0, .int 0, .int 0, .int 0, .int p0, .ref a0, .ref a1, .ref a2, .ref a3, .int 0, .null, .long 0]))]) (wr := []) [] [0] [] ⟨hx, hb, hml, hown, hts⟩ (fun sz => c_X6_setNow l dC dI cI cV cJ cL M a0 a1 a2 a3 0 p0 0 (.null) 0  sz) q_ml_X6_216 q_im_X6_setNow q_se_X6_setNow q_ini_X6 q_co_X6_setNow (n := 0) (by decide +kernel) rfl ⟨rfl, rfl⟩ ⟨Nat.le_of_ble_eq_true rfl, Nat.le_of_ble_eq_true rfl⟩ hP hD hS hA hK hN rfl rfl (by decide) (by decide) (by decide) rfl rfl rfl hl.1 rfl (Nat.le_of_ble_eq_true rfl) dX6_advance_63 ⟨Nat.le_of_ble_eq_true rfl, Nat.le_of_ble_eq_true rfl⟩ (fun r_10 u_9 H locs hu_9 hP hD hS => ?_)
      have hP : va_P (dC, dI) cls [(M, .inr (6, [.int 0, .int 0, .int 0, .int 0, .int p0, .ref a0, .ref a1, .ref a2, .ref a3, .int 0, .null, .long 0]))] H := hP
      have hD : va_D A [(M, .inr (6, [.int 0, .int 0, .int 0, .int 0, .int p0, .ref a0, .ref a1, .ref a2, .ref a3, .int 0, .null, .long 0]))] := hD
      obtain rfl := hu_9
      refine lv_iload_n hx hb dX6_advance_66 rfl (lv_at hl 0 rfl) ?_
      refine lv_isub hx hb dX6_advance_67 ?_
      refine k_st1 (y := 0) (by decide) ?_
      refine W.widen (k := 0) (n := 0) (Nat.le_of_ble_eq_true rfl) (Nat.le_of_ble_eq_true rfl) ?_
      have hP := hP.sub (ws' := [(M, .inr (6, [.int 0, .int 0, .int 0, .int 0, .int p0, .ref a0, .ref a1, .ref a2, .ref a3, .int 0, .null, .long 0]))]) [0] rfl
      have hD := hD.sub (ws' := [(M, .inr (6, [.int 0, .int 0, .int 0, .int 0, .int p0, .ref a0, .ref a1, .ref a2, .ref a3, .int 0, .null, .long 0]))]) [0] (by decide) rfl
      have hP9 := hP
      have hD9 := hD
      exact W.iret (v := 0) hx hb hr (fun t9 ht9 hW9 => ⟨⟨_, (0, 0, p0, .null), rfl, ⟨(show (0 : Int32) = b01 (outF p0 1 1440) by simp [b01, (show outF p0 1 1440 = false from bz1 c_2)]), (fun _ => rfl)⟩, by rw [ht9]; exact hP9, va_K.moved hW9.alike hK, hD9⟩, hS.F ht9⟩) hS.2.2 dX6_advance_68
  · refine lv_aload_n hx hb dX6_advance_16 rfl (lv_at hl 0 rfl) ?_
    refine lv_iconst (v := 1) hx hb dX6_advance_17 (by decide) ?_
    refine n_Vi (ci := 6) (q0 := 0) (wc := [(M, .inr (6, [.int 0, .int 0, .int 0, .int 0, .int 0, .ref a0, .ref a1, .ref a2, .ref a3, .int 0, .null, .long 0]))]) (wr := []) [.int 1] [0] [] ⟨hx, hb, hml, hown, hts⟩ (fun sz => c_X6_refuse l dC dI cI cV cJ cL M a0 a1 a2 a3 0 0 0 (.null) 0 1 sz) q_ml_X6_171 q_im_X6_refuse q_se_X6_refuse q_ini_X6 q_co_X6_refuse (n := 1) (by decide +kernel) rfl ⟨rfl, rfl⟩ ⟨Nat.le_of_ble_eq_true rfl, Nat.le_of_ble_eq_true rfl⟩ hP hD hS hA hK hN rfl rfl (by decide) (by decide) (by decide) rfl rfl rfl hl.1 rfl (Nat.le_of_ble_eq_true rfl) dX6_advance_18 ⟨Nat.le_of_ble_eq_true rfl, Nat.le_of_ble_eq_true rfl⟩ (fun r_12 u_11 H locs hu_11 hP hD hS => ?_)
    have hP : va_P (dC, dI) cls [(M, .inr (6, [.int 1, .int 0, .int 0, .int 0, .int 0, .ref a0, .ref a1, .ref a2, .ref a3, .int 0, .null, .long 0]))] H := hP
    have hD : va_D A [(M, .inr (6, [.int 1, .int 0, .int 0, .int 0, .int 0, .ref a0, .ref a1, .ref a2, .ref a3, .int 0, .null, .long 0]))] := hD
    obtain rfl := hu_11
    refine W.widen (k := 0) (n := 0) (Nat.le_of_ble_eq_true rfl) (Nat.le_of_ble_eq_true rfl) ?_
    have hP := hP.sub (ws' := [(M, .inr (6, [.int 1, .int 0, .int 0, .int 0, .int 0, .ref a0, .ref a1, .ref a2, .ref a3, .int 0, .null, .long 0]))]) [0] rfl
    have hD := hD.sub (ws' := [(M, .inr (6, [.int 1, .int 0, .int 0, .int 0, .int 0, .ref a0, .ref a1, .ref a2, .ref a3, .int 0, .null, .long 0]))]) [0] (by decide) rfl
    have hP9 := hP
    have hD9 := hD
    exact W.iret (v := 0) hx hb hr (fun t9 ht9 hW9 => ⟨⟨_, (1, 0, 0, .null), rfl, ⟨(show (1 : Int32) = b01 (outF p0 1 1440) by simp [b01, (show outF p0 1 1440 = true from bz0 c_2)]), (fun _ => rfl)⟩, by rw [ht9]; exact hP9, va_K.moved hW9.alike hK, hD9⟩, hS.F ht9⟩) hS.2.2 dX6_advance_21
set_option maxHeartbeats 4000000 in
set_option maxRecDepth 100000 in
theorem c_X6_addPlace (l : Launch) (dC : Nat → ClassId) (dI : Nat → Nat → Nat) (cI cV cJ cL : ClassId) (M a0 a1 a2 a3 : Nat) (p0 p1 : Int32)  (sz : Nat) : Met l yX6_addPlace (Cond.code yX6_addPlace cX6_addPlace 4 (some .int) :: TB) ({ frames := 2, cells := 1, slots := 2, locals := 45 } : Room) (PW [.ref M, .int p0, .int p1] (dC, dI) [(M, .inr (6, [.int 0, .int 0, .int 0, .int 0, .int 0, .ref a0, .ref a1, .ref a2, .ref a3, .int 0, .null, .long 0])), (a0, .inl (cJ, 12, .inr (.inr (.inr (.inr (fun _ => none))))))] (TYP cI cV cJ cL) sz) (va_Qi (fun (r : Int32) (u : Int32 × Int32 × Int32 × Value) => u.1 = b01 (outF p0 0 60 || outF p1 0 60) ∧ (b01 (outF p0 0 60 || outF p1 0 60) = 0 → r = 0)) (QB (dC, dI) (fun (u : Int32 × Int32 × Int32 × Value) => [(M, .inr (6, [.int u.1, .int u.2.1, .int 0, .int 0, .int u.2.2.1, .ref a0, .ref a1, .ref a2, .ref a3, .int 0, u.2.2.2, .long 0]))]) (TYP cI cV cJ cL) (va_A [(M, .inr (6, [.int 0, .int 0, .int 0, .int 0, .int 0, .ref a0, .ref a1, .ref a2, .ref a3, .int 0, .null, .long 0])), (a0, .inl (cJ, 12, .inr (.inr (.inr (.inr (fun _ => none))))))] sz)) (va_A [(M, .inr (6, [.int 0, .int 0, .int 0, .int 0, .int 0, .ref a0, .ref a1, .ref a2, .ref a3, .int 0, .null, .long 0])), (a0, .inl (cJ, 12, .inr (.inr (.inr (.inr (fun _ => none))))))] sz)) 1 2 (va_A [(M, .inr (6, [.int 0, .int 0, .int 0, .int 0, .int 0, .ref a0, .ref a1, .ref a2, .ref a3, .int 0, .null, .long 0])), (a0, .inl (cJ, 12, .inr (.inr (.inr (.inr (fun _ => none))))))] sz) := by
  refine Met.ofW (cc := cX6_addPlace) (maxL := 4) (ret := (some .int)) (by decide) rfl ?_
  intro p e s m args below meth c s₁ B hml hv
  obtain ⟨rfl, hsz, hP, hK, hD0, hN⟩ := hv
  have hx := B.exec
  have hb := B.bytes
  have hr := B.returns
  have hts := atoms_spec (ws := (Cond.code yX6_addPlace cX6_addPlace 4 (some .int) :: TB)) B.pre
  have hown : s.vm.findClass RX6 = some m.cls := findClass_of_methodNamed B.named
  have hlocks := B.notSynchronized
  subst hsz
  have hD := hD0.self (sz := s.heap.size)
  generalize hAe : va_A [(M, .inr (6, [.int 0, .int 0, .int 0, .int 0, .int 0, .ref a0, .ref a1, .ref a2, .ref a3, .int 0, .null, .long 0])), (a0, .inl (cJ, 12, .inr (.inr (.inr (.inr (fun _ => none))))))] s.heap.size = A at hD ⊢
  have hA : ∀ q : Nat, s.heap.size ≤ q → A q := fun q h => by rw [← hAe]; exact Or.inr h
  have hS : va_S A s.heap s.heap [] := va_S.rf
  have hl := lv_entry ([.ref M, .int p0, .int p1]) (n := 4) (Nat.le_of_ble_eq_true rfl)
  rw [lg_entry_eq]
  generalize (lg_sl ([.ref M, .int p0, .int p1]) ++ List.replicate (4 - (lg_sl ([.ref M, .int p0, .int p1])).length) Slot.unset).toArray = ls at hl ⊢
  have hl : lv_has ls 4 [(0, .ref M), (1, .int p0), (2, .int p1)] := hl
  refine lv_aload_n hx hb dX6_addPlace_0 rfl (lv_at hl 0 rfl) ?_
  refine lv_iconst (v := 0) hx hb dX6_addPlace_1 (by decide) ?_
  refine va_put (D := (dC, dI)) (ci := 6) (v := .int 0) (ty := .int) (C := RX6) (T := TX6) (N := 12) hx hb hts (fun w h => tb_in (inX6 w h)) tyX6 tyX6_ok nmX6 hown hK hP hD hS 0 rfl rfl 0 (by decide) (hts _ (tb_in q_fl_X6_24)) (fun _ h9 => h9) rfl (by decide +kernel) rfl rfl (Nat.le_of_ble_eq_true rfl) dX6_addPlace_2 (fun H locs hP hD hS => ?_)
  have hP : va_P (dC, dI) cls [(M, .inr (6, [.int 0, .int 0, .int 0, .int 0, .int 0, .ref a0, .ref a1, .ref a2, .ref a3, .int 0, .null, .long 0])), (a0, .inl (cJ, 12, .inr (.inr (.inr (.inr (fun _ => none))))))] H := hP
  have hD : va_D A [(M, .inr (6, [.int 0, .int 0, .int 0, .int 0, .int 0, .ref a0, .ref a1, .ref a2, .ref a3, .int 0, .null, .long 0])), (a0, .inl (cJ, 12, .inr (.inr (.inr (.inr (fun _ => none))))))] := hD
  refine lv_iload_n hx hb dX6_addPlace_5 rfl (lv_at hl 1 rfl) ?_
  refine lv_iconst (v := 0) hx hb dX6_addPlace_6 (by decide) ?_
  refine lv_bipush (v := 60) hx hb dX6_addPlace_7 (by decide) ?_
  refine k_Ti [.int p0, .int 0, .int 60] ⟨hx, hb, hml, hown, hts⟩ (c_X6_is l p0 0 60) q_ml_X6_31 q_st_X6_is q_ini_X6 q_co_X6_is (n := 3) (by decide +kernel) rfl ⟨rfl, rfl⟩ ⟨Nat.le_of_ble_eq_true rfl, Nat.le_of_ble_eq_true rfl⟩ hl.1 rfl (Nat.le_of_ble_eq_true rfl) dX6_addPlace_9 ⟨Nat.le_of_ble_eq_true rfl, Nat.le_of_ble_eq_true rfl⟩ (fun r_1 hr_1 => ?_)
  subst hr_1
  refine lv_if_eq (tgt := 25) hx hb dX6_addPlace_12 (by decide) (fun c_2 => ?_) (fun c_2 => ?_)
  · refine lv_aload_n hx hb dX6_addPlace_25 rfl (lv_at hl 0 rfl) ?_
    refine lv_iconst (v := 1) hx hb dX6_addPlace_26 (by decide) ?_
    refine n_Vi (ci := 6) (q0 := 0) (wc := [(M, .inr (6, [.int 0, .int 0, .int 0, .int 0, .int 0, .ref a0, .ref a1, .ref a2, .ref a3, .int 0, .null, .long 0]))]) (wr := [(a0, .inl (cJ, 12, .inr (.inr (.inr (.inr (fun _ => none))))))]) [.int 1] [0] [1] ⟨hx, hb, hml, hown, hts⟩ (fun sz => c_X6_refuse l dC dI cI cV cJ cL M a0 a1 a2 a3 0 0 0 (.null) 0 1 sz) q_ml_X6_171 q_im_X6_refuse q_se_X6_refuse q_ini_X6 q_co_X6_refuse (n := 1) (by decide +kernel) rfl ⟨rfl, rfl⟩ ⟨Nat.le_of_ble_eq_true rfl, Nat.le_of_ble_eq_true rfl⟩ hP hD hS hA hK hN rfl rfl (by decide) (by decide) (by decide) rfl rfl rfl hl.1 rfl (Nat.le_of_ble_eq_true rfl) dX6_addPlace_27 ⟨Nat.le_of_ble_eq_true rfl, Nat.le_of_ble_eq_true rfl⟩ (fun r_4 u_3 H locs hu_3 hP hD hS => ?_)
    have hP : va_P (dC, dI) cls [(a0, .inl (cJ, 12, .inr (.inr (.inr (.inr (fun _ => none)))))), (M, .inr (6, [.int 1, .int 0, .int 0, .int 0, .int 0, .ref a0, .ref a1, .ref a2, .ref a3, .int 0, .null, .long 0]))] H := hP
    have hD : va_D A [(a0, .inl (cJ, 12, .inr (.inr (.inr (.inr (fun _ => none)))))), (M, .inr (6, [.int 1, .int 0, .int 0, .int 0, .int 0, .ref a0, .ref a1, .ref a2, .ref a3, .int 0, .null, .long 0]))] := hD
    obtain rfl := hu_3
    refine W.widen (k := 1) (n := 2) (Nat.le_of_ble_eq_true rfl) (Nat.le_of_ble_eq_true rfl) ?_
    have hP := hP.sub (ws' := [(M, .inr (6, [.int 1, .int 0, .int 0, .int 0, .int 0, .ref a0, .ref a1, .ref a2, .ref a3, .int 0, .null, .long 0]))]) [1] rfl
    have hD := hD.sub (ws' := [(M, .inr (6, [.int 1, .int 0, .int 0, .int 0, .int 0, .ref a0, .ref a1, .ref a2, .ref a3, .int 0, .null, .long 0]))]) [1] (by decide) rfl
    have hP9 := hP
    have hD9 := hD
    exact W.iret (v := 0) hx hb hr (fun t9 ht9 hW9 => ⟨⟨_, (1, 0, 0, .null), rfl, ⟨(show (1 : Int32) = b01 (outF p0 0 60 || outF p1 0 60) by simp [b01, (show outF p0 0 60 = true from bz0 c_2)]), (fun _ => rfl)⟩, by rw [ht9]; exact hP9, va_K.moved hW9.alike hK, hD9⟩, hS.F ht9⟩) hS.2.2 dX6_addPlace_30
  · refine lv_iload_n hx hb dX6_addPlace_15 rfl (lv_at hl 2 rfl) ?_
    refine lv_iconst (v := 0) hx hb dX6_addPlace_16 (by decide) ?_
    refine lv_bipush (v := 60) hx hb dX6_addPlace_17 (by decide) ?_
    refine k_Ti [.int p1, .int 0, .int 60] ⟨hx, hb, hml, hown, hts⟩ (c_X6_is l p1 0 60) q_ml_X6_31 q_st_X6_is q_ini_X6 q_co_X6_is (n := 3) (by decide +kernel) rfl ⟨rfl, rfl⟩ ⟨Nat.le_of_ble_eq_true rfl, Nat.le_of_ble_eq_true rfl⟩ hl.1 rfl (Nat.le_of_ble_eq_true rfl) dX6_addPlace_19 ⟨Nat.le_of_ble_eq_true rfl, Nat.le_of_ble_eq_true rfl⟩ (fun r_5 hr_5 => ?_)
    subst hr_5
    refine lv_if_ne (tgt := 31) hx hb dX6_addPlace_22 (by decide) (fun c_6 => ?_) (fun c_6 => ?_)
    · refine lv_aload_n hx hb dX6_addPlace_31 rfl (lv_at hl 0 rfl) ?_
      refine va_get (D := (dC, dI)) (ci := 6) (v := .int 0) (C := RX6) (T := TX6) (N := 12) hx hb hts (fun w h => tb_in (inX6 w h)) hown hK hP 0 rfl rfl 1 (by decide) (hts _ (tb_in q_fl_X6_28)) (fun _ h9 => h9) rfl dX6_addPlace_32 ?_
      refine lv_bipush (v := 12) hx hb dX6_addPlace_35 (by decide) ?_
      refine lv_icmp_ne (tgt := 46) hx hb dX6_addPlace_37 (by decide) (fun c_7 => ?_) (fun c_7 => ?_)
      rotate_left
      · first | exact absurd c_7 (by decide) | exact absurd (by decide) c_7
      refine lv_iconst (v := 2) hx hb dX6_addPlace_46 (by decide) ?_
      refine k_newI hx hb (hts _ (tb_in q_ac_int)) hK hP hD hS hA 0 rfl (n := 2) (N' := 2) (by decide) (by decide) (Nat.le_of_ble_eq_true rfl) (Nat.le_of_ble_eq_true rfl) (Nat.le_of_ble_eq_true rfl) dX6_addPlace_47 (fun q_8 H hP hD hS => ?_)
      have hP : va_P (dC, dI) cls [(M, .inr (6, [.int 0, .int 0, .int 0, .int 0, .int 0, .ref a0, .ref a1, .ref a2, .ref a3, .int 0, .null, .long 0])), (a0, .inl (cJ, 12, .inr (.inr (.inr (.inr (fun _ => none)))))), (q_8, .inl (cI, 2, .inl (fun _ => 0)))] H := hP
      have hD : va_D A [(M, .inr (6, [.int 0, .int 0, .int 0, .int 0, .int 0, .ref a0, .ref a1, .ref a2, .ref a3, .int 0, .null, .long 0])), (a0, .inl (cJ, 12, .inr (.inr (.inr (.inr (fun _ => none)))))), (q_8, .inl (cI, 2, .inl (fun _ => 0)))] := hD
      refine lv_dup hx hb dX6_addPlace_49 rfl ?_
      refine lv_iconst (v := 0) hx hb dX6_addPlace_50 (by decide) ?_
      refine lv_iload_n hx hb dX6_addPlace_51 rfl (lv_at hl 1 rfl) ?_
      refine va_iast (D := (dC, dI)) hx hb hK hP hD hS 2 0 rfl rfl (i := 0) (n := 2) (vpd (by decide)) dX6_addPlace_52 (fun H locs hP hD hS => ?_)
      have hP : va_P (dC, dI) cls [(M, .inr (6, [.int 0, .int 0, .int 0, .int 0, .int 0, .ref a0, .ref a1, .ref a2, .ref a3, .int 0, .null, .long 0])), (a0, .inl (cJ, 12, .inr (.inr (.inr (.inr (fun _ => none)))))), (q_8, .inl (cI, 2, .inl (upd (fun _ => 0) (0 : Int32).toNatClampNeg p0)))] H := hP
      have hD : va_D A [(M, .inr (6, [.int 0, .int 0, .int 0, .int 0, .int 0, .ref a0, .ref a1, .ref a2, .ref a3, .int 0, .null, .long 0])), (a0, .inl (cJ, 12, .inr (.inr (.inr (.inr (fun _ => none)))))), (q_8, .inl (cI, 2, .inl (upd (fun _ => 0) (0 : Int32).toNatClampNeg p0)))] := hD
      refine lv_dup hx hb dX6_addPlace_53 rfl ?_
      refine lv_iconst (v := 1) hx hb dX6_addPlace_54 (by decide) ?_
      refine lv_iload_n hx hb dX6_addPlace_55 rfl (lv_at hl 2 rfl) ?_
      refine va_iast (D := (dC, dI)) hx hb hK hP hD hS 2 0 rfl rfl (i := 1) (n := 2) (vpd (by decide)) dX6_addPlace_56 (fun H locs hP hD hS => ?_)
      have hP : va_P (dC, dI) cls [(M, .inr (6, [.int 0, .int 0, .int 0, .int 0, .int 0, .ref a0, .ref a1, .ref a2, .ref a3, .int 0, .null, .long 0])), (a0, .inl (cJ, 12, .inr (.inr (.inr (.inr (fun _ => none)))))), (q_8, .inl (cI, 2, .inl (upd (upd (fun _ => 0) (0 : Int32).toNatClampNeg p0) (1 : Int32).toNatClampNeg p1)))] H := hP
      have hD : va_D A [(M, .inr (6, [.int 0, .int 0, .int 0, .int 0, .int 0, .ref a0, .ref a1, .ref a2, .ref a3, .int 0, .null, .long 0])), (a0, .inl (cJ, 12, .inr (.inr (.inr (.inr (fun _ => none)))))), (q_8, .inl (cI, 2, .inl (upd (upd (fun _ => 0) (0 : Int32).toNatClampNeg p0) (1 : Int32).toNatClampNeg p1)))] := hD
      refine lv_astore_n (lv' := [(3, .ref q_8), (0, .ref M), (1, .int p0), (2, .int p1)]) hx hb dX6_addPlace_57 rfl hl (by decide) rfl (fun ls hl => ?_)
      refine lv_aload_n hx hb dX6_addPlace_58 rfl (lv_at hl 1 rfl) ?_
      refine va_get (D := (dC, dI)) (ci := 6) (v := .ref a0) (C := RX6) (T := TX6) (N := 12) hx hb hts (fun w h => tb_in (inX6 w h)) hown hK hP 0 rfl rfl 5 (by decide) (hts _ (tb_in q_fl_X6_11)) (fun _ h9 => h9) rfl dX6_addPlace_59 ?_
      refine lv_aload_n hx hb dX6_addPlace_62 rfl (lv_at hl 1 rfl) ?_
      refine va_get (D := (dC, dI)) (ci := 6) (v := .int 0) (C := RX6) (T := TX6) (N := 12) hx hb hts (fun w h => tb_in (inX6 w h)) hown hK hP 0 rfl rfl 1 (by decide) (hts _ (tb_in q_fl_X6_28)) (fun _ h9 => h9) rfl dX6_addPlace_63 ?_
      refine lv_aload_n hx hb dX6_addPlace_66 rfl (lv_at hl 0 rfl) ?_
      refine k_astJ hx hb hN.aa hK hP hD hS 1 2 2 0 rfl rfl rfl rfl (i := 0) (vpd (by decide)) dX6_addPlace_67 (fun H locs hP hD hS => ?_)
      have hP : va_P (dC, dI) cls [(M, .inr (6, [.int 0, .int 0, .int 0, .int 0, .int 0, .ref a0, .ref a1, .ref a2, .ref a3, .int 0, .null, .long 0])), (a0, .inl (cJ, 12, .inr (.inr (.inr (.inr (va_up (fun _ => none) (0 : Int32).toNatClampNeg (some q_8))))))), (q_8, .inl (cI, 2, .inl (upd (upd (fun _ => 0) (0 : Int32).toNatClampNeg p0) (1 : Int32).toNatClampNeg p1)))] H := hP
      have hD : va_D A [(M, .inr (6, [.int 0, .int 0, .int 0, .int 0, .int 0, .ref a0, .ref a1, .ref a2, .ref a3, .int 0, .null, .long 0])), (a0, .inl (cJ, 12, .inr (.inr (.inr (.inr (va_up (fun _ => none) (0 : Int32).toNatClampNeg (some q_8))))))), (q_8, .inl (cI, 2, .inl (upd (upd (fun _ => 0) (0 : Int32).toNatClampNeg p0) (1 : Int32).toNatClampNeg p1)))] := hD
      refine lv_aload_n hx hb dX6_addPlace_68 rfl (lv_at hl 1 rfl) ?_
      refine lv_dup hx hb dX6_addPlace_69 rfl ?_
      refine va_get (D := (dC, dI)) (ci := 6) (v := .int 0) (C := RX6) (T := TX6) (N := 12) hx hb hts (fun w h => tb_in (inX6 w h)) hown hK hP 0 rfl rfl 1 (by decide) (hts _ (tb_in q_fl_X6_28)) (fun _ h9 => h9) rfl dX6_addPlace_70 ?_
      refine lv_iconst (v := 1) hx hb dX6_addPlace_73 (by decide) ?_
      refine lv_iadd hx hb dX6_addPlace_74 ?_
      refine k_st1 (y := 1) (by decide) ?_
      refine va_put (D := (dC, dI)) (ci := 6) (v := .int 1) (ty := .int) (C := RX6) (T := TX6) (N := 12) hx hb hts (fun w h => tb_in (inX6 w h)) tyX6 tyX6_ok nmX6 hown hK hP hD hS 0 rfl rfl 1 (by decide) (hts _ (tb_in q_fl_X6_28)) (fun _ h9 => h9) rfl (by decide +kernel) rfl rfl (Nat.le_of_ble_eq_true rfl) dX6_addPlace_75 (fun H locs hP hD hS => ?_)
      have hP : va_P (dC, dI) cls [(M, .inr (6, [.int 0, .int 1, .int 0, .int 0, .int 0, .ref a0, .ref a1, .ref a2, .ref a3, .int 0, .null, .long 0])), (a0, .inl (cJ, 12, .inr (.inr (.inr (.inr (va_up (fun _ => none) (0 : Int32).toNatClampNeg (some q_8))))))), (q_8, .inl (cI, 2, .inl (upd (upd (fun _ => 0) (0 : Int32).toNatClampNeg p0) (1 : Int32).toNatClampNeg p1)))] H := hP
      have hD : va_D A [(M, .inr (6, [.int 0, .int 1, .int 0, .int 0, .int 0, .ref a0, .ref a1, .ref a2, .ref a3, .int 0, .null, .long 0])), (a0, .inl (cJ, 12, .inr (.inr (.inr (.inr (va_up (fun _ => none) (0 : Int32).toNatClampNeg (some q_8))))))), (q_8, .inl (cI, 2, .inl (upd (upd (fun _ => 0) (0 : Int32).toNatClampNeg p0) (1 : Int32).toNatClampNeg p1)))] := hD
      refine lv_aload_n hx hb dX6_addPlace_78 rfl (lv_at hl 1 rfl) ?_
      refine va_get (D := (dC, dI)) (ci := 6) (v := .int 1) (C := RX6) (T := TX6) (N := 12) hx hb hts (fun w h => tb_in (inX6 w h)) hown hK hP 0 rfl rfl 1 (by decide) (hts _ (tb_in q_fl_X6_28)) (fun _ h9 => h9) rfl dX6_addPlace_79 ?_
      refine lv_iconst (v := 1) hx hb dX6_addPlace_82 (by decide) ?_
      refine lv_isub hx hb dX6_addPlace_83 ?_
      refine k_st1 (y := 0) (by decide) ?_
      refine W.widen (k := 1) (n := 2) (Nat.le_of_ble_eq_true rfl) (Nat.le_of_ble_eq_true rfl) ?_
      have hP := hP.sub (ws' := [(M, .inr (6, [.int 0, .int 1, .int 0, .int 0, .int 0, .ref a0, .ref a1, .ref a2, .ref a3, .int 0, .null, .long 0]))]) [0] rfl
      have hD := hD.sub (ws' := [(M, .inr (6, [.int 0, .int 1, .int 0, .int 0, .int 0, .ref a0, .ref a1, .ref a2, .ref a3, .int 0, .null, .long 0]))]) [0] (by decide) rfl
      have hP9 := hP
      have hD9 := hD
      exact W.iret (v := 0) hx hb hr (fun t9 ht9 hW9 => ⟨⟨_, (0, 1, 0, .null), rfl, ⟨(show (0 : Int32) = b01 (outF p0 0 60 || outF p1 0 60) by simp [b01, (show outF p0 0 60 = false from bz1 c_2), (show outF p1 0 60 = false from bz1 c_6)]), (fun _ => rfl)⟩, by rw [ht9]; exact hP9, va_K.moved hW9.alike hK, hD9⟩, hS.F ht9⟩) hS.2.2 dX6_addPlace_84
    · refine lv_aload_n hx hb dX6_addPlace_25 rfl (lv_at hl 0 rfl) ?_
      refine lv_iconst (v := 1) hx hb dX6_addPlace_26 (by decide) ?_
      refine n_Vi (ci := 6) (q0 := 0) (wc := [(M, .inr (6, [.int 0, .int 0, .int 0, .int 0, .int 0, .ref a0, .ref a1, .ref a2, .ref a3, .int 0, .null, .long 0]))]) (wr := [(a0, .inl (cJ, 12, .inr (.inr (.inr (.inr (fun _ => none))))))]) [.int 1] [0] [1] ⟨hx, hb, hml, hown, hts⟩ (fun sz => c_X6_refuse l dC dI cI cV cJ cL M a0 a1 a2 a3 0 0 0 (.null) 0 1 sz) q_ml_X6_171 q_im_X6_refuse q_se_X6_refuse q_ini_X6 q_co_X6_refuse (n := 1) (by decide +kernel) rfl ⟨rfl, rfl⟩ ⟨Nat.le_of_ble_eq_true rfl, Nat.le_of_ble_eq_true rfl⟩ hP hD hS hA hK hN rfl rfl (by decide) (by decide) (by decide) rfl rfl rfl hl.1 rfl (Nat.le_of_ble_eq_true rfl) dX6_addPlace_27 ⟨Nat.le_of_ble_eq_true rfl, Nat.le_of_ble_eq_true rfl⟩ (fun r_10 u_9 H locs hu_9 hP hD hS => ?_)
      have hP : va_P (dC, dI) cls [(a0, .inl (cJ, 12, .inr (.inr (.inr (.inr (fun _ => none)))))), (M, .inr (6, [.int 1, .int 0, .int 0, .int 0, .int 0, .ref a0, .ref a1, .ref a2, .ref a3, .int 0, .null, .long 0]))] H := hP
      have hD : va_D A [(a0, .inl (cJ, 12, .inr (.inr (.inr (.inr (fun _ => none)))))), (M, .inr (6, [.int 1, .int 0, .int 0, .int 0, .int 0, .ref a0, .ref a1, .ref a2, .ref a3, .int 0, .null, .long 0]))] := hD
      obtain rfl := hu_9
      refine W.widen (k := 1) (n := 2) (Nat.le_of_ble_eq_true rfl) (Nat.le_of_ble_eq_true rfl) ?_
      have hP := hP.sub (ws' := [(M, .inr (6, [.int 1, .int 0, .int 0, .int 0, .int 0, .ref a0, .ref a1, .ref a2, .ref a3, .int 0, .null, .long 0]))]) [1] rfl
      have hD := hD.sub (ws' := [(M, .inr (6, [.int 1, .int 0, .int 0, .int 0, .int 0, .ref a0, .ref a1, .ref a2, .ref a3, .int 0, .null, .long 0]))]) [1] (by decide) rfl
      have hP9 := hP
      have hD9 := hD
      exact W.iret (v := 0) hx hb hr (fun t9 ht9 hW9 => ⟨⟨_, (1, 0, 0, .null), rfl, ⟨(show (1 : Int32) = b01 (outF p0 0 60 || outF p1 0 60) by simp [b01, (show outF p0 0 60 = false from bz1 c_2), (show outF p1 0 60 = true from bz0 c_6)]), (fun _ => rfl)⟩, by rw [ht9]; exact hP9, va_K.moved hW9.alike hK, hD9⟩, hS.F ht9⟩) hS.2.2 dX6_addPlace_30
set_option maxHeartbeats 4000000 in
set_option maxRecDepth 100000 in
theorem c_X6_nextToPut (l : Launch) (dC : Nat → ClassId) (dI : Nat → Nat → Nat) (cI cV cJ cL : ClassId) (M a0 a1 a2 a3 : Nat) (th ck mo : Int32) (bp : Value) (sm : Int64)  (sz : Nat) : Met l yX6_nextToPut (Cond.code yX6_nextToPut cX6_nextToPut 7 (some (.array .int)) :: TB) ({ frames := 1, cells := 1, slots := 0, locals := 24 } : Room) (PW [.ref M] (dC, dI) [(M, .inr (6, [.int th, .int 0, .int 0, .int 0, .int ck, .ref a0, .ref a1, .ref a2, .ref a3, .int mo, bp, .long sm]))] (TYP cI cV cJ cL) sz) (va_Qr (fun (_ : Unit) => True) (QR (dC, dI) (fun (_ : Unit) (a : Nat) => [(M, .inr (6, [.int th, .int 0, .int 0, .int 0, .int ck, .ref a0, .ref a1, .ref a2, .ref a3, .int mo, bp, .long sm])), (a, .inl (cI, 0, .inl (fun _ => 0)))]) (TYP cI cV cJ cL) (va_A [(M, .inr (6, [.int th, .int 0, .int 0, .int 0, .int ck, .ref a0, .ref a1, .ref a2, .ref a3, .int mo, bp, .long sm]))] sz)) (va_A [(M, .inr (6, [.int th, .int 0, .int 0, .int 0, .int ck, .ref a0, .ref a1, .ref a2, .ref a3, .int mo, bp, .long sm]))] sz)) 1 0 (va_A [(M, .inr (6, [.int th, .int 0, .int 0, .int 0, .int ck, .ref a0, .ref a1, .ref a2, .ref a3, .int mo, bp, .long sm]))] sz) := by
  refine Met.ofW (cc := cX6_nextToPut) (maxL := 7) (ret := (some (.array .int))) (by decide) rfl ?_
  intro p e s m args below meth c s₁ B hml hv
  obtain ⟨rfl, hsz, hP, hK, hD0, hN⟩ := hv
  have hx := B.exec
  have hb := B.bytes
  have hr := B.returns
  have hts := atoms_spec (ws := (Cond.code yX6_nextToPut cX6_nextToPut 7 (some (.array .int)) :: TB)) B.pre
  have hown : s.vm.findClass RX6 = some m.cls := findClass_of_methodNamed B.named
  have hlocks := B.notSynchronized
  subst hsz
  have hD := hD0.self (sz := s.heap.size)
  generalize hAe : va_A [(M, .inr (6, [.int th, .int 0, .int 0, .int 0, .int ck, .ref a0, .ref a1, .ref a2, .ref a3, .int mo, bp, .long sm]))] s.heap.size = A at hD ⊢
  have hA : ∀ q : Nat, s.heap.size ≤ q → A q := fun q h => by rw [← hAe]; exact Or.inr h
  have hS : va_S A s.heap s.heap [] := va_S.rf
  have hl := lv_entry ([.ref M]) (n := 7) (Nat.le_of_ble_eq_true rfl)
  rw [lg_entry_eq]
  generalize (lg_sl ([.ref M]) ++ List.replicate (7 - (lg_sl ([.ref M])).length) Slot.unset).toArray = ls at hl ⊢
  have hl : lv_has ls 7 [(0, .ref M)] := hl
  refine lv_iconst (v := 0) hx hb dX6_nextToPut_0 (by decide) ?_
  refine k_newI hx hb (hts _ (tb_in q_ac_int)) hK hP hD hS hA 0 rfl (n := 0) (N' := 0) (by decide) (by decide) (Nat.le_of_ble_eq_true rfl) (Nat.le_of_ble_eq_true rfl) (Nat.le_of_ble_eq_true rfl) dX6_nextToPut_1 (fun q_1 H hP hD hS => ?_)
  have hP : va_P (dC, dI) cls [(M, .inr (6, [.int th, .int 0, .int 0, .int 0, .int ck, .ref a0, .ref a1, .ref a2, .ref a3, .int mo, bp, .long sm])), (q_1, .inl (cI, 0, .inl (fun _ => 0)))] H := hP
  have hD : va_D A [(M, .inr (6, [.int th, .int 0, .int 0, .int 0, .int ck, .ref a0, .ref a1, .ref a2, .ref a3, .int mo, bp, .long sm])), (q_1, .inl (cI, 0, .inl (fun _ => 0)))] := hD
  refine lv_astore_n (lv' := [(1, .ref q_1), (0, .ref M)]) hx hb dX6_nextToPut_3 rfl hl (by decide) rfl (fun ls hl => ?_)
  refine lv_iconst (v := 0) hx hb dX6_nextToPut_4 (by decide) ?_
  refine lv_istore_n (lv' := [(2, .int 0), (1, .ref q_1), (0, .ref M)]) hx hb dX6_nextToPut_5 rfl hl (by decide) rfl (fun ls hl => ?_)
  refine lv_iconst (v := 0) hx hb dX6_nextToPut_6 (by decide) ?_
  refine lv_istore_n (lv' := [(3, .int 0), (2, .int 0), (1, .ref q_1), (0, .ref M)]) hx hb dX6_nextToPut_7 rfl hl (by decide) rfl (fun ls hl => ?_)
  refine lv_iload_n hx hb dX6_nextToPut_8 rfl (lv_at hl 0 rfl) ?_
  refine lv_aload_n hx hb dX6_nextToPut_9 rfl (lv_at hl 3 rfl) ?_
  refine va_get (D := (dC, dI)) (ci := 6) (v := .int 0) (C := RX6) (T := TX6) (N := 12) hx hb hts (fun w h => tb_in (inX6 w h)) hown hK hP 0 rfl rfl 3 (by decide) (hts _ (tb_in q_fl_X6_38)) (fun _ h9 => h9) rfl dX6_nextToPut_10 ?_
  refine lv_icmp_ge (tgt := 150) hx hb dX6_nextToPut_13 (by decide) (fun c_2 => ?_) (fun c_2 => ?_)
  rotate_left
  · first | exact absurd c_2 (by decide) | exact absurd (by decide) c_2
  refine lv_aload_n hx hb dX6_nextToPut_150 rfl (lv_at hl 2 rfl) ?_
  refine W.widen (k := 1) (n := 0) (Nat.le_of_ble_eq_true rfl) (Nat.le_of_ble_eq_true rfl) ?_
  have hP9 := hP
  have hD9 := hD
  exact W.aret (v := .ref q_1) hx hb hr (Or.inr ⟨_, rfl⟩) (Or.inr ⟨_, rfl⟩) (fun t9 ht9 hW9 => ⟨⟨(), q_1, rfl, trivial, by rw [ht9]; exact hP9, va_K.moved hW9.alike hK, hD9⟩, hS.F ht9⟩) hS.2.2 dX6_nextToPut_151
set_option maxHeartbeats 4000000 in
set_option maxRecDepth 100000 in
theorem c_X6_rebuild (l : Launch) (dC : Nat → ClassId) (dI : Nat → Nat → Nat) (cI cV cJ cL : ClassId) (M a0 a1 a2 a3 : Nat)  (sz : Nat) : Met l yX6_rebuild (Cond.code yX6_rebuild cX6_rebuild 3 (some .int) :: TB) ({ frames := 2, cells := 1, slots := 0, locals := 50 } : Room) (PW [.ref M] (dC, dI) [(M, .inr (6, [.int 0, .int 0, .int 0, .int 0, .int 0, .ref a0, .ref a1, .ref a2, .ref a3, .int 0, .null, .long 0]))] (TYP cI cV cJ cL) sz) (va_Qi (fun (r : Int32) (u : Int32 × Int32 × Int32 × Value) => u.1 = 0 ∧ (0 = 0 → r = 0)) (QB (dC, dI) (fun (u : Int32 × Int32 × Int32 × Value) => [(M, .inr (6, [.int u.1, .int u.2.1, .int 0, .int 0, .int u.2.2.1, .ref a0, .ref a1, .ref a2, .ref a3, .int 0, u.2.2.2, .long 0]))]) (TYP cI cV cJ cL) (va_A [(M, .inr (6, [.int 0, .int 0, .int 0, .int 0, .int 0, .ref a0, .ref a1, .ref a2, .ref a3, .int 0, .null, .long 0]))] sz)) (va_A [(M, .inr (6, [.int 0, .int 0, .int 0, .int 0, .int 0, .ref a0, .ref a1, .ref a2, .ref a3, .int 0, .null, .long 0]))] sz)) 1 0 (va_A [(M, .inr (6, [.int 0, .int 0, .int 0, .int 0, .int 0, .ref a0, .ref a1, .ref a2, .ref a3, .int 0, .null, .long 0]))] sz) := by
  refine Met.ofW (cc := cX6_rebuild) (maxL := 3) (ret := (some .int)) (by decide) rfl ?_
  intro p e s m args below meth c s₁ B hml hv
  obtain ⟨rfl, hsz, hP, hK, hD0, hN⟩ := hv
  have hx := B.exec
  have hb := B.bytes
  have hr := B.returns
  have hts := atoms_spec (ws := (Cond.code yX6_rebuild cX6_rebuild 3 (some .int) :: TB)) B.pre
  have hown : s.vm.findClass RX6 = some m.cls := findClass_of_methodNamed B.named
  have hlocks := B.notSynchronized
  subst hsz
  have hD := hD0.self (sz := s.heap.size)
  generalize hAe : va_A [(M, .inr (6, [.int 0, .int 0, .int 0, .int 0, .int 0, .ref a0, .ref a1, .ref a2, .ref a3, .int 0, .null, .long 0]))] s.heap.size = A at hD ⊢
  have hA : ∀ q : Nat, s.heap.size ≤ q → A q := fun q h => by rw [← hAe]; exact Or.inr h
  have hS : va_S A s.heap s.heap [] := va_S.rf
  have hl := lv_entry ([.ref M]) (n := 3) (Nat.le_of_ble_eq_true rfl)
  rw [lg_entry_eq]
  generalize (lg_sl ([.ref M]) ++ List.replicate (3 - (lg_sl ([.ref M])).length) Slot.unset).toArray = ls at hl ⊢
  have hl : lv_has ls 3 [(0, .ref M)] := hl
  refine lv_aload_n hx hb dX6_rebuild_0 rfl (lv_at hl 0 rfl) ?_
  refine lv_iconst (v := 0) hx hb dX6_rebuild_1 (by decide) ?_
  refine va_put (D := (dC, dI)) (ci := 6) (v := .int 0) (ty := .int) (C := RX6) (T := TX6) (N := 12) hx hb hts (fun w h => tb_in (inX6 w h)) tyX6 tyX6_ok nmX6 hown hK hP hD hS 0 rfl rfl 0 (by decide) (hts _ (tb_in q_fl_X6_24)) (fun _ h9 => h9) rfl (by decide +kernel) rfl rfl (Nat.le_of_ble_eq_true rfl) dX6_rebuild_2 (fun H locs hP hD hS => ?_)
  have hP : va_P (dC, dI) cls [(M, .inr (6, [.int 0, .int 0, .int 0, .int 0, .int 0, .ref a0, .ref a1, .ref a2, .ref a3, .int 0, .null, .long 0]))] H := hP
  have hD : va_D A [(M, .inr (6, [.int 0, .int 0, .int 0, .int 0, .int 0, .ref a0, .ref a1, .ref a2, .ref a3, .int 0, .null, .long 0]))] := hD
  refine lv_iconst (v := 0) hx hb dX6_rebuild_5 (by decide) ?_
  refine lv_istore_n (lv' := [(1, .int 0), (0, .ref M)]) hx hb dX6_rebuild_6 rfl hl (by decide) rfl (fun ls hl => ?_)
  refine lv_aload_n hx hb dX6_rebuild_7 rfl (lv_at hl 1 rfl) ?_
  refine n_Vr (ci := 6) (q0 := 0) (wc := [(M, .inr (6, [.int 0, .int 0, .int 0, .int 0, .int 0, .ref a0, .ref a1, .ref a2, .ref a3, .int 0, .null, .long 0]))]) (wr := []) [] [0] [] ⟨hx, hb, hml, hown, hts⟩ (fun sz => c_X6_nextToPut l dC dI cI cV cJ cL M a0 a1 a2 a3 0 0 0 (.null) 0  sz) q_ml_X6_203 q_im_X6_nextToPut q_se_X6_nextToPut q_ini_X6 q_co_X6_nextToPut (n := 0) (by decide +kernel) rfl ⟨rfl, rfl⟩ ⟨Nat.le_of_ble_eq_true rfl, Nat.le_of_ble_eq_true rfl⟩ hP hD hS hA hK hN rfl rfl (by decide) (by decide) (by decide) rfl rfl rfl hl.1 rfl (Nat.le_of_ble_eq_true rfl) dX6_rebuild_8 ⟨Nat.le_of_ble_eq_true rfl, Nat.le_of_ble_eq_true rfl⟩ (fun r_2 u_1 H locs hu_1 hP hD hS => ?_)
  have hP : va_P (dC, dI) cls [(M, .inr (6, [.int 0, .int 0, .int 0, .int 0, .int 0, .ref a0, .ref a1, .ref a2, .ref a3, .int 0, .null, .long 0])), (r_2, .inl (cI, 0, .inl (fun _ => 0)))] H := hP
  have hD : va_D A [(M, .inr (6, [.int 0, .int 0, .int 0, .int 0, .int 0, .ref a0, .ref a1, .ref a2, .ref a3, .int 0, .null, .long 0])), (r_2, .inl (cI, 0, .inl (fun _ => 0)))] := hD
  refine lv_astore_n (lv' := [(2, .ref r_2), (1, .int 0), (0, .ref M)]) hx hb dX6_rebuild_11 rfl hl (by decide) rfl (fun ls hl => ?_)
  refine lv_aload_n hx hb dX6_rebuild_12 rfl (lv_at hl 0 rfl) ?_
  refine va_alen (D := (dC, dI)) (v := 0) hx hb hK hP 1 0 rfl rfl rfl dX6_rebuild_13 ?_
  refine lv_if_le (tgt := 42) hx hb dX6_rebuild_14 (by decide) (fun c_3 => ?_) (fun c_3 => ?_)
  rotate_left
  · first | exact absurd c_3 (by decide) | exact absurd (by decide) c_3
  refine lv_iload_n hx hb dX6_rebuild_42 rfl (lv_at hl 1 rfl) ?_
  refine W.widen (k := 1) (n := 0) (Nat.le_of_ble_eq_true rfl) (Nat.le_of_ble_eq_true rfl) ?_
  have hP := hP.sub (ws' := [(M, .inr (6, [.int 0, .int 0, .int 0, .int 0, .int 0, .ref a0, .ref a1, .ref a2, .ref a3, .int 0, .null, .long 0]))]) [0] rfl
  have hD := hD.sub (ws' := [(M, .inr (6, [.int 0, .int 0, .int 0, .int 0, .int 0, .ref a0, .ref a1, .ref a2, .ref a3, .int 0, .null, .long 0]))]) [0] (by decide) rfl
  have hP9 := hP
  have hD9 := hD
  exact W.iret (v := 0) hx hb hr (fun t9 ht9 hW9 => ⟨⟨_, (0, 0, 0, .null), rfl, ⟨rfl, (fun _ => rfl)⟩, by rw [ht9]; exact hP9, va_K.moved hW9.alike hK, hD9⟩, hS.F ht9⟩) hS.2.2 dX6_rebuild_43
set_option maxHeartbeats 4000000 in
set_option maxRecDepth 100000 in
theorem c_X6_digest (l : Launch) (dC : Nat → ClassId) (dI : Nat → Nat → Nat) (cI cV cJ cL : ClassId) (M a0 a1 a2 a3 : Nat)  (sz : Nat) : Met l yX6_digest (Cond.code yX6_digest cX6_digest 6 (some .long) :: TB) ({ frames := 3, cells := 1, slots := 5, locals := 72 } : Room) (PW [.ref M] (dC, dI) [(M, .inr (6, [.int 0, .int 0, .int 0, .int 0, .int 0, .ref a0, .ref a1, .ref a2, .ref a3, .int 0, .null, .long 0]))] (TYP cI cV cJ cL) sz) (va_Ql (fun (r : Int64) (_ : Unit) => r = 1534370592850220143) (QB (dC, dI) (fun (_ : Unit) => []) (TYP cI cV cJ cL) (va_A [(M, .inr (6, [.int 0, .int 0, .int 0, .int 0, .int 0, .ref a0, .ref a1, .ref a2, .ref a3, .int 0, .null, .long 0]))] sz)) (va_A [(M, .inr (6, [.int 0, .int 0, .int 0, .int 0, .int 0, .ref a0, .ref a1, .ref a2, .ref a3, .int 0, .null, .long 0]))] sz)) 1 5 (va_A [(M, .inr (6, [.int 0, .int 0, .int 0, .int 0, .int 0, .ref a0, .ref a1, .ref a2, .ref a3, .int 0, .null, .long 0]))] sz) := by
  refine Met.ofW (cc := cX6_digest) (maxL := 6) (ret := (some .long)) (by decide) rfl ?_
  intro p e s m args below meth c s₁ B hml hv
  obtain ⟨rfl, hsz, hP, hK, hD0, hN⟩ := hv
  have hx := B.exec
  have hb := B.bytes
  have hr := B.returns
  have hts := atoms_spec (ws := (Cond.code yX6_digest cX6_digest 6 (some .long) :: TB)) B.pre
  have hown : s.vm.findClass RX6 = some m.cls := findClass_of_methodNamed B.named
  have hlocks := B.notSynchronized
  subst hsz
  have hD := hD0.self (sz := s.heap.size)
  generalize hAe : va_A [(M, .inr (6, [.int 0, .int 0, .int 0, .int 0, .int 0, .ref a0, .ref a1, .ref a2, .ref a3, .int 0, .null, .long 0]))] s.heap.size = A at hD ⊢
  have hA : ∀ q : Nat, s.heap.size ≤ q → A q := fun q h => by rw [← hAe]; exact Or.inr h
  have hS : va_S A s.heap s.heap [] := va_S.rf
  have hl := lv_entry ([.ref M]) (n := 6) (Nat.le_of_ble_eq_true rfl)
  rw [lg_entry_eq]
  generalize (lg_sl ([.ref M]) ++ List.replicate (6 - (lg_sl ([.ref M])).length) Slot.unset).toArray = ls at hl ⊢
  have hl : lv_has ls 6 [(0, .ref M)] := hl
  refine lv_aload_n hx hb dX6_digest_0 rfl (lv_at hl 0 rfl) ?_
  refine lv_iconst (v := 0) hx hb dX6_digest_1 (by decide) ?_
  refine va_put (D := (dC, dI)) (ci := 6) (v := .int 0) (ty := .int) (C := RX6) (T := TX6) (N := 12) hx hb hts (fun w h => tb_in (inX6 w h)) tyX6 tyX6_ok nmX6 hown hK hP hD hS 0 rfl rfl 0 (by decide) (hts _ (tb_in q_fl_X6_24)) (fun _ h9 => h9) rfl (by decide +kernel) rfl rfl (Nat.le_of_ble_eq_true rfl) dX6_digest_2 (fun H locs hP hD hS => ?_)
  have hP : va_P (dC, dI) cls [(M, .inr (6, [.int 0, .int 0, .int 0, .int 0, .int 0, .ref a0, .ref a1, .ref a2, .ref a3, .int 0, .null, .long 0]))] H := hP
  have hD : va_D A [(M, .inr (6, [.int 0, .int 0, .int 0, .int 0, .int 0, .ref a0, .ref a1, .ref a2, .ref a3, .int 0, .null, .long 0]))] := hD
  refine lv_aload_n hx hb dX6_digest_5 rfl (lv_at hl 0 rfl) ?_
  refine lv_ldc2 (v := 58033) hx hb hown (hts _ (tb_in q_cg_X6_247)) dX6_digest_6 ?_
  refine va_put (D := (dC, dI)) (ci := 6) (v := .long 58033) (ty := .long) (C := RX6) (T := TX6) (N := 12) hx hb hts (fun w h => tb_in (inX6 w h)) tyX6 tyX6_ok nmX6 hown hK hP hD hS 0 rfl rfl 11 (by decide) (hts _ (tb_in q_fl_X6_237)) (fun _ h9 => h9) rfl (by decide +kernel) rfl rfl (Nat.le_of_ble_eq_true rfl) dX6_digest_9 (fun H locs hP hD hS => ?_)
  have hP : va_P (dC, dI) cls [(M, .inr (6, [.int 0, .int 0, .int 0, .int 0, .int 0, .ref a0, .ref a1, .ref a2, .ref a3, .int 0, .null, .long 58033]))] H := hP
  have hD : va_D A [(M, .inr (6, [.int 0, .int 0, .int 0, .int 0, .int 0, .ref a0, .ref a1, .ref a2, .ref a3, .int 0, .null, .long 58033]))] := hD
  refine lv_iconst (v := 5) hx hb dX6_digest_12 (by decide) ?_
  refine k_newI hx hb (hts _ (tb_in q_ac_int)) hK hP hD hS hA 0 rfl (n := 5) (N' := 5) (by decide) (by decide) (Nat.le_of_ble_eq_true rfl) (Nat.le_of_ble_eq_true rfl) (Nat.le_of_ble_eq_true rfl) dX6_digest_13 (fun q_1 H hP hD hS => ?_)
  have hP : va_P (dC, dI) cls [(M, .inr (6, [.int 0, .int 0, .int 0, .int 0, .int 0, .ref a0, .ref a1, .ref a2, .ref a3, .int 0, .null, .long 58033])), (q_1, .inl (cI, 5, .inl (fun _ => 0)))] H := hP
  have hD : va_D A [(M, .inr (6, [.int 0, .int 0, .int 0, .int 0, .int 0, .ref a0, .ref a1, .ref a2, .ref a3, .int 0, .null, .long 58033])), (q_1, .inl (cI, 5, .inl (fun _ => 0)))] := hD
  refine lv_dup hx hb dX6_digest_15 rfl ?_
  refine lv_iconst (v := 0) hx hb dX6_digest_16 (by decide) ?_
  refine lv_aload_n hx hb dX6_digest_17 rfl (lv_at hl 0 rfl) ?_
  refine va_get (D := (dC, dI)) (ci := 6) (v := .int 0) (C := RX6) (T := TX6) (N := 12) hx hb hts (fun w h => tb_in (inX6 w h)) hown hK hP 0 rfl rfl 4 (by decide) (hts _ (tb_in q_fl_X6_73)) (fun _ h9 => h9) rfl dX6_digest_18 ?_
  refine va_iast (D := (dC, dI)) hx hb hK hP hD hS 1 0 rfl rfl (i := 0) (n := 5) (vpd (by decide)) dX6_digest_21 (fun H locs hP hD hS => ?_)
  have hP : va_P (dC, dI) cls [(M, .inr (6, [.int 0, .int 0, .int 0, .int 0, .int 0, .ref a0, .ref a1, .ref a2, .ref a3, .int 0, .null, .long 58033])), (q_1, .inl (cI, 5, .inl (upd (fun _ => 0) (0 : Int32).toNatClampNeg 0)))] H := hP
  have hD : va_D A [(M, .inr (6, [.int 0, .int 0, .int 0, .int 0, .int 0, .ref a0, .ref a1, .ref a2, .ref a3, .int 0, .null, .long 58033])), (q_1, .inl (cI, 5, .inl (upd (fun _ => 0) (0 : Int32).toNatClampNeg 0)))] := hD
  refine lv_dup hx hb dX6_digest_22 rfl ?_
  refine lv_iconst (v := 1) hx hb dX6_digest_23 (by decide) ?_
  refine lv_aload_n hx hb dX6_digest_24 rfl (lv_at hl 0 rfl) ?_
  refine va_get (D := (dC, dI)) (ci := 6) (v := .int 0) (C := RX6) (T := TX6) (N := 12) hx hb hts (fun w h => tb_in (inX6 w h)) hown hK hP 0 rfl rfl 1 (by decide) (hts _ (tb_in q_fl_X6_28)) (fun _ h9 => h9) rfl dX6_digest_25 ?_
  refine va_iast (D := (dC, dI)) hx hb hK hP hD hS 1 0 rfl rfl (i := 1) (n := 5) (vpd (by decide)) dX6_digest_28 (fun H locs hP hD hS => ?_)
  have hP : va_P (dC, dI) cls [(M, .inr (6, [.int 0, .int 0, .int 0, .int 0, .int 0, .ref a0, .ref a1, .ref a2, .ref a3, .int 0, .null, .long 58033])), (q_1, .inl (cI, 5, .inl (upd (upd (fun _ => 0) (0 : Int32).toNatClampNeg 0) (1 : Int32).toNatClampNeg 0)))] H := hP
  have hD : va_D A [(M, .inr (6, [.int 0, .int 0, .int 0, .int 0, .int 0, .ref a0, .ref a1, .ref a2, .ref a3, .int 0, .null, .long 58033])), (q_1, .inl (cI, 5, .inl (upd (upd (fun _ => 0) (0 : Int32).toNatClampNeg 0) (1 : Int32).toNatClampNeg 0)))] := hD
  refine lv_dup hx hb dX6_digest_29 rfl ?_
  refine lv_iconst (v := 2) hx hb dX6_digest_30 (by decide) ?_
  refine lv_aload_n hx hb dX6_digest_31 rfl (lv_at hl 0 rfl) ?_
  refine va_get (D := (dC, dI)) (ci := 6) (v := .int 0) (C := RX6) (T := TX6) (N := 12) hx hb hts (fun w h => tb_in (inX6 w h)) hown hK hP 0 rfl rfl 2 (by decide) (hts _ (tb_in q_fl_X6_35)) (fun _ h9 => h9) rfl dX6_digest_32 ?_
  refine va_iast (D := (dC, dI)) hx hb hK hP hD hS 1 0 rfl rfl (i := 2) (n := 5) (vpd (by decide)) dX6_digest_35 (fun H locs hP hD hS => ?_)
  have hP : va_P (dC, dI) cls [(M, .inr (6, [.int 0, .int 0, .int 0, .int 0, .int 0, .ref a0, .ref a1, .ref a2, .ref a3, .int 0, .null, .long 58033])), (q_1, .inl (cI, 5, .inl (upd (upd (upd (fun _ => 0) (0 : Int32).toNatClampNeg 0) (1 : Int32).toNatClampNeg 0) (2 : Int32).toNatClampNeg 0)))] H := hP
  have hD : va_D A [(M, .inr (6, [.int 0, .int 0, .int 0, .int 0, .int 0, .ref a0, .ref a1, .ref a2, .ref a3, .int 0, .null, .long 58033])), (q_1, .inl (cI, 5, .inl (upd (upd (upd (fun _ => 0) (0 : Int32).toNatClampNeg 0) (1 : Int32).toNatClampNeg 0) (2 : Int32).toNatClampNeg 0)))] := hD
  refine lv_dup hx hb dX6_digest_36 rfl ?_
  refine lv_iconst (v := 3) hx hb dX6_digest_37 (by decide) ?_
  refine lv_aload_n hx hb dX6_digest_38 rfl (lv_at hl 0 rfl) ?_
  refine va_get (D := (dC, dI)) (ci := 6) (v := .int 0) (C := RX6) (T := TX6) (N := 12) hx hb hts (fun w h => tb_in (inX6 w h)) hown hK hP 0 rfl rfl 3 (by decide) (hts _ (tb_in q_fl_X6_38)) (fun _ h9 => h9) rfl dX6_digest_39 ?_
  refine va_iast (D := (dC, dI)) hx hb hK hP hD hS 1 0 rfl rfl (i := 3) (n := 5) (vpd (by decide)) dX6_digest_42 (fun H locs hP hD hS => ?_)
  have hP : va_P (dC, dI) cls [(M, .inr (6, [.int 0, .int 0, .int 0, .int 0, .int 0, .ref a0, .ref a1, .ref a2, .ref a3, .int 0, .null, .long 58033])), (q_1, .inl (cI, 5, .inl (upd (upd (upd (upd (fun _ => 0) (0 : Int32).toNatClampNeg 0) (1 : Int32).toNatClampNeg 0) (2 : Int32).toNatClampNeg 0) (3 : Int32).toNatClampNeg 0)))] H := hP
  have hD : va_D A [(M, .inr (6, [.int 0, .int 0, .int 0, .int 0, .int 0, .ref a0, .ref a1, .ref a2, .ref a3, .int 0, .null, .long 58033])), (q_1, .inl (cI, 5, .inl (upd (upd (upd (upd (fun _ => 0) (0 : Int32).toNatClampNeg 0) (1 : Int32).toNatClampNeg 0) (2 : Int32).toNatClampNeg 0) (3 : Int32).toNatClampNeg 0)))] := hD
  refine lv_dup hx hb dX6_digest_43 rfl ?_
  refine lv_iconst (v := 4) hx hb dX6_digest_44 (by decide) ?_
  refine lv_aload_n hx hb dX6_digest_45 rfl (lv_at hl 0 rfl) ?_
  refine n_Vi (ci := 6) (q0 := 0) (wc := [(M, .inr (6, [.int 0, .int 0, .int 0, .int 0, .int 0, .ref a0, .ref a1, .ref a2, .ref a3, .int 0, .null, .long 58033]))]) (wr := [(q_1, .inl (cI, 5, .inl (upd (upd (upd (upd (fun _ => 0) (0 : Int32).toNatClampNeg 0) (1 : Int32).toNatClampNeg 0) (2 : Int32).toNatClampNeg 0) (3 : Int32).toNatClampNeg 0)))]) [] [0] [1] ⟨hx, hb, hml, hown, hts⟩ (fun sz => c_X6_costAll l dC dI cI cV cJ cL M a0 a1 a2 a3 0 0 0 (.null) 58033  sz) q_ml_X6_234 q_im_X6_costAll q_se_X6_costAll q_ini_X6 q_co_X6_costAll (n := 0) (by decide +kernel) rfl ⟨rfl, rfl⟩ ⟨Nat.le_of_ble_eq_true rfl, Nat.le_of_ble_eq_true rfl⟩ hP hD hS hA hK hN rfl rfl (by decide) (by decide) (by decide) rfl rfl rfl hl.1 rfl (Nat.le_of_ble_eq_true rfl) dX6_digest_46 ⟨Nat.le_of_ble_eq_true rfl, Nat.le_of_ble_eq_true rfl⟩ (fun r_3 u_2 H locs hu_2 hP hD hS => ?_)
  have hP : va_P (dC, dI) cls [(q_1, .inl (cI, 5, .inl (upd (upd (upd (upd (fun _ => 0) (0 : Int32).toNatClampNeg 0) (1 : Int32).toNatClampNeg 0) (2 : Int32).toNatClampNeg 0) (3 : Int32).toNatClampNeg 0))), (M, .inr (6, [.int 0, .int 0, .int 0, .int 0, .int 0, .ref a0, .ref a1, .ref a2, .ref a3, .int 0, .null, .long 58033]))] H := hP
  have hD : va_D A [(q_1, .inl (cI, 5, .inl (upd (upd (upd (upd (fun _ => 0) (0 : Int32).toNatClampNeg 0) (1 : Int32).toNatClampNeg 0) (2 : Int32).toNatClampNeg 0) (3 : Int32).toNatClampNeg 0))), (M, .inr (6, [.int 0, .int 0, .int 0, .int 0, .int 0, .ref a0, .ref a1, .ref a2, .ref a3, .int 0, .null, .long 58033]))] := hD
  obtain rfl := hu_2
  refine va_iast (D := (dC, dI)) hx hb hK hP hD hS 0 0 rfl rfl (i := 4) (n := 5) (vpd (by decide)) dX6_digest_49 (fun H locs hP hD hS => ?_)
  have hP : va_P (dC, dI) cls [(q_1, .inl (cI, 5, .inl (upd (upd (upd (upd (upd (fun _ => 0) (0 : Int32).toNatClampNeg 0) (1 : Int32).toNatClampNeg 0) (2 : Int32).toNatClampNeg 0) (3 : Int32).toNatClampNeg 0) (4 : Int32).toNatClampNeg 0))), (M, .inr (6, [.int 0, .int 0, .int 0, .int 0, .int 0, .ref a0, .ref a1, .ref a2, .ref a3, .int 0, .null, .long 58033]))] H := hP
  have hD : va_D A [(q_1, .inl (cI, 5, .inl (upd (upd (upd (upd (upd (fun _ => 0) (0 : Int32).toNatClampNeg 0) (1 : Int32).toNatClampNeg 0) (2 : Int32).toNatClampNeg 0) (3 : Int32).toNatClampNeg 0) (4 : Int32).toNatClampNeg 0))), (M, .inr (6, [.int 0, .int 0, .int 0, .int 0, .int 0, .ref a0, .ref a1, .ref a2, .ref a3, .int 0, .null, .long 58033]))] := hD
  refine lv_astore_n (lv' := [(1, .ref q_1), (0, .ref M)]) hx hb dX6_digest_50 rfl hl (by decide) rfl (fun ls hl => ?_)
  refine lv_aload_n hx hb dX6_digest_51 rfl (lv_at hl 0 rfl) ?_
  refine lv_astore_n (lv' := [(2, .ref q_1), (1, .ref q_1), (0, .ref M)]) hx hb dX6_digest_52 rfl hl (by decide) rfl (fun ls hl => ?_)
  refine lv_aload_n hx hb dX6_digest_53 rfl (lv_at hl 0 rfl) ?_
  refine va_alen (D := (dC, dI)) (v := 5) hx hb hK hP 0 0 rfl rfl rfl dX6_digest_54 ?_
  refine lv_istore_n (lv' := [(3, .int 5), (2, .ref q_1), (1, .ref q_1), (0, .ref M)]) hx hb dX6_digest_55 rfl hl (by decide) rfl (fun ls hl => ?_)
  refine lv_iconst (v := 0) hx hb dX6_digest_56 (by decide) ?_
  refine lv_istore (lv' := [(4, .int 0), (3, .int 5), (2, .ref q_1), (1, .ref q_1), (0, .ref M)]) hx hb dX6_digest_57 hl (by decide) rfl (fun ls hl => ?_)
  refine lv_iload hx hb dX6_digest_59 (lv_at hl 0 rfl) ?_
  refine lv_iload_n hx hb dX6_digest_61 rfl (lv_at hl 1 rfl) ?_
  refine lv_icmp_ge (tgt := 83) hx hb dX6_digest_62 (by decide) (fun c_4 => ?_) (fun c_4 => ?_)
  · first | exact absurd c_4 (by decide) | exact absurd (by decide) c_4
  refine lv_aload_n hx hb dX6_digest_65 rfl (lv_at hl 2 rfl) ?_
  refine lv_iload hx hb dX6_digest_66 (lv_at hl 0 rfl) ?_
  refine va_iald (D := (dC, dI)) hx hb hK hP 0 0 rfl rfl (i := 0) (n := 5) (vpd (by decide)) dX6_digest_68 ?_
  refine k_st1 (y := 0) rfl ?_
  refine lv_istore (lv' := [(5, .int 0), (4, .int 0), (3, .int 5), (2, .ref q_1), (1, .ref q_1), (0, .ref M)]) hx hb dX6_digest_69 hl (by decide) rfl (fun ls hl => ?_)
  refine lv_aload_n hx hb dX6_digest_71 rfl (lv_at hl 5 rfl) ?_
  refine lv_iload hx hb dX6_digest_72 (lv_at hl 0 rfl) ?_
  refine n_Vv (ci := 6) (q0 := 0) (wc := [(M, .inr (6, [.int 0, .int 0, .int 0, .int 0, .int 0, .ref a0, .ref a1, .ref a2, .ref a3, .int 0, .null, .long 58033]))]) (wr := [(q_1, .inl (cI, 5, .inl (upd (upd (upd (upd (upd (fun _ => 0) (0 : Int32).toNatClampNeg 0) (1 : Int32).toNatClampNeg 0) (2 : Int32).toNatClampNeg 0) (3 : Int32).toNatClampNeg 0) (4 : Int32).toNatClampNeg 0)))]) [.int 0] [1] [0] ⟨hx, hb, hml, hown, hts⟩ (fun sz => c_X6_add l dC dI cI cV cJ cL M a0 a1 a2 a3 0 0 0 (.null) 58033 0 1799023 (by decide +kernel) sz) q_ml_X6_243 q_im_X6_add q_se_X6_add q_ini_X6 q_co_X6_add (n := 1) (by decide +kernel) rfl ⟨rfl, rfl⟩ ⟨Nat.le_of_ble_eq_true rfl, Nat.le_of_ble_eq_true rfl⟩ hP hD hS hA hK hN rfl rfl (by decide) (by decide) (by decide) rfl rfl rfl hl.1 rfl (Nat.le_of_ble_eq_true rfl) dX6_digest_74 ⟨Nat.le_of_ble_eq_true rfl, Nat.le_of_ble_eq_true rfl⟩ (fun u_5 H locs hu_5 hP hD hS => ?_)
  have hP : va_P (dC, dI) cls [(q_1, .inl (cI, 5, .inl (upd (upd (upd (upd (upd (fun _ => 0) (0 : Int32).toNatClampNeg 0) (1 : Int32).toNatClampNeg 0) (2 : Int32).toNatClampNeg 0) (3 : Int32).toNatClampNeg 0) (4 : Int32).toNatClampNeg 0))), (M, .inr (6, [.int 0, .int 0, .int 0, .int 0, .int 0, .ref a0, .ref a1, .ref a2, .ref a3, .int 0, .null, .long 1799023]))] H := hP
  have hD : va_D A [(q_1, .inl (cI, 5, .inl (upd (upd (upd (upd (upd (fun _ => 0) (0 : Int32).toNatClampNeg 0) (1 : Int32).toNatClampNeg 0) (2 : Int32).toNatClampNeg 0) (3 : Int32).toNatClampNeg 0) (4 : Int32).toNatClampNeg 0))), (M, .inr (6, [.int 0, .int 0, .int 0, .int 0, .int 0, .ref a0, .ref a1, .ref a2, .ref a3, .int 0, .null, .long 1799023]))] := hD
  refine lv_iinc (v := 1) (lv' := [(4, .int 1), (5, .int 0), (3, .int 5), (2, .ref q_1), (1, .ref q_1), (0, .ref M)]) hx hb dX6_digest_77 hl (k := 1) rfl (by decide) (by decide) rfl (fun ls hl => ?_)
  refine lv_goto (tgt := 59) hx hb dX6_digest_80 (by decide) ?_
  refine lv_iload hx hb dX6_digest_59 (lv_at hl 0 rfl) ?_
  refine lv_iload_n hx hb dX6_digest_61 rfl (lv_at hl 2 rfl) ?_
  refine lv_icmp_ge (tgt := 83) hx hb dX6_digest_62 (by decide) (fun c_6 => ?_) (fun c_6 => ?_)
  · first | exact absurd c_6 (by decide) | exact absurd (by decide) c_6
  refine lv_aload_n hx hb dX6_digest_65 rfl (lv_at hl 3 rfl) ?_
  refine lv_iload hx hb dX6_digest_66 (lv_at hl 0 rfl) ?_
  refine va_iald (D := (dC, dI)) hx hb hK hP 0 0 rfl rfl (i := 1) (n := 5) (vpd (by decide)) dX6_digest_68 ?_
  refine k_st1 (y := 0) rfl ?_
  refine lv_istore (lv' := [(5, .int 0), (4, .int 1), (3, .int 5), (2, .ref q_1), (1, .ref q_1), (0, .ref M)]) hx hb dX6_digest_69 hl (by decide) rfl (fun ls hl => ?_)
  refine lv_aload_n hx hb dX6_digest_71 rfl (lv_at hl 5 rfl) ?_
  refine lv_iload hx hb dX6_digest_72 (lv_at hl 0 rfl) ?_
  refine n_Vv (ci := 6) (q0 := 0) (wc := [(M, .inr (6, [.int 0, .int 0, .int 0, .int 0, .int 0, .ref a0, .ref a1, .ref a2, .ref a3, .int 0, .null, .long 1799023]))]) (wr := [(q_1, .inl (cI, 5, .inl (upd (upd (upd (upd (upd (fun _ => 0) (0 : Int32).toNatClampNeg 0) (1 : Int32).toNatClampNeg 0) (2 : Int32).toNatClampNeg 0) (3 : Int32).toNatClampNeg 0) (4 : Int32).toNatClampNeg 0)))]) [.int 0] [1] [0] ⟨hx, hb, hml, hown, hts⟩ (fun sz => c_X6_add l dC dI cI cV cJ cL M a0 a1 a2 a3 0 0 0 (.null) 1799023 0 55769713 (by decide +kernel) sz) q_ml_X6_243 q_im_X6_add q_se_X6_add q_ini_X6 q_co_X6_add (n := 1) (by decide +kernel) rfl ⟨rfl, rfl⟩ ⟨Nat.le_of_ble_eq_true rfl, Nat.le_of_ble_eq_true rfl⟩ hP hD hS hA hK hN rfl rfl (by decide) (by decide) (by decide) rfl rfl rfl hl.1 rfl (Nat.le_of_ble_eq_true rfl) dX6_digest_74 ⟨Nat.le_of_ble_eq_true rfl, Nat.le_of_ble_eq_true rfl⟩ (fun u_7 H locs hu_7 hP hD hS => ?_)
  have hP : va_P (dC, dI) cls [(q_1, .inl (cI, 5, .inl (upd (upd (upd (upd (upd (fun _ => 0) (0 : Int32).toNatClampNeg 0) (1 : Int32).toNatClampNeg 0) (2 : Int32).toNatClampNeg 0) (3 : Int32).toNatClampNeg 0) (4 : Int32).toNatClampNeg 0))), (M, .inr (6, [.int 0, .int 0, .int 0, .int 0, .int 0, .ref a0, .ref a1, .ref a2, .ref a3, .int 0, .null, .long 55769713]))] H := hP
  have hD : va_D A [(q_1, .inl (cI, 5, .inl (upd (upd (upd (upd (upd (fun _ => 0) (0 : Int32).toNatClampNeg 0) (1 : Int32).toNatClampNeg 0) (2 : Int32).toNatClampNeg 0) (3 : Int32).toNatClampNeg 0) (4 : Int32).toNatClampNeg 0))), (M, .inr (6, [.int 0, .int 0, .int 0, .int 0, .int 0, .ref a0, .ref a1, .ref a2, .ref a3, .int 0, .null, .long 55769713]))] := hD
  refine lv_iinc (v := 2) (lv' := [(4, .int 2), (5, .int 0), (3, .int 5), (2, .ref q_1), (1, .ref q_1), (0, .ref M)]) hx hb dX6_digest_77 hl (k := 1) rfl (by decide) (by decide) rfl (fun ls hl => ?_)
  refine lv_goto (tgt := 59) hx hb dX6_digest_80 (by decide) ?_
  refine lv_iload hx hb dX6_digest_59 (lv_at hl 0 rfl) ?_
  refine lv_iload_n hx hb dX6_digest_61 rfl (lv_at hl 2 rfl) ?_
  refine lv_icmp_ge (tgt := 83) hx hb dX6_digest_62 (by decide) (fun c_8 => ?_) (fun c_8 => ?_)
  · first | exact absurd c_8 (by decide) | exact absurd (by decide) c_8
  refine lv_aload_n hx hb dX6_digest_65 rfl (lv_at hl 3 rfl) ?_
  refine lv_iload hx hb dX6_digest_66 (lv_at hl 0 rfl) ?_
  refine va_iald (D := (dC, dI)) hx hb hK hP 0 0 rfl rfl (i := 2) (n := 5) (vpd (by decide)) dX6_digest_68 ?_
  refine k_st1 (y := 0) rfl ?_
  refine lv_istore (lv' := [(5, .int 0), (4, .int 2), (3, .int 5), (2, .ref q_1), (1, .ref q_1), (0, .ref M)]) hx hb dX6_digest_69 hl (by decide) rfl (fun ls hl => ?_)
  refine lv_aload_n hx hb dX6_digest_71 rfl (lv_at hl 5 rfl) ?_
  refine lv_iload hx hb dX6_digest_72 (lv_at hl 0 rfl) ?_
  refine n_Vv (ci := 6) (q0 := 0) (wc := [(M, .inr (6, [.int 0, .int 0, .int 0, .int 0, .int 0, .ref a0, .ref a1, .ref a2, .ref a3, .int 0, .null, .long 55769713]))]) (wr := [(q_1, .inl (cI, 5, .inl (upd (upd (upd (upd (upd (fun _ => 0) (0 : Int32).toNatClampNeg 0) (1 : Int32).toNatClampNeg 0) (2 : Int32).toNatClampNeg 0) (3 : Int32).toNatClampNeg 0) (4 : Int32).toNatClampNeg 0)))]) [.int 0] [1] [0] ⟨hx, hb, hml, hown, hts⟩ (fun sz => c_X6_add l dC dI cI cV cJ cL M a0 a1 a2 a3 0 0 0 (.null) 55769713 0 1728861103 (by decide +kernel) sz) q_ml_X6_243 q_im_X6_add q_se_X6_add q_ini_X6 q_co_X6_add (n := 1) (by decide +kernel) rfl ⟨rfl, rfl⟩ ⟨Nat.le_of_ble_eq_true rfl, Nat.le_of_ble_eq_true rfl⟩ hP hD hS hA hK hN rfl rfl (by decide) (by decide) (by decide) rfl rfl rfl hl.1 rfl (Nat.le_of_ble_eq_true rfl) dX6_digest_74 ⟨Nat.le_of_ble_eq_true rfl, Nat.le_of_ble_eq_true rfl⟩ (fun u_9 H locs hu_9 hP hD hS => ?_)
  have hP : va_P (dC, dI) cls [(q_1, .inl (cI, 5, .inl (upd (upd (upd (upd (upd (fun _ => 0) (0 : Int32).toNatClampNeg 0) (1 : Int32).toNatClampNeg 0) (2 : Int32).toNatClampNeg 0) (3 : Int32).toNatClampNeg 0) (4 : Int32).toNatClampNeg 0))), (M, .inr (6, [.int 0, .int 0, .int 0, .int 0, .int 0, .ref a0, .ref a1, .ref a2, .ref a3, .int 0, .null, .long 1728861103]))] H := hP
  have hD : va_D A [(q_1, .inl (cI, 5, .inl (upd (upd (upd (upd (upd (fun _ => 0) (0 : Int32).toNatClampNeg 0) (1 : Int32).toNatClampNeg 0) (2 : Int32).toNatClampNeg 0) (3 : Int32).toNatClampNeg 0) (4 : Int32).toNatClampNeg 0))), (M, .inr (6, [.int 0, .int 0, .int 0, .int 0, .int 0, .ref a0, .ref a1, .ref a2, .ref a3, .int 0, .null, .long 1728861103]))] := hD
  refine lv_iinc (v := 3) (lv' := [(4, .int 3), (5, .int 0), (3, .int 5), (2, .ref q_1), (1, .ref q_1), (0, .ref M)]) hx hb dX6_digest_77 hl (k := 1) rfl (by decide) (by decide) rfl (fun ls hl => ?_)
  refine lv_goto (tgt := 59) hx hb dX6_digest_80 (by decide) ?_
  refine lv_iload hx hb dX6_digest_59 (lv_at hl 0 rfl) ?_
  refine lv_iload_n hx hb dX6_digest_61 rfl (lv_at hl 2 rfl) ?_
  refine lv_icmp_ge (tgt := 83) hx hb dX6_digest_62 (by decide) (fun c_10 => ?_) (fun c_10 => ?_)
  · first | exact absurd c_10 (by decide) | exact absurd (by decide) c_10
  refine lv_aload_n hx hb dX6_digest_65 rfl (lv_at hl 3 rfl) ?_
  refine lv_iload hx hb dX6_digest_66 (lv_at hl 0 rfl) ?_
  refine va_iald (D := (dC, dI)) hx hb hK hP 0 0 rfl rfl (i := 3) (n := 5) (vpd (by decide)) dX6_digest_68 ?_
  refine k_st1 (y := 0) rfl ?_
  refine lv_istore (lv' := [(5, .int 0), (4, .int 3), (3, .int 5), (2, .ref q_1), (1, .ref q_1), (0, .ref M)]) hx hb dX6_digest_69 hl (by decide) rfl (fun ls hl => ?_)
  refine lv_aload_n hx hb dX6_digest_71 rfl (lv_at hl 5 rfl) ?_
  refine lv_iload hx hb dX6_digest_72 (lv_at hl 0 rfl) ?_
  refine n_Vv (ci := 6) (q0 := 0) (wc := [(M, .inr (6, [.int 0, .int 0, .int 0, .int 0, .int 0, .ref a0, .ref a1, .ref a2, .ref a3, .int 0, .null, .long 1728861103]))]) (wr := [(q_1, .inl (cI, 5, .inl (upd (upd (upd (upd (upd (fun _ => 0) (0 : Int32).toNatClampNeg 0) (1 : Int32).toNatClampNeg 0) (2 : Int32).toNatClampNeg 0) (3 : Int32).toNatClampNeg 0) (4 : Int32).toNatClampNeg 0)))]) [.int 0] [1] [0] ⟨hx, hb, hml, hown, hts⟩ (fun sz => c_X6_add l dC dI cI cV cJ cL M a0 a1 a2 a3 0 0 0 (.null) 1728861103 0 53594694193 (by decide +kernel) sz) q_ml_X6_243 q_im_X6_add q_se_X6_add q_ini_X6 q_co_X6_add (n := 1) (by decide +kernel) rfl ⟨rfl, rfl⟩ ⟨Nat.le_of_ble_eq_true rfl, Nat.le_of_ble_eq_true rfl⟩ hP hD hS hA hK hN rfl rfl (by decide) (by decide) (by decide) rfl rfl rfl hl.1 rfl (Nat.le_of_ble_eq_true rfl) dX6_digest_74 ⟨Nat.le_of_ble_eq_true rfl, Nat.le_of_ble_eq_true rfl⟩ (fun u_11 H locs hu_11 hP hD hS => ?_)
  have hP : va_P (dC, dI) cls [(q_1, .inl (cI, 5, .inl (upd (upd (upd (upd (upd (fun _ => 0) (0 : Int32).toNatClampNeg 0) (1 : Int32).toNatClampNeg 0) (2 : Int32).toNatClampNeg 0) (3 : Int32).toNatClampNeg 0) (4 : Int32).toNatClampNeg 0))), (M, .inr (6, [.int 0, .int 0, .int 0, .int 0, .int 0, .ref a0, .ref a1, .ref a2, .ref a3, .int 0, .null, .long 53594694193]))] H := hP
  have hD : va_D A [(q_1, .inl (cI, 5, .inl (upd (upd (upd (upd (upd (fun _ => 0) (0 : Int32).toNatClampNeg 0) (1 : Int32).toNatClampNeg 0) (2 : Int32).toNatClampNeg 0) (3 : Int32).toNatClampNeg 0) (4 : Int32).toNatClampNeg 0))), (M, .inr (6, [.int 0, .int 0, .int 0, .int 0, .int 0, .ref a0, .ref a1, .ref a2, .ref a3, .int 0, .null, .long 53594694193]))] := hD
  refine lv_iinc (v := 4) (lv' := [(4, .int 4), (5, .int 0), (3, .int 5), (2, .ref q_1), (1, .ref q_1), (0, .ref M)]) hx hb dX6_digest_77 hl (k := 1) rfl (by decide) (by decide) rfl (fun ls hl => ?_)
  refine lv_goto (tgt := 59) hx hb dX6_digest_80 (by decide) ?_
  refine lv_iload hx hb dX6_digest_59 (lv_at hl 0 rfl) ?_
  refine lv_iload_n hx hb dX6_digest_61 rfl (lv_at hl 2 rfl) ?_
  refine lv_icmp_ge (tgt := 83) hx hb dX6_digest_62 (by decide) (fun c_12 => ?_) (fun c_12 => ?_)
  · first | exact absurd c_12 (by decide) | exact absurd (by decide) c_12
  refine lv_aload_n hx hb dX6_digest_65 rfl (lv_at hl 3 rfl) ?_
  refine lv_iload hx hb dX6_digest_66 (lv_at hl 0 rfl) ?_
  refine va_iald (D := (dC, dI)) hx hb hK hP 0 0 rfl rfl (i := 4) (n := 5) (vpd (by decide)) dX6_digest_68 ?_
  refine k_st1 (y := 0) rfl ?_
  refine lv_istore (lv' := [(5, .int 0), (4, .int 4), (3, .int 5), (2, .ref q_1), (1, .ref q_1), (0, .ref M)]) hx hb dX6_digest_69 hl (by decide) rfl (fun ls hl => ?_)
  refine lv_aload_n hx hb dX6_digest_71 rfl (lv_at hl 5 rfl) ?_
  refine lv_iload hx hb dX6_digest_72 (lv_at hl 0 rfl) ?_
  refine n_Vv (ci := 6) (q0 := 0) (wc := [(M, .inr (6, [.int 0, .int 0, .int 0, .int 0, .int 0, .ref a0, .ref a1, .ref a2, .ref a3, .int 0, .null, .long 53594694193]))]) (wr := [(q_1, .inl (cI, 5, .inl (upd (upd (upd (upd (upd (fun _ => 0) (0 : Int32).toNatClampNeg 0) (1 : Int32).toNatClampNeg 0) (2 : Int32).toNatClampNeg 0) (3 : Int32).toNatClampNeg 0) (4 : Int32).toNatClampNeg 0)))]) [.int 0] [1] [0] ⟨hx, hb, hml, hown, hts⟩ (fun sz => c_X6_add l dC dI cI cV cJ cL M a0 a1 a2 a3 0 0 0 (.null) 53594694193 0 1661435519983 (by decide +kernel) sz) q_ml_X6_243 q_im_X6_add q_se_X6_add q_ini_X6 q_co_X6_add (n := 1) (by decide +kernel) rfl ⟨rfl, rfl⟩ ⟨Nat.le_of_ble_eq_true rfl, Nat.le_of_ble_eq_true rfl⟩ hP hD hS hA hK hN rfl rfl (by decide) (by decide) (by decide) rfl rfl rfl hl.1 rfl (Nat.le_of_ble_eq_true rfl) dX6_digest_74 ⟨Nat.le_of_ble_eq_true rfl, Nat.le_of_ble_eq_true rfl⟩ (fun u_13 H locs hu_13 hP hD hS => ?_)
  have hP : va_P (dC, dI) cls [(q_1, .inl (cI, 5, .inl (upd (upd (upd (upd (upd (fun _ => 0) (0 : Int32).toNatClampNeg 0) (1 : Int32).toNatClampNeg 0) (2 : Int32).toNatClampNeg 0) (3 : Int32).toNatClampNeg 0) (4 : Int32).toNatClampNeg 0))), (M, .inr (6, [.int 0, .int 0, .int 0, .int 0, .int 0, .ref a0, .ref a1, .ref a2, .ref a3, .int 0, .null, .long 1661435519983]))] H := hP
  have hD : va_D A [(q_1, .inl (cI, 5, .inl (upd (upd (upd (upd (upd (fun _ => 0) (0 : Int32).toNatClampNeg 0) (1 : Int32).toNatClampNeg 0) (2 : Int32).toNatClampNeg 0) (3 : Int32).toNatClampNeg 0) (4 : Int32).toNatClampNeg 0))), (M, .inr (6, [.int 0, .int 0, .int 0, .int 0, .int 0, .ref a0, .ref a1, .ref a2, .ref a3, .int 0, .null, .long 1661435519983]))] := hD
  refine lv_iinc (v := 5) (lv' := [(4, .int 5), (5, .int 0), (3, .int 5), (2, .ref q_1), (1, .ref q_1), (0, .ref M)]) hx hb dX6_digest_77 hl (k := 1) rfl (by decide) (by decide) rfl (fun ls hl => ?_)
  refine lv_goto (tgt := 59) hx hb dX6_digest_80 (by decide) ?_
  refine lv_iload hx hb dX6_digest_59 (lv_at hl 0 rfl) ?_
  refine lv_iload_n hx hb dX6_digest_61 rfl (lv_at hl 2 rfl) ?_
  refine lv_icmp_ge (tgt := 83) hx hb dX6_digest_62 (by decide) (fun c_14 => ?_) (fun c_14 => ?_)
  rotate_left
  · first | exact absurd c_14 (by decide) | exact absurd (by decide) c_14
  refine lv_iconst (v := 0) hx hb dX6_digest_83 (by decide) ?_
  refine lv_istore_n (lv' := [(2, .int 0), (4, .int 5), (5, .int 0), (3, .int 5), (1, .ref q_1), (0, .ref M)]) hx hb dX6_digest_84 rfl hl (by decide) rfl (fun ls hl => ?_)
  refine lv_iload_n hx hb dX6_digest_85 rfl (lv_at hl 0 rfl) ?_
  refine lv_aload_n hx hb dX6_digest_86 rfl (lv_at hl 5 rfl) ?_
  refine va_get (D := (dC, dI)) (ci := 6) (v := .int 0) (C := RX6) (T := TX6) (N := 12) hx hb hts (fun w h => tb_in (inX6 w h)) hown hK hP 1 rfl rfl 2 (by decide) (hts _ (tb_in q_fl_X6_35)) (fun _ h9 => h9) rfl dX6_digest_87 ?_
  refine lv_icmp_ge (tgt := 104) hx hb dX6_digest_90 (by decide) (fun c_15 => ?_) (fun c_15 => ?_)
  rotate_left
  · first | exact absurd c_15 (by decide) | exact absurd (by decide) c_15
  refine lv_iconst (v := 0) hx hb dX6_digest_104 (by decide) ?_
  refine lv_istore_n (lv' := [(2, .int 0), (4, .int 5), (5, .int 0), (3, .int 5), (1, .ref q_1), (0, .ref M)]) hx hb dX6_digest_105 rfl hl (by decide) rfl (fun ls hl => ?_)
  refine lv_iload_n hx hb dX6_digest_106 rfl (lv_at hl 0 rfl) ?_
  refine lv_aload_n hx hb dX6_digest_107 rfl (lv_at hl 5 rfl) ?_
  refine va_get (D := (dC, dI)) (ci := 6) (v := .int 0) (C := RX6) (T := TX6) (N := 12) hx hb hts (fun w h => tb_in (inX6 w h)) hown hK hP 1 rfl rfl 3 (by decide) (hts _ (tb_in q_fl_X6_38)) (fun _ h9 => h9) rfl dX6_digest_108 ?_
  refine lv_icmp_ge (tgt := 146) hx hb dX6_digest_111 (by decide) (fun c_16 => ?_) (fun c_16 => ?_)
  rotate_left
  · first | exact absurd c_16 (by decide) | exact absurd (by decide) c_16
  refine lv_iconst (v := 0) hx hb dX6_digest_146 (by decide) ?_
  refine lv_istore_n (lv' := [(2, .int 0), (4, .int 5), (5, .int 0), (3, .int 5), (1, .ref q_1), (0, .ref M)]) hx hb dX6_digest_147 rfl hl (by decide) rfl (fun ls hl => ?_)
  refine lv_iload_n hx hb dX6_digest_148 rfl (lv_at hl 0 rfl) ?_
  refine lv_iconst (v := 4) hx hb dX6_digest_149 (by decide) ?_
  refine lv_icmp_ge (tgt := 168) hx hb dX6_digest_150 (by decide) (fun c_17 => ?_) (fun c_17 => ?_)
  · first | exact absurd c_17 (by decide) | exact absurd (by decide) c_17
  refine lv_aload_n hx hb dX6_digest_153 rfl (lv_at hl 5 rfl) ?_
  refine lv_aload_n hx hb dX6_digest_154 rfl (lv_at hl 5 rfl) ?_
  refine lv_iload_n hx hb dX6_digest_155 rfl (lv_at hl 0 rfl) ?_
  refine n_Vi (ci := 6) (q0 := 0) (wc := [(M, .inr (6, [.int 0, .int 0, .int 0, .int 0, .int 0, .ref a0, .ref a1, .ref a2, .ref a3, .int 0, .null, .long 1661435519983]))]) (wr := [(q_1, .inl (cI, 5, .inl (upd (upd (upd (upd (upd (fun _ => 0) (0 : Int32).toNatClampNeg 0) (1 : Int32).toNatClampNeg 0) (2 : Int32).toNatClampNeg 0) (3 : Int32).toNatClampNeg 0) (4 : Int32).toNatClampNeg 0)))]) [.int 0] [1] [0] ⟨hx, hb, hml, hown, hts⟩ (fun sz => c_X6_gainOf l dC dI cI cV cJ cL M a0 a1 a2 a3 0 0 0 (.null) 1661435519983 0 sz) q_ml_X6_168 q_im_X6_gainOf q_se_X6_gainOf q_ini_X6 q_co_X6_gainOf (n := 1) (by decide +kernel) rfl ⟨rfl, rfl⟩ ⟨Nat.le_of_ble_eq_true rfl, Nat.le_of_ble_eq_true rfl⟩ hP hD hS hA hK hN rfl rfl (by decide) (by decide) (by decide) rfl rfl rfl hl.1 rfl (Nat.le_of_ble_eq_true rfl) dX6_digest_156 ⟨Nat.le_of_ble_eq_true rfl, Nat.le_of_ble_eq_true rfl⟩ (fun r_19 u_18 H locs hu_18 hP hD hS => ?_)
  have hP : va_P (dC, dI) cls [(q_1, .inl (cI, 5, .inl (upd (upd (upd (upd (upd (fun _ => 0) (0 : Int32).toNatClampNeg 0) (1 : Int32).toNatClampNeg 0) (2 : Int32).toNatClampNeg 0) (3 : Int32).toNatClampNeg 0) (4 : Int32).toNatClampNeg 0))), (M, .inr (6, [.int 0, .int 0, .int 0, .int 0, .int 0, .ref a0, .ref a1, .ref a2, .ref a3, .int 0, .ref a3, .long 1661435519983]))] H := hP
  have hD : va_D A [(q_1, .inl (cI, 5, .inl (upd (upd (upd (upd (upd (fun _ => 0) (0 : Int32).toNatClampNeg 0) (1 : Int32).toNatClampNeg 0) (2 : Int32).toNatClampNeg 0) (3 : Int32).toNatClampNeg 0) (4 : Int32).toNatClampNeg 0))), (M, .inr (6, [.int 0, .int 0, .int 0, .int 0, .int 0, .ref a0, .ref a1, .ref a2, .ref a3, .int 0, .ref a3, .long 1661435519983]))] := hD
  obtain rfl := hu_18
  refine n_Vv (ci := 6) (q0 := 0) (wc := [(M, .inr (6, [.int 0, .int 0, .int 0, .int 0, .int 0, .ref a0, .ref a1, .ref a2, .ref a3, .int 0, .ref a3, .long 1661435519983]))]) (wr := [(q_1, .inl (cI, 5, .inl (upd (upd (upd (upd (upd (fun _ => 0) (0 : Int32).toNatClampNeg 0) (1 : Int32).toNatClampNeg 0) (2 : Int32).toNatClampNeg 0) (3 : Int32).toNatClampNeg 0) (4 : Int32).toNatClampNeg 0)))]) [.int 0] [1] [0] ⟨hx, hb, hml, hown, hts⟩ (fun sz => c_X6_add l dC dI cI cV cJ cL M a0 a1 a2 a3 0 0 0 (.ref a3) 1661435519983 0 51504501119473 (by decide +kernel) sz) q_ml_X6_243 q_im_X6_add q_se_X6_add q_ini_X6 q_co_X6_add (n := 1) (by decide +kernel) rfl ⟨rfl, rfl⟩ ⟨Nat.le_of_ble_eq_true rfl, Nat.le_of_ble_eq_true rfl⟩ hP hD hS hA hK hN rfl rfl (by decide) (by decide) (by decide) rfl rfl rfl hl.1 rfl (Nat.le_of_ble_eq_true rfl) dX6_digest_159 ⟨Nat.le_of_ble_eq_true rfl, Nat.le_of_ble_eq_true rfl⟩ (fun u_20 H locs hu_20 hP hD hS => ?_)
  have hP : va_P (dC, dI) cls [(q_1, .inl (cI, 5, .inl (upd (upd (upd (upd (upd (fun _ => 0) (0 : Int32).toNatClampNeg 0) (1 : Int32).toNatClampNeg 0) (2 : Int32).toNatClampNeg 0) (3 : Int32).toNatClampNeg 0) (4 : Int32).toNatClampNeg 0))), (M, .inr (6, [.int 0, .int 0, .int 0, .int 0, .int 0, .ref a0, .ref a1, .ref a2, .ref a3, .int 0, .ref a3, .long 51504501119473]))] H := hP
  have hD : va_D A [(q_1, .inl (cI, 5, .inl (upd (upd (upd (upd (upd (fun _ => 0) (0 : Int32).toNatClampNeg 0) (1 : Int32).toNatClampNeg 0) (2 : Int32).toNatClampNeg 0) (3 : Int32).toNatClampNeg 0) (4 : Int32).toNatClampNeg 0))), (M, .inr (6, [.int 0, .int 0, .int 0, .int 0, .int 0, .ref a0, .ref a1, .ref a2, .ref a3, .int 0, .ref a3, .long 51504501119473]))] := hD
  refine lv_iinc (v := 1) (lv' := [(2, .int 1), (4, .int 5), (5, .int 0), (3, .int 5), (1, .ref q_1), (0, .ref M)]) hx hb dX6_digest_162 hl (k := 0) rfl (by decide) (by decide) rfl (fun ls hl => ?_)
  refine lv_goto (tgt := 148) hx hb dX6_digest_165 (by decide) ?_
  refine lv_iload_n hx hb dX6_digest_148 rfl (lv_at hl 0 rfl) ?_
  refine lv_iconst (v := 4) hx hb dX6_digest_149 (by decide) ?_
  refine lv_icmp_ge (tgt := 168) hx hb dX6_digest_150 (by decide) (fun c_21 => ?_) (fun c_21 => ?_)
  · first | exact absurd c_21 (by decide) | exact absurd (by decide) c_21
  refine lv_aload_n hx hb dX6_digest_153 rfl (lv_at hl 5 rfl) ?_
  refine lv_aload_n hx hb dX6_digest_154 rfl (lv_at hl 5 rfl) ?_
  refine lv_iload_n hx hb dX6_digest_155 rfl (lv_at hl 0 rfl) ?_
  refine n_Vi (ci := 6) (q0 := 0) (wc := [(M, .inr (6, [.int 0, .int 0, .int 0, .int 0, .int 0, .ref a0, .ref a1, .ref a2, .ref a3, .int 0, .ref a3, .long 51504501119473]))]) (wr := [(q_1, .inl (cI, 5, .inl (upd (upd (upd (upd (upd (fun _ => 0) (0 : Int32).toNatClampNeg 0) (1 : Int32).toNatClampNeg 0) (2 : Int32).toNatClampNeg 0) (3 : Int32).toNatClampNeg 0) (4 : Int32).toNatClampNeg 0)))]) [.int 1] [1] [0] ⟨hx, hb, hml, hown, hts⟩ (fun sz => c_X6_gainOf l dC dI cI cV cJ cL M a0 a1 a2 a3 0 0 0 (.ref a3) 51504501119473 1 sz) q_ml_X6_168 q_im_X6_gainOf q_se_X6_gainOf q_ini_X6 q_co_X6_gainOf (n := 1) (by decide +kernel) rfl ⟨rfl, rfl⟩ ⟨Nat.le_of_ble_eq_true rfl, Nat.le_of_ble_eq_true rfl⟩ hP hD hS hA hK hN rfl rfl (by decide) (by decide) (by decide) rfl rfl rfl hl.1 rfl (Nat.le_of_ble_eq_true rfl) dX6_digest_156 ⟨Nat.le_of_ble_eq_true rfl, Nat.le_of_ble_eq_true rfl⟩ (fun r_23 u_22 H locs hu_22 hP hD hS => ?_)
  have hP : va_P (dC, dI) cls [(q_1, .inl (cI, 5, .inl (upd (upd (upd (upd (upd (fun _ => 0) (0 : Int32).toNatClampNeg 0) (1 : Int32).toNatClampNeg 0) (2 : Int32).toNatClampNeg 0) (3 : Int32).toNatClampNeg 0) (4 : Int32).toNatClampNeg 0))), (M, .inr (6, [.int 0, .int 0, .int 0, .int 0, .int 0, .ref a0, .ref a1, .ref a2, .ref a3, .int 0, .ref a3, .long 51504501119473]))] H := hP
  have hD : va_D A [(q_1, .inl (cI, 5, .inl (upd (upd (upd (upd (upd (fun _ => 0) (0 : Int32).toNatClampNeg 0) (1 : Int32).toNatClampNeg 0) (2 : Int32).toNatClampNeg 0) (3 : Int32).toNatClampNeg 0) (4 : Int32).toNatClampNeg 0))), (M, .inr (6, [.int 0, .int 0, .int 0, .int 0, .int 0, .ref a0, .ref a1, .ref a2, .ref a3, .int 0, .ref a3, .long 51504501119473]))] := hD
  obtain rfl := hu_22
  refine n_Vv (ci := 6) (q0 := 0) (wc := [(M, .inr (6, [.int 0, .int 0, .int 0, .int 0, .int 0, .ref a0, .ref a1, .ref a2, .ref a3, .int 0, .ref a3, .long 51504501119473]))]) (wr := [(q_1, .inl (cI, 5, .inl (upd (upd (upd (upd (upd (fun _ => 0) (0 : Int32).toNatClampNeg 0) (1 : Int32).toNatClampNeg 0) (2 : Int32).toNatClampNeg 0) (3 : Int32).toNatClampNeg 0) (4 : Int32).toNatClampNeg 0)))]) [.int 0] [1] [0] ⟨hx, hb, hml, hown, hts⟩ (fun sz => c_X6_add l dC dI cI cV cJ cL M a0 a1 a2 a3 0 0 0 (.ref a3) 51504501119473 0 1596639534703663 (by decide +kernel) sz) q_ml_X6_243 q_im_X6_add q_se_X6_add q_ini_X6 q_co_X6_add (n := 1) (by decide +kernel) rfl ⟨rfl, rfl⟩ ⟨Nat.le_of_ble_eq_true rfl, Nat.le_of_ble_eq_true rfl⟩ hP hD hS hA hK hN rfl rfl (by decide) (by decide) (by decide) rfl rfl rfl hl.1 rfl (Nat.le_of_ble_eq_true rfl) dX6_digest_159 ⟨Nat.le_of_ble_eq_true rfl, Nat.le_of_ble_eq_true rfl⟩ (fun u_24 H locs hu_24 hP hD hS => ?_)
  have hP : va_P (dC, dI) cls [(q_1, .inl (cI, 5, .inl (upd (upd (upd (upd (upd (fun _ => 0) (0 : Int32).toNatClampNeg 0) (1 : Int32).toNatClampNeg 0) (2 : Int32).toNatClampNeg 0) (3 : Int32).toNatClampNeg 0) (4 : Int32).toNatClampNeg 0))), (M, .inr (6, [.int 0, .int 0, .int 0, .int 0, .int 0, .ref a0, .ref a1, .ref a2, .ref a3, .int 0, .ref a3, .long 1596639534703663]))] H := hP
  have hD : va_D A [(q_1, .inl (cI, 5, .inl (upd (upd (upd (upd (upd (fun _ => 0) (0 : Int32).toNatClampNeg 0) (1 : Int32).toNatClampNeg 0) (2 : Int32).toNatClampNeg 0) (3 : Int32).toNatClampNeg 0) (4 : Int32).toNatClampNeg 0))), (M, .inr (6, [.int 0, .int 0, .int 0, .int 0, .int 0, .ref a0, .ref a1, .ref a2, .ref a3, .int 0, .ref a3, .long 1596639534703663]))] := hD
  refine lv_iinc (v := 2) (lv' := [(2, .int 2), (4, .int 5), (5, .int 0), (3, .int 5), (1, .ref q_1), (0, .ref M)]) hx hb dX6_digest_162 hl (k := 0) rfl (by decide) (by decide) rfl (fun ls hl => ?_)
  refine lv_goto (tgt := 148) hx hb dX6_digest_165 (by decide) ?_
  refine lv_iload_n hx hb dX6_digest_148 rfl (lv_at hl 0 rfl) ?_
  refine lv_iconst (v := 4) hx hb dX6_digest_149 (by decide) ?_
  refine lv_icmp_ge (tgt := 168) hx hb dX6_digest_150 (by decide) (fun c_25 => ?_) (fun c_25 => ?_)
  · first | exact absurd c_25 (by decide) | exact absurd (by decide) c_25
  refine lv_aload_n hx hb dX6_digest_153 rfl (lv_at hl 5 rfl) ?_
  refine lv_aload_n hx hb dX6_digest_154 rfl (lv_at hl 5 rfl) ?_
  refine lv_iload_n hx hb dX6_digest_155 rfl (lv_at hl 0 rfl) ?_
  refine n_Vi (ci := 6) (q0 := 0) (wc := [(M, .inr (6, [.int 0, .int 0, .int 0, .int 0, .int 0, .ref a0, .ref a1, .ref a2, .ref a3, .int 0, .ref a3, .long 1596639534703663]))]) (wr := [(q_1, .inl (cI, 5, .inl (upd (upd (upd (upd (upd (fun _ => 0) (0 : Int32).toNatClampNeg 0) (1 : Int32).toNatClampNeg 0) (2 : Int32).toNatClampNeg 0) (3 : Int32).toNatClampNeg 0) (4 : Int32).toNatClampNeg 0)))]) [.int 2] [1] [0] ⟨hx, hb, hml, hown, hts⟩ (fun sz => c_X6_gainOf l dC dI cI cV cJ cL M a0 a1 a2 a3 0 0 0 (.ref a3) 1596639534703663 2 sz) q_ml_X6_168 q_im_X6_gainOf q_se_X6_gainOf q_ini_X6 q_co_X6_gainOf (n := 1) (by decide +kernel) rfl ⟨rfl, rfl⟩ ⟨Nat.le_of_ble_eq_true rfl, Nat.le_of_ble_eq_true rfl⟩ hP hD hS hA hK hN rfl rfl (by decide) (by decide) (by decide) rfl rfl rfl hl.1 rfl (Nat.le_of_ble_eq_true rfl) dX6_digest_156 ⟨Nat.le_of_ble_eq_true rfl, Nat.le_of_ble_eq_true rfl⟩ (fun r_27 u_26 H locs hu_26 hP hD hS => ?_)
  have hP : va_P (dC, dI) cls [(q_1, .inl (cI, 5, .inl (upd (upd (upd (upd (upd (fun _ => 0) (0 : Int32).toNatClampNeg 0) (1 : Int32).toNatClampNeg 0) (2 : Int32).toNatClampNeg 0) (3 : Int32).toNatClampNeg 0) (4 : Int32).toNatClampNeg 0))), (M, .inr (6, [.int 0, .int 0, .int 0, .int 0, .int 0, .ref a0, .ref a1, .ref a2, .ref a3, .int 0, .ref a3, .long 1596639534703663]))] H := hP
  have hD : va_D A [(q_1, .inl (cI, 5, .inl (upd (upd (upd (upd (upd (fun _ => 0) (0 : Int32).toNatClampNeg 0) (1 : Int32).toNatClampNeg 0) (2 : Int32).toNatClampNeg 0) (3 : Int32).toNatClampNeg 0) (4 : Int32).toNatClampNeg 0))), (M, .inr (6, [.int 0, .int 0, .int 0, .int 0, .int 0, .ref a0, .ref a1, .ref a2, .ref a3, .int 0, .ref a3, .long 1596639534703663]))] := hD
  obtain rfl := hu_26
  refine n_Vv (ci := 6) (q0 := 0) (wc := [(M, .inr (6, [.int 0, .int 0, .int 0, .int 0, .int 0, .ref a0, .ref a1, .ref a2, .ref a3, .int 0, .ref a3, .long 1596639534703663]))]) (wr := [(q_1, .inl (cI, 5, .inl (upd (upd (upd (upd (upd (fun _ => 0) (0 : Int32).toNatClampNeg 0) (1 : Int32).toNatClampNeg 0) (2 : Int32).toNatClampNeg 0) (3 : Int32).toNatClampNeg 0) (4 : Int32).toNatClampNeg 0)))]) [.int 0] [1] [0] ⟨hx, hb, hml, hown, hts⟩ (fun sz => c_X6_add l dC dI cI cV cJ cL M a0 a1 a2 a3 0 0 0 (.ref a3) 1596639534703663 0 49495825575813553 (by decide +kernel) sz) q_ml_X6_243 q_im_X6_add q_se_X6_add q_ini_X6 q_co_X6_add (n := 1) (by decide +kernel) rfl ⟨rfl, rfl⟩ ⟨Nat.le_of_ble_eq_true rfl, Nat.le_of_ble_eq_true rfl⟩ hP hD hS hA hK hN rfl rfl (by decide) (by decide) (by decide) rfl rfl rfl hl.1 rfl (Nat.le_of_ble_eq_true rfl) dX6_digest_159 ⟨Nat.le_of_ble_eq_true rfl, Nat.le_of_ble_eq_true rfl⟩ (fun u_28 H locs hu_28 hP hD hS => ?_)
  have hP : va_P (dC, dI) cls [(q_1, .inl (cI, 5, .inl (upd (upd (upd (upd (upd (fun _ => 0) (0 : Int32).toNatClampNeg 0) (1 : Int32).toNatClampNeg 0) (2 : Int32).toNatClampNeg 0) (3 : Int32).toNatClampNeg 0) (4 : Int32).toNatClampNeg 0))), (M, .inr (6, [.int 0, .int 0, .int 0, .int 0, .int 0, .ref a0, .ref a1, .ref a2, .ref a3, .int 0, .ref a3, .long 49495825575813553]))] H := hP
  have hD : va_D A [(q_1, .inl (cI, 5, .inl (upd (upd (upd (upd (upd (fun _ => 0) (0 : Int32).toNatClampNeg 0) (1 : Int32).toNatClampNeg 0) (2 : Int32).toNatClampNeg 0) (3 : Int32).toNatClampNeg 0) (4 : Int32).toNatClampNeg 0))), (M, .inr (6, [.int 0, .int 0, .int 0, .int 0, .int 0, .ref a0, .ref a1, .ref a2, .ref a3, .int 0, .ref a3, .long 49495825575813553]))] := hD
  refine lv_iinc (v := 3) (lv' := [(2, .int 3), (4, .int 5), (5, .int 0), (3, .int 5), (1, .ref q_1), (0, .ref M)]) hx hb dX6_digest_162 hl (k := 0) rfl (by decide) (by decide) rfl (fun ls hl => ?_)
  refine lv_goto (tgt := 148) hx hb dX6_digest_165 (by decide) ?_
  refine lv_iload_n hx hb dX6_digest_148 rfl (lv_at hl 0 rfl) ?_
  refine lv_iconst (v := 4) hx hb dX6_digest_149 (by decide) ?_
  refine lv_icmp_ge (tgt := 168) hx hb dX6_digest_150 (by decide) (fun c_29 => ?_) (fun c_29 => ?_)
  · first | exact absurd c_29 (by decide) | exact absurd (by decide) c_29
  refine lv_aload_n hx hb dX6_digest_153 rfl (lv_at hl 5 rfl) ?_
  refine lv_aload_n hx hb dX6_digest_154 rfl (lv_at hl 5 rfl) ?_
  refine lv_iload_n hx hb dX6_digest_155 rfl (lv_at hl 0 rfl) ?_
  refine n_Vi (ci := 6) (q0 := 0) (wc := [(M, .inr (6, [.int 0, .int 0, .int 0, .int 0, .int 0, .ref a0, .ref a1, .ref a2, .ref a3, .int 0, .ref a3, .long 49495825575813553]))]) (wr := [(q_1, .inl (cI, 5, .inl (upd (upd (upd (upd (upd (fun _ => 0) (0 : Int32).toNatClampNeg 0) (1 : Int32).toNatClampNeg 0) (2 : Int32).toNatClampNeg 0) (3 : Int32).toNatClampNeg 0) (4 : Int32).toNatClampNeg 0)))]) [.int 3] [1] [0] ⟨hx, hb, hml, hown, hts⟩ (fun sz => c_X6_gainOf l dC dI cI cV cJ cL M a0 a1 a2 a3 0 0 0 (.ref a3) 49495825575813553 3 sz) q_ml_X6_168 q_im_X6_gainOf q_se_X6_gainOf q_ini_X6 q_co_X6_gainOf (n := 1) (by decide +kernel) rfl ⟨rfl, rfl⟩ ⟨Nat.le_of_ble_eq_true rfl, Nat.le_of_ble_eq_true rfl⟩ hP hD hS hA hK hN rfl rfl (by decide) (by decide) (by decide) rfl rfl rfl hl.1 rfl (Nat.le_of_ble_eq_true rfl) dX6_digest_156 ⟨Nat.le_of_ble_eq_true rfl, Nat.le_of_ble_eq_true rfl⟩ (fun r_31 u_30 H locs hu_30 hP hD hS => ?_)
  have hP : va_P (dC, dI) cls [(q_1, .inl (cI, 5, .inl (upd (upd (upd (upd (upd (fun _ => 0) (0 : Int32).toNatClampNeg 0) (1 : Int32).toNatClampNeg 0) (2 : Int32).toNatClampNeg 0) (3 : Int32).toNatClampNeg 0) (4 : Int32).toNatClampNeg 0))), (M, .inr (6, [.int 0, .int 0, .int 0, .int 0, .int 0, .ref a0, .ref a1, .ref a2, .ref a3, .int 0, .ref a3, .long 49495825575813553]))] H := hP
  have hD : va_D A [(q_1, .inl (cI, 5, .inl (upd (upd (upd (upd (upd (fun _ => 0) (0 : Int32).toNatClampNeg 0) (1 : Int32).toNatClampNeg 0) (2 : Int32).toNatClampNeg 0) (3 : Int32).toNatClampNeg 0) (4 : Int32).toNatClampNeg 0))), (M, .inr (6, [.int 0, .int 0, .int 0, .int 0, .int 0, .ref a0, .ref a1, .ref a2, .ref a3, .int 0, .ref a3, .long 49495825575813553]))] := hD
  obtain rfl := hu_30
  refine n_Vv (ci := 6) (q0 := 0) (wc := [(M, .inr (6, [.int 0, .int 0, .int 0, .int 0, .int 0, .ref a0, .ref a1, .ref a2, .ref a3, .int 0, .ref a3, .long 49495825575813553]))]) (wr := [(q_1, .inl (cI, 5, .inl (upd (upd (upd (upd (upd (fun _ => 0) (0 : Int32).toNatClampNeg 0) (1 : Int32).toNatClampNeg 0) (2 : Int32).toNatClampNeg 0) (3 : Int32).toNatClampNeg 0) (4 : Int32).toNatClampNeg 0)))]) [.int 0] [1] [0] ⟨hx, hb, hml, hown, hts⟩ (fun sz => c_X6_add l dC dI cI cV cJ cL M a0 a1 a2 a3 0 0 0 (.ref a3) 49495825575813553 0 1534370592850220143 (by decide +kernel) sz) q_ml_X6_243 q_im_X6_add q_se_X6_add q_ini_X6 q_co_X6_add (n := 1) (by decide +kernel) rfl ⟨rfl, rfl⟩ ⟨Nat.le_of_ble_eq_true rfl, Nat.le_of_ble_eq_true rfl⟩ hP hD hS hA hK hN rfl rfl (by decide) (by decide) (by decide) rfl rfl rfl hl.1 rfl (Nat.le_of_ble_eq_true rfl) dX6_digest_159 ⟨Nat.le_of_ble_eq_true rfl, Nat.le_of_ble_eq_true rfl⟩ (fun u_32 H locs hu_32 hP hD hS => ?_)
  have hP : va_P (dC, dI) cls [(q_1, .inl (cI, 5, .inl (upd (upd (upd (upd (upd (fun _ => 0) (0 : Int32).toNatClampNeg 0) (1 : Int32).toNatClampNeg 0) (2 : Int32).toNatClampNeg 0) (3 : Int32).toNatClampNeg 0) (4 : Int32).toNatClampNeg 0))), (M, .inr (6, [.int 0, .int 0, .int 0, .int 0, .int 0, .ref a0, .ref a1, .ref a2, .ref a3, .int 0, .ref a3, .long 1534370592850220143]))] H := hP
  have hD : va_D A [(q_1, .inl (cI, 5, .inl (upd (upd (upd (upd (upd (fun _ => 0) (0 : Int32).toNatClampNeg 0) (1 : Int32).toNatClampNeg 0) (2 : Int32).toNatClampNeg 0) (3 : Int32).toNatClampNeg 0) (4 : Int32).toNatClampNeg 0))), (M, .inr (6, [.int 0, .int 0, .int 0, .int 0, .int 0, .ref a0, .ref a1, .ref a2, .ref a3, .int 0, .ref a3, .long 1534370592850220143]))] := hD
  refine lv_iinc (v := 4) (lv' := [(2, .int 4), (4, .int 5), (5, .int 0), (3, .int 5), (1, .ref q_1), (0, .ref M)]) hx hb dX6_digest_162 hl (k := 0) rfl (by decide) (by decide) rfl (fun ls hl => ?_)
  refine lv_goto (tgt := 148) hx hb dX6_digest_165 (by decide) ?_
  refine lv_iload_n hx hb dX6_digest_148 rfl (lv_at hl 0 rfl) ?_
  refine lv_iconst (v := 4) hx hb dX6_digest_149 (by decide) ?_
  refine lv_icmp_ge (tgt := 168) hx hb dX6_digest_150 (by decide) (fun c_33 => ?_) (fun c_33 => ?_)
  rotate_left
  · first | exact absurd c_33 (by decide) | exact absurd (by decide) c_33
  refine lv_aload_n hx hb dX6_digest_168 rfl (lv_at hl 5 rfl) ?_
  refine va_get (D := (dC, dI)) (ci := 6) (v := .long 1534370592850220143) (C := RX6) (T := TX6) (N := 12) hx hb hts (fun w h => tb_in (inX6 w h)) hown hK hP 1 rfl rfl 11 (by decide) (hts _ (tb_in q_fl_X6_237)) (fun _ h9 => h9) rfl dX6_digest_169 ?_
  refine W.widen (k := 1) (n := 5) (Nat.le_of_ble_eq_true rfl) (Nat.le_of_ble_eq_true rfl) ?_
  have hP := hP.sub (ws' := []) [] rfl
  have hD := hD.sub (ws' := []) [] (by decide) rfl
  have hP9 := hP
  have hD9 := hD
  exact W.lret (v := 1534370592850220143) hx hb hr (fun t9 ht9 hW9 => ⟨⟨_, (), rfl, rfl, by rw [ht9]; exact hP9, va_K.moved hW9.alike hK, hD9⟩, hS.F ht9⟩) hS.2.2 dX6_digest_172
set_option maxHeartbeats 4000000 in
set_option maxRecDepth 100000 in
theorem c_X6_fullness (l : Launch) (dC : Nat → ClassId) (dI : Nat → Nat → Nat) (cI cV cJ cL : ClassId) (M a0 a1 a2 a3 : Nat)  (sz : Nat) : Met l yX6_fullness (Cond.code yX6_fullness cX6_fullness 6 (some .double) :: TB) ({ frames := 1, cells := 0, slots := 0, locals := 24 } : Room) (PW [.ref M] (dC, dI) [(M, .inr (6, [.int 0, .int 0, .int 0, .int 0, .int 0, .ref a0, .ref a1, .ref a2, .ref a3, .int 0, .null, .long 0]))] (TYP cI cV cJ cL) sz) (va_Qd (fun (r : UInt64) (_ : Unit) => r = FP.dconst0) (QB (dC, dI) (fun (_ : Unit) => []) (TYP cI cV cJ cL) (va_A [(M, .inr (6, [.int 0, .int 0, .int 0, .int 0, .int 0, .ref a0, .ref a1, .ref a2, .ref a3, .int 0, .null, .long 0]))] sz)) (va_A [(M, .inr (6, [.int 0, .int 0, .int 0, .int 0, .int 0, .ref a0, .ref a1, .ref a2, .ref a3, .int 0, .null, .long 0]))] sz)) 0 0 (va_A [(M, .inr (6, [.int 0, .int 0, .int 0, .int 0, .int 0, .ref a0, .ref a1, .ref a2, .ref a3, .int 0, .null, .long 0]))] sz) := by
  refine Met.ofW (cc := cX6_fullness) (maxL := 6) (ret := (some .double)) (by decide) rfl ?_
  intro p e s m args below meth c s₁ B hml hv
  obtain ⟨rfl, hsz, hP, hK, hD0, hN⟩ := hv
  have hx := B.exec
  have hb := B.bytes
  have hr := B.returns
  have hts := atoms_spec (ws := (Cond.code yX6_fullness cX6_fullness 6 (some .double) :: TB)) B.pre
  have hown : s.vm.findClass RX6 = some m.cls := findClass_of_methodNamed B.named
  have hlocks := B.notSynchronized
  subst hsz
  have hD := hD0.self (sz := s.heap.size)
  generalize hAe : va_A [(M, .inr (6, [.int 0, .int 0, .int 0, .int 0, .int 0, .ref a0, .ref a1, .ref a2, .ref a3, .int 0, .null, .long 0]))] s.heap.size = A at hD ⊢
  have hA : ∀ q : Nat, s.heap.size ≤ q → A q := fun q h => by rw [← hAe]; exact Or.inr h
  have hS : va_S A s.heap s.heap [] := va_S.rf
  have hl := lv_entry ([.ref M]) (n := 6) (Nat.le_of_ble_eq_true rfl)
  rw [lg_entry_eq]
  generalize (lg_sl ([.ref M]) ++ List.replicate (6 - (lg_sl ([.ref M])).length) Slot.unset).toArray = ls at hl ⊢
  have hl : lv_has ls 6 [(0, .ref M)] := hl
  refine lv_aload_n hx hb dX6_fullness_0 rfl (lv_at hl 0 rfl) ?_
  refine lv_iconst (v := 0) hx hb dX6_fullness_1 (by decide) ?_
  refine va_put (D := (dC, dI)) (ci := 6) (v := .int 0) (ty := .int) (C := RX6) (T := TX6) (N := 12) hx hb hts (fun w h => tb_in (inX6 w h)) tyX6 tyX6_ok nmX6 hown hK hP hD hS 0 rfl rfl 0 (by decide) (hts _ (tb_in q_fl_X6_24)) (fun _ h9 => h9) rfl (by decide +kernel) rfl rfl (Nat.le_of_ble_eq_true rfl) dX6_fullness_2 (fun H locs hP hD hS => ?_)
  have hP : va_P (dC, dI) cls [(M, .inr (6, [.int 0, .int 0, .int 0, .int 0, .int 0, .ref a0, .ref a1, .ref a2, .ref a3, .int 0, .null, .long 0]))] H := hP
  have hD : va_D A [(M, .inr (6, [.int 0, .int 0, .int 0, .int 0, .int 0, .ref a0, .ref a1, .ref a2, .ref a3, .int 0, .null, .long 0]))] := hD
  refine lv_iconst (v := 0) hx hb dX6_fullness_5 (by decide) ?_
  refine lv_istore_n (lv' := [(1, .int 0), (0, .ref M)]) hx hb dX6_fullness_6 rfl hl (by decide) rfl (fun ls hl => ?_)
  refine lv_iconst (v := 0) hx hb dX6_fullness_7 (by decide) ?_
  refine lv_istore_n (lv' := [(2, .int 0), (1, .int 0), (0, .ref M)]) hx hb dX6_fullness_8 rfl hl (by decide) rfl (fun ls hl => ?_)
  refine lv_iconst (v := 0) hx hb dX6_fullness_9 (by decide) ?_
  refine lv_istore_n (lv' := [(3, .int 0), (2, .int 0), (1, .int 0), (0, .ref M)]) hx hb dX6_fullness_10 rfl hl (by decide) rfl (fun ls hl => ?_)
  refine lv_iload_n hx hb dX6_fullness_11 rfl (lv_at hl 0 rfl) ?_
  refine lv_aload_n hx hb dX6_fullness_12 rfl (lv_at hl 3 rfl) ?_
  refine va_get (D := (dC, dI)) (ci := 6) (v := .int 0) (C := RX6) (T := TX6) (N := 12) hx hb hts (fun w h => tb_in (inX6 w h)) hown hK hP 0 rfl rfl 2 (by decide) (hts _ (tb_in q_fl_X6_35)) (fun _ h9 => h9) rfl dX6_fullness_13 ?_
  refine lv_icmp_ge (tgt := 127) hx hb dX6_fullness_16 (by decide) (fun c_1 => ?_) (fun c_1 => ?_)
  rotate_left
  · first | exact absurd c_1 (by decide) | exact absurd (by decide) c_1
  refine lv_iload_n hx hb dX6_fullness_127 rfl (lv_at hl 1 rfl) ?_
  refine lv_if_ne (tgt := 135) hx hb dX6_fullness_128 (by decide) (fun c_2 => ?_) (fun c_2 => ?_)
  · first | exact absurd c_2 (by decide) | exact absurd (by decide) c_2
  refine lv_dconst0 hx hb dX6_fullness_131 ?_
  refine lv_goto (tgt := 140) hx hb dX6_fullness_132 (by decide) ?_
  refine W.widen (k := 0) (n := 0) (Nat.le_of_ble_eq_true rfl) (Nat.le_of_ble_eq_true rfl) ?_
  have hP := hP.sub (ws' := []) [] rfl
  have hD := hD.sub (ws' := []) [] (by decide) rfl
  have hP9 := hP
  have hD9 := hD
  exact W.dret (v := FP.dconst0) hx hb hr (fun t9 ht9 hW9 => ⟨⟨_, (), rfl, rfl, by rw [ht9]; exact hP9, va_K.moved hW9.alike hK, hD9⟩, hS.F ht9⟩) hS.2.2 dX6_fullness_140
