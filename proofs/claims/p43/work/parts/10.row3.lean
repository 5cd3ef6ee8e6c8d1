set_option maxHeartbeats 4000000 in
set_option maxRecDepth 100000 in
theorem c_X2_becomeWith (l : Launch) (dC : Nat → ClassId) (dI : Nat → Nat → Nat) (cI cV : ClassId) (h a : Nat) (L : List Int32) (f : Nat → Int32) (hL : rw_ok L f) (o b : Nat) (M : List Int32) (g : Nat → Int32) (hM : rw_ok M g) (j : Int32) (i k : Nat) (hik : i ≤ k) (hk : k ≤ M.length) (sz : Nat) : Met l yX2_becomeWith (Cond.code yX2_becomeWith cX2_becomeWith 5 none :: TB) ({ frames := 2, cells := 0, slots := 0, locals := 45 } : Room) (PW [.ref h, .ref o, .int j, .int (nI i), .int (nI (k + 1))] (dC, dI) [(h, .inr (2, [.ref a, .int (nI L.length)])), (a, .inl (cI, 18, .inl f)), (o, .inr (2, [.ref b, .int (nI M.length)])), (b, .inl (cI, 18, .inl g))] (TY cI cV) sz) (va_Qv (fun u => rw_ok (rWith M j i k) u) (QB (dC, dI) (fun u => [(h, .inr (2, [.ref a, .int (nI ((rWith M j i k)).length)])), (a, .inl (cI, 18, .inl u)), (o, .inr (2, [.ref b, .int (nI M.length)])), (b, .inl (cI, 18, .inl g))]) (TY cI cV) (va_A [(h, .inr (2, [.ref a, .int (nI L.length)])), (a, .inl (cI, 18, .inl f)), (o, .inr (2, [.ref b, .int (nI M.length)])), (b, .inl (cI, 18, .inl g))] sz)) (va_A [(h, .inr (2, [.ref a, .int (nI L.length)])), (a, .inl (cI, 18, .inl f)), (o, .inr (2, [.ref b, .int (nI M.length)])), (b, .inl (cI, 18, .inl g))] sz)) 0 0 (va_A [(h, .inr (2, [.ref a, .int (nI L.length)])), (a, .inl (cI, 18, .inl f)), (o, .inr (2, [.ref b, .int (nI M.length)])), (b, .inl (cI, 18, .inl g))] sz) := by
  refine Met.ofW (cc := cX2_becomeWith) (maxL := 5) (ret := none) (by decide) rfl ?_
  intro p e s m args below meth c s₁ B hml hv
  obtain ⟨rfl, hsz, hP, hK, hD0, hN⟩ := hv
  have hx := B.exec
  have hb := B.bytes
  have hr := B.returns
  have hts := atoms_spec (ws := (Cond.code yX2_becomeWith cX2_becomeWith 5 none :: TB)) B.pre
  have hown : s.vm.findClass RX2 = some m.cls := findClass_of_methodNamed B.named
  have hlocks := B.notSynchronized
  subst hsz
  have hD := hD0.self (sz := s.heap.size)
  generalize hAe : va_A [(h, .inr (2, [.ref a, .int (nI L.length)])), (a, .inl (cI, 18, .inl f)), (o, .inr (2, [.ref b, .int (nI M.length)])), (b, .inl (cI, 18, .inl g))] s.heap.size = A at hD ⊢
  have hA : ∀ q : Nat, s.heap.size ≤ q → A q := fun q h => by rw [← hAe]; exact Or.inr h
  have hS : va_S A s.heap s.heap [] := va_S.rf
  have hl := lv_entry ([.ref h, .ref o, .int j, .int (nI i), .int (nI (k + 1))]) (n := 5) (Nat.le_of_ble_eq_true rfl)
  rw [lg_entry_eq]
  generalize (lg_sl ([.ref h, .ref o, .int j, .int (nI i), .int (nI (k + 1))]) ++ List.replicate (5 - (lg_sl ([.ref h, .ref o, .int j, .int (nI i), .int (nI (k + 1))])).length) Slot.unset).toArray = ls at hl ⊢
  have hl : lv_has ls 5 [(0, .ref h), (1, .ref o), (2, .int j), (3, .int (nI i)), (4, .int (nI (k + 1)))] := hl
  have hMl := hM.1
  refine lv_aload_n hx hb dX2_becomeWith_0 rfl (lv_at hl 0 rfl) ?_
  refine lv_iconst (v := nI ([] : List Int32).length) hx hb dX2_becomeWith_1 rfl ?_
  refine va_put (D := (dC, dI)) (ci := 2) (v := .int (nI ([] : List Int32).length)) (ty := .int) (C := RX2) (T := TX2) (N := 2) hx hb hts (fun w h => tb_in (inX2 w h)) tyX2 tyX2_ok nmX2 hown hK hP hD hS 0 rfl rfl 1 (by decide) (hts _ (tb_in q_fl_X2_15)) (fun _ h9 => h9) rfl (by decide +kernel) rfl rfl (Nat.le_of_ble_eq_true rfl) dX2_becomeWith_2 (fun H locs hP hD hS => ?_)
  have hP : va_P (dC, dI) cls [(h, .inr (2, [.ref a, .int (nI ([] : List Int32).length)])), (a, .inl (cI, 18, .inl f)), (o, .inr (2, [.ref b, .int (nI M.length)])), (b, .inl (cI, 18, .inl g))] H := hP
  have hD : va_D A [(h, .inr (2, [.ref a, .int (nI ([] : List Int32).length)])), (a, .inl (cI, 18, .inl f)), (o, .inr (2, [.ref b, .int (nI M.length)])), (b, .inl (cI, 18, .inl g))] := hD
  refine lv_aload_n hx hb dX2_becomeWith_5 rfl (lv_at hl 0 rfl) ?_
  refine lv_aload_n hx hb dX2_becomeWith_6 rfl (lv_at hl 1 rfl) ?_
  refine lv_iconst (v := nI 0) hx hb dX2_becomeWith_7 rfl ?_
  refine lv_iload_n hx hb dX2_becomeWith_8 rfl (lv_at hl 3 rfl) ?_
  refine k_Vv (ci := 2) (q0 := 0) (wc := [(h, .inr (2, [.ref a, .int (nI ([] : List Int32).length)])), (a, .inl (cI, 18, .inl f)), (o, .inr (2, [.ref b, .int (nI M.length)])), (b, .inl (cI, 18, .inl g))]) (wr := []) [.ref o, .int (nI 0), .int (nI i)] [0, 1, 2, 3] [] ⟨hx, hb, hml, hown, hts⟩ (fun sz => c_X2_addPart l dC dI cI cV h a (([] : List Int32)) f (rw_nil f) o b M g hM 0 (nI i) (Nat.zero_le _) sz) q_ml_X2_40 q_im_X2_addPart q_se_X2_addPart q_ini_X2 q_co_X2_addPart (n := 3) (by decide +kernel) rfl ⟨rfl, rfl⟩ ⟨Nat.le_of_ble_eq_true rfl, Nat.le_of_ble_eq_true rfl⟩ hP hD hS hA hK hN rfl rfl (by decide) (by decide) (by decide) rfl rfl rfl hl.1 rfl (Nat.le_of_ble_eq_true rfl) dX2_becomeWith_9 ⟨Nat.le_of_ble_eq_true rfl, Nat.le_of_ble_eq_true rfl⟩ (fun u_1 H locs huu_1 hP hD hS => ?_)
  have hP := hP.sub (ws' := [(h, .inr (2, [.ref a, .int (nI (((([] : List Int32) ++ (M.take (nI i).toNatClampNeg).drop 0).take 18)).length)])), (a, .inl (cI, 18, .inl u_1)), (o, .inr (2, [.ref b, .int (nI M.length)])), (b, .inl (cI, 18, .inl g))]) [0, 1, 2, 3] rfl
  have hD := hD.sub (ws' := [(h, .inr (2, [.ref a, .int (nI (((([] : List Int32) ++ (M.take (nI i).toNatClampNeg).drop 0).take 18)).length)])), (a, .inl (cI, 18, .inl u_1)), (o, .inr (2, [.ref b, .int (nI M.length)])), (b, .inl (cI, 18, .inl g))]) [0, 1, 2, 3] (by decide) rfl
  refine lv_aload_n hx hb dX2_becomeWith_12 rfl (lv_at hl 0 rfl) ?_
  refine lv_iload_n hx hb dX2_becomeWith_13 rfl (lv_at hl 2 rfl) ?_
  refine k_Ni [.int j] ⟨hx, hb, hml, hown, hts⟩ (c_X5_fetchOf l j) (q_mn_X2_44 hN) q_st_X5_fetchOf q_ini_X5 q_co_X5_fetchOf (n := 1) (by decide +kernel) rfl ⟨rfl, rfl⟩ ⟨Nat.le_of_ble_eq_true rfl, Nat.le_of_ble_eq_true rfl⟩ hl.1 rfl (Nat.le_of_ble_eq_true rfl) dX2_becomeWith_14 ⟨Nat.le_of_ble_eq_true rfl, Nat.le_of_ble_eq_true rfl⟩ (fun r_2 hr_2 => ?_)
  subst hr_2
  refine k_Vv (ci := 2) (q0 := 0) (wc := [(h, .inr (2, [.ref a, .int (nI (((([] : List Int32) ++ (M.take (nI i).toNatClampNeg).drop 0).take 18)).length)])), (a, .inl (cI, 18, .inl u_1))]) (wr := [(o, .inr (2, [.ref b, .int (nI M.length)])), (b, .inl (cI, 18, .inl g))]) [.int (fOf j)] [0, 1] [2, 3] ⟨hx, hb, hml, hown, hts⟩ (fun sz => c_X2_add l dC dI cI cV h a (((([] : List Int32) ++ (M.take (nI i).toNatClampNeg).drop 0).take 18)) u_1 huu_1 (fOf j) sz) q_ml_X2_36 q_im_X2_add q_se_X2_add q_ini_X2 q_co_X2_add (n := 1) (by decide +kernel) rfl ⟨rfl, rfl⟩ ⟨Nat.le_of_ble_eq_true rfl, Nat.le_of_ble_eq_true rfl⟩ hP hD hS hA hK hN rfl rfl (by decide) (by decide) (by decide) rfl rfl rfl hl.1 rfl (Nat.le_of_ble_eq_true rfl) dX2_becomeWith_17 ⟨Nat.le_of_ble_eq_true rfl, Nat.le_of_ble_eq_true rfl⟩ (fun u_3 H locs huu_3 hP hD hS => ?_)
  have hP := hP.sub (ws' := [(h, .inr (2, [.ref a, .int (nI (((((([] : List Int32) ++ (M.take (nI i).toNatClampNeg).drop 0).take 18) ++ [fOf j]).take 18)).length)])), (a, .inl (cI, 18, .inl u_3)), (o, .inr (2, [.ref b, .int (nI M.length)])), (b, .inl (cI, 18, .inl g))]) [2, 3, 0, 1] rfl
  have hD := hD.sub (ws' := [(h, .inr (2, [.ref a, .int (nI (((((([] : List Int32) ++ (M.take (nI i).toNatClampNeg).drop 0).take 18) ++ [fOf j]).take 18)).length)])), (a, .inl (cI, 18, .inl u_3)), (o, .inr (2, [.ref b, .int (nI M.length)])), (b, .inl (cI, 18, .inl g))]) [2, 3, 0, 1] (by decide) rfl
  refine lv_aload_n hx hb dX2_becomeWith_20 rfl (lv_at hl 0 rfl) ?_
  refine lv_aload_n hx hb dX2_becomeWith_21 rfl (lv_at hl 1 rfl) ?_
  refine lv_iload_n hx hb dX2_becomeWith_22 rfl (lv_at hl 3 rfl) ?_
  refine lv_iload hx hb dX2_becomeWith_23 (lv_at hl 4 rfl) ?_
  refine lv_iconst (v := 1) hx hb dX2_becomeWith_25 (by decide) ?_
  refine lv_isub hx hb dX2_becomeWith_26 ?_
  rw [nI_pred]
  refine k_Vv (ci := 2) (q0 := 0) (wc := [(h, .inr (2, [.ref a, .int (nI (((((([] : List Int32) ++ (M.take (nI i).toNatClampNeg).drop 0).take 18) ++ [fOf j]).take 18)).length)])), (a, .inl (cI, 18, .inl u_3)), (o, .inr (2, [.ref b, .int (nI M.length)])), (b, .inl (cI, 18, .inl g))]) (wr := []) [.ref o, .int (nI i), .int (nI k)] [0, 1, 2, 3] [] ⟨hx, hb, hml, hown, hts⟩ (fun sz => c_X2_addPart l dC dI cI cV h a (((((([] : List Int32) ++ (M.take (nI i).toNatClampNeg).drop 0).take 18) ++ [fOf j]).take 18)) u_3 huu_3 o b M g hM i (nI k) (by omega) sz) q_ml_X2_40 q_im_X2_addPart q_se_X2_addPart q_ini_X2 q_co_X2_addPart (n := 3) (by decide +kernel) rfl ⟨rfl, rfl⟩ ⟨Nat.le_of_ble_eq_true rfl, Nat.le_of_ble_eq_true rfl⟩ hP hD hS hA hK hN rfl rfl (by decide) (by decide) (by decide) rfl rfl rfl hl.1 rfl (Nat.le_of_ble_eq_true rfl) dX2_becomeWith_27 ⟨Nat.le_of_ble_eq_true rfl, Nat.le_of_ble_eq_true rfl⟩ (fun u_4 H locs huu_4 hP hD hS => ?_)
  have hP := hP.sub (ws' := [(h, .inr (2, [.ref a, .int (nI (((((((([] : List Int32) ++ (M.take (nI i).toNatClampNeg).drop 0).take 18) ++ [fOf j]).take 18) ++ (M.take (nI k).toNatClampNeg).drop i).take 18)).length)])), (a, .inl (cI, 18, .inl u_4)), (o, .inr (2, [.ref b, .int (nI M.length)])), (b, .inl (cI, 18, .inl g))]) [0, 1, 2, 3] rfl
  have hD := hD.sub (ws' := [(h, .inr (2, [.ref a, .int (nI (((((((([] : List Int32) ++ (M.take (nI i).toNatClampNeg).drop 0).take 18) ++ [fOf j]).take 18) ++ (M.take (nI k).toNatClampNeg).drop i).take 18)).length)])), (a, .inl (cI, 18, .inl u_4)), (o, .inr (2, [.ref b, .int (nI M.length)])), (b, .inl (cI, 18, .inl g))]) [0, 1, 2, 3] (by decide) rfl
  refine lv_aload_n hx hb dX2_becomeWith_30 rfl (lv_at hl 0 rfl) ?_
  refine lv_iload_n hx hb dX2_becomeWith_31 rfl (lv_at hl 2 rfl) ?_
  refine k_Ni [.int j] ⟨hx, hb, hml, hown, hts⟩ (c_X5_bringOf l j) (q_mn_X2_26 hN) q_st_X5_bringOf q_ini_X5 q_co_X5_bringOf (n := 1) (by decide +kernel) rfl ⟨rfl, rfl⟩ ⟨Nat.le_of_ble_eq_true rfl, Nat.le_of_ble_eq_true rfl⟩ hl.1 rfl (Nat.le_of_ble_eq_true rfl) dX2_becomeWith_32 ⟨Nat.le_of_ble_eq_true rfl, Nat.le_of_ble_eq_true rfl⟩ (fun r_5 hr_5 => ?_)
  subst hr_5
  refine k_Vv (ci := 2) (q0 := 0) (wc := [(h, .inr (2, [.ref a, .int (nI (((((((([] : List Int32) ++ (M.take (nI i).toNatClampNeg).drop 0).take 18) ++ [fOf j]).take 18) ++ (M.take (nI k).toNatClampNeg).drop i).take 18)).length)])), (a, .inl (cI, 18, .inl u_4))]) (wr := [(o, .inr (2, [.ref b, .int (nI M.length)])), (b, .inl (cI, 18, .inl g))]) [.int (bOf j)] [0, 1] [2, 3] ⟨hx, hb, hml, hown, hts⟩ (fun sz => c_X2_add l dC dI cI cV h a (((((((([] : List Int32) ++ (M.take (nI i).toNatClampNeg).drop 0).take 18) ++ [fOf j]).take 18) ++ (M.take (nI k).toNatClampNeg).drop i).take 18)) u_4 huu_4 (bOf j) sz) q_ml_X2_36 q_im_X2_add q_se_X2_add q_ini_X2 q_co_X2_add (n := 1) (by decide +kernel) rfl ⟨rfl, rfl⟩ ⟨Nat.le_of_ble_eq_true rfl, Nat.le_of_ble_eq_true rfl⟩ hP hD hS hA hK hN rfl rfl (by decide) (by decide) (by decide) rfl rfl rfl hl.1 rfl (Nat.le_of_ble_eq_true rfl) dX2_becomeWith_35 ⟨Nat.le_of_ble_eq_true rfl, Nat.le_of_ble_eq_true rfl⟩ (fun u_6 H locs huu_6 hP hD hS => ?_)
  have hP := hP.sub (ws' := [(h, .inr (2, [.ref a, .int (nI (((((((((([] : List Int32) ++ (M.take (nI i).toNatClampNeg).drop 0).take 18) ++ [fOf j]).take 18) ++ (M.take (nI k).toNatClampNeg).drop i).take 18) ++ [bOf j]).take 18)).length)])), (a, .inl (cI, 18, .inl u_6)), (o, .inr (2, [.ref b, .int (nI M.length)])), (b, .inl (cI, 18, .inl g))]) [2, 3, 0, 1] rfl
  have hD := hD.sub (ws' := [(h, .inr (2, [.ref a, .int (nI (((((((((([] : List Int32) ++ (M.take (nI i).toNatClampNeg).drop 0).take 18) ++ [fOf j]).take 18) ++ (M.take (nI k).toNatClampNeg).drop i).take 18) ++ [bOf j]).take 18)).length)])), (a, .inl (cI, 18, .inl u_6)), (o, .inr (2, [.ref b, .int (nI M.length)])), (b, .inl (cI, 18, .inl g))]) [2, 3, 0, 1] (by decide) rfl
  refine lv_aload_n hx hb dX2_becomeWith_38 rfl (lv_at hl 0 rfl) ?_
  refine lv_aload_n hx hb dX2_becomeWith_39 rfl (lv_at hl 1 rfl) ?_
  refine lv_iload hx hb dX2_becomeWith_40 (lv_at hl 4 rfl) ?_
  refine lv_iconst (v := 1) hx hb dX2_becomeWith_42 (by decide) ?_
  refine lv_isub hx hb dX2_becomeWith_43 ?_
  rw [nI_pred]
  refine lv_aload_n hx hb dX2_becomeWith_44 rfl (lv_at hl 1 rfl) ?_
  refine va_get (D := (dC, dI)) (ci := 2) (v := .int (nI M.length)) (C := RX2) (T := TX2) (N := 2) hx hb hts (fun w h => tb_in (inX2 w h)) hown hK hP 2 rfl rfl 1 (by decide) (hts _ (tb_in q_fl_X2_15)) (fun _ h9 => h9) rfl dX2_becomeWith_45 ?_
  refine k_Vv (ci := 2) (q0 := 0) (wc := [(h, .inr (2, [.ref a, .int (nI (((((((((([] : List Int32) ++ (M.take (nI i).toNatClampNeg).drop 0).take 18) ++ [fOf j]).take 18) ++ (M.take (nI k).toNatClampNeg).drop i).take 18) ++ [bOf j]).take 18)).length)])), (a, .inl (cI, 18, .inl u_6)), (o, .inr (2, [.ref b, .int (nI M.length)])), (b, .inl (cI, 18, .inl g))]) (wr := []) [.ref o, .int (nI k), .int (nI M.length)] [0, 1, 2, 3] [] ⟨hx, hb, hml, hown, hts⟩ (fun sz => c_X2_addPart l dC dI cI cV h a (((((((((([] : List Int32) ++ (M.take (nI i).toNatClampNeg).drop 0).take 18) ++ [fOf j]).take 18) ++ (M.take (nI k).toNatClampNeg).drop i).take 18) ++ [bOf j]).take 18)) u_6 huu_6 o b M g hM k (nI M.length) (by omega) sz) q_ml_X2_40 q_im_X2_addPart q_se_X2_addPart q_ini_X2 q_co_X2_addPart (n := 3) (by decide +kernel) rfl ⟨rfl, rfl⟩ ⟨Nat.le_of_ble_eq_true rfl, Nat.le_of_ble_eq_true rfl⟩ hP hD hS hA hK hN rfl rfl (by decide) (by decide) (by decide) rfl rfl rfl hl.1 rfl (Nat.le_of_ble_eq_true rfl) dX2_becomeWith_48 ⟨Nat.le_of_ble_eq_true rfl, Nat.le_of_ble_eq_true rfl⟩ (fun u_7 H locs huu_7 hP hD hS => ?_)
  have hP := hP.sub (ws' := [(h, .inr (2, [.ref a, .int (nI (((((((((((([] : List Int32) ++ (M.take (nI i).toNatClampNeg).drop 0).take 18) ++ [fOf j]).take 18) ++ (M.take (nI k).toNatClampNeg).drop i).take 18) ++ [bOf j]).take 18) ++ (M.take (nI M.length).toNatClampNeg).drop k).take 18)).length)])), (a, .inl (cI, 18, .inl u_7)), (o, .inr (2, [.ref b, .int (nI M.length)])), (b, .inl (cI, 18, .inl g))]) [0, 1, 2, 3] rfl
  have hD := hD.sub (ws' := [(h, .inr (2, [.ref a, .int (nI (((((((((((([] : List Int32) ++ (M.take (nI i).toNatClampNeg).drop 0).take 18) ++ [fOf j]).take 18) ++ (M.take (nI k).toNatClampNeg).drop i).take 18) ++ [bOf j]).take 18) ++ (M.take (nI M.length).toNatClampNeg).drop k).take 18)).length)])), (a, .inl (cI, 18, .inl u_7)), (o, .inr (2, [.ref b, .int (nI M.length)])), (b, .inl (cI, 18, .inl g))]) [0, 1, 2, 3] (by decide) rfl
  have e9 : ((((((((((([] : List Int32) ++ (M.take (nI i).toNatClampNeg).drop 0).take 18) ++ [fOf j]).take 18) ++ (M.take (nI k).toNatClampNeg).drop i).take 18) ++ [bOf j]).take 18) ++ (M.take (nI M.length).toNatClampNeg).drop k).take 18) = rWith M j i k := by rw [nI_clamp (by omega), nI_clamp (by omega), nI_clamp (by omega), List.take_length]; unfold rWith; simp only [rTake_app, List.nil_append, List.drop_zero]
  rw [e9] at hP hD
  have hP9 := hP
  have hD9 := hD
  exact W.vret hx hb hr (fun t9 ht9 hW9 => ⟨⟨u_7, rfl, by rw [← e9]; exact huu_7, by rw [ht9]; exact hP9, va_K.moved hW9.alike hK, hD9⟩, hS.F ht9⟩) hS.2.2 dX2_becomeWith_51
set_option maxHeartbeats 4000000 in
set_option maxRecDepth 100000 in
theorem c_X2_becomeJoined (l : Launch) (dC : Nat → ClassId) (dI : Nat → Nat → Nat) (cI cV : ClassId) (h a : Nat) (L : List Int32) (f : Nat → Int32) (hL : rw_ok L f) (o b : Nat) (M : List Int32) (g : Nat → Int32) (hM : rw_ok M g) (o2 b2 : Nat) (M2 : List Int32) (g2 : Nat → Int32) (hM2 : rw_ok M2 g2) (i k : Nat) (hi : i ≤ M.length) (hk : k ≤ M2.length) (sz : Nat) : Met l yX2_becomeJoined (Cond.code yX2_becomeJoined cX2_becomeJoined 5 none :: TB) ({ frames := 2, cells := 0, slots := 0, locals := 45 } : Room) (PW [.ref h, .ref o, .int (nI i), .ref o2, .int (nI k)] (dC, dI) [(h, .inr (2, [.ref a, .int (nI L.length)])), (a, .inl (cI, 18, .inl f)), (o, .inr (2, [.ref b, .int (nI M.length)])), (b, .inl (cI, 18, .inl g)), (o2, .inr (2, [.ref b2, .int (nI M2.length)])), (b2, .inl (cI, 18, .inl g2))] (TY cI cV) sz) (va_Qv (fun u => rw_ok (rJoined M M2 i k) u) (QB (dC, dI) (fun u => [(h, .inr (2, [.ref a, .int (nI ((rJoined M M2 i k)).length)])), (a, .inl (cI, 18, .inl u)), (o, .inr (2, [.ref b, .int (nI M.length)])), (b, .inl (cI, 18, .inl g)), (o2, .inr (2, [.ref b2, .int (nI M2.length)])), (b2, .inl (cI, 18, .inl g2))]) (TY cI cV) (va_A [(h, .inr (2, [.ref a, .int (nI L.length)])), (a, .inl (cI, 18, .inl f)), (o, .inr (2, [.ref b, .int (nI M.length)])), (b, .inl (cI, 18, .inl g)), (o2, .inr (2, [.ref b2, .int (nI M2.length)])), (b2, .inl (cI, 18, .inl g2))] sz)) (va_A [(h, .inr (2, [.ref a, .int (nI L.length)])), (a, .inl (cI, 18, .inl f)), (o, .inr (2, [.ref b, .int (nI M.length)])), (b, .inl (cI, 18, .inl g)), (o2, .inr (2, [.ref b2, .int (nI M2.length)])), (b2, .inl (cI, 18, .inl g2))] sz)) 0 0 (va_A [(h, .inr (2, [.ref a, .int (nI L.length)])), (a, .inl (cI, 18, .inl f)), (o, .inr (2, [.ref b, .int (nI M.length)])), (b, .inl (cI, 18, .inl g)), (o2, .inr (2, [.ref b2, .int (nI M2.length)])), (b2, .inl (cI, 18, .inl g2))] sz) := by
  refine Met.ofW (cc := cX2_becomeJoined) (maxL := 5) (ret := none) (by decide) rfl ?_
  intro p e s m args below meth c s₁ B hml hv
  obtain ⟨rfl, hsz, hP, hK, hD0, hN⟩ := hv
  have hx := B.exec
  have hb := B.bytes
  have hr := B.returns
  have hts := atoms_spec (ws := (Cond.code yX2_becomeJoined cX2_becomeJoined 5 none :: TB)) B.pre
  have hown : s.vm.findClass RX2 = some m.cls := findClass_of_methodNamed B.named
  have hlocks := B.notSynchronized
  subst hsz
  have hD := hD0.self (sz := s.heap.size)
  generalize hAe : va_A [(h, .inr (2, [.ref a, .int (nI L.length)])), (a, .inl (cI, 18, .inl f)), (o, .inr (2, [.ref b, .int (nI M.length)])), (b, .inl (cI, 18, .inl g)), (o2, .inr (2, [.ref b2, .int (nI M2.length)])), (b2, .inl (cI, 18, .inl g2))] s.heap.size = A at hD ⊢
  have hA : ∀ q : Nat, s.heap.size ≤ q → A q := fun q h => by rw [← hAe]; exact Or.inr h
  have hS : va_S A s.heap s.heap [] := va_S.rf
  have hl := lv_entry ([.ref h, .ref o, .int (nI i), .ref o2, .int (nI k)]) (n := 5) (Nat.le_of_ble_eq_true rfl)
  rw [lg_entry_eq]
  generalize (lg_sl ([.ref h, .ref o, .int (nI i), .ref o2, .int (nI k)]) ++ List.replicate (5 - (lg_sl ([.ref h, .ref o, .int (nI i), .ref o2, .int (nI k)])).length) Slot.unset).toArray = ls at hl ⊢
  have hl : lv_has ls 5 [(0, .ref h), (1, .ref o), (2, .int (nI i)), (3, .ref o2), (4, .int (nI k))] := hl
  have hMl := hM.1
  have hMl2 := hM2.1
  refine lv_aload_n hx hb dX2_becomeJoined_0 rfl (lv_at hl 0 rfl) ?_
  refine lv_iconst (v := nI ([] : List Int32).length) hx hb dX2_becomeJoined_1 rfl ?_
  refine va_put (D := (dC, dI)) (ci := 2) (v := .int (nI ([] : List Int32).length)) (ty := .int) (C := RX2) (T := TX2) (N := 2) hx hb hts (fun w h => tb_in (inX2 w h)) tyX2 tyX2_ok nmX2 hown hK hP hD hS 0 rfl rfl 1 (by decide) (hts _ (tb_in q_fl_X2_15)) (fun _ h9 => h9) rfl (by decide +kernel) rfl rfl (Nat.le_of_ble_eq_true rfl) dX2_becomeJoined_2 (fun H locs hP hD hS => ?_)
  have hP : va_P (dC, dI) cls [(h, .inr (2, [.ref a, .int (nI ([] : List Int32).length)])), (a, .inl (cI, 18, .inl f)), (o, .inr (2, [.ref b, .int (nI M.length)])), (b, .inl (cI, 18, .inl g)), (o2, .inr (2, [.ref b2, .int (nI M2.length)])), (b2, .inl (cI, 18, .inl g2))] H := hP
  have hD : va_D A [(h, .inr (2, [.ref a, .int (nI ([] : List Int32).length)])), (a, .inl (cI, 18, .inl f)), (o, .inr (2, [.ref b, .int (nI M.length)])), (b, .inl (cI, 18, .inl g)), (o2, .inr (2, [.ref b2, .int (nI M2.length)])), (b2, .inl (cI, 18, .inl g2))] := hD
  refine lv_aload_n hx hb dX2_becomeJoined_5 rfl (lv_at hl 0 rfl) ?_
  refine lv_aload_n hx hb dX2_becomeJoined_6 rfl (lv_at hl 1 rfl) ?_
  refine lv_iconst (v := nI 0) hx hb dX2_becomeJoined_7 rfl ?_
  refine lv_iload_n hx hb dX2_becomeJoined_8 rfl (lv_at hl 2 rfl) ?_
  refine k_Vv (ci := 2) (q0 := 0) (wc := [(h, .inr (2, [.ref a, .int (nI ([] : List Int32).length)])), (a, .inl (cI, 18, .inl f)), (o, .inr (2, [.ref b, .int (nI M.length)])), (b, .inl (cI, 18, .inl g))]) (wr := [(o2, .inr (2, [.ref b2, .int (nI M2.length)])), (b2, .inl (cI, 18, .inl g2))]) [.ref o, .int (nI 0), .int (nI i)] [0, 1, 2, 3] [4, 5] ⟨hx, hb, hml, hown, hts⟩ (fun sz => c_X2_addPart l dC dI cI cV h a (([] : List Int32)) f (rw_nil f) o b M g hM 0 (nI i) (Nat.zero_le _) sz) q_ml_X2_40 q_im_X2_addPart q_se_X2_addPart q_ini_X2 q_co_X2_addPart (n := 3) (by decide +kernel) rfl ⟨rfl, rfl⟩ ⟨Nat.le_of_ble_eq_true rfl, Nat.le_of_ble_eq_true rfl⟩ hP hD hS hA hK hN rfl rfl (by decide) (by decide) (by decide) rfl rfl rfl hl.1 rfl (Nat.le_of_ble_eq_true rfl) dX2_becomeJoined_9 ⟨Nat.le_of_ble_eq_true rfl, Nat.le_of_ble_eq_true rfl⟩ (fun u_1 H locs huu_1 hP hD hS => ?_)
  have hP := hP.sub (ws' := [(h, .inr (2, [.ref a, .int (nI (((([] : List Int32) ++ (M.take (nI i).toNatClampNeg).drop 0).take 18)).length)])), (a, .inl (cI, 18, .inl u_1)), (o, .inr (2, [.ref b, .int (nI M.length)])), (b, .inl (cI, 18, .inl g)), (o2, .inr (2, [.ref b2, .int (nI M2.length)])), (b2, .inl (cI, 18, .inl g2))]) [2, 3, 4, 5, 0, 1] rfl
  have hD := hD.sub (ws' := [(h, .inr (2, [.ref a, .int (nI (((([] : List Int32) ++ (M.take (nI i).toNatClampNeg).drop 0).take 18)).length)])), (a, .inl (cI, 18, .inl u_1)), (o, .inr (2, [.ref b, .int (nI M.length)])), (b, .inl (cI, 18, .inl g)), (o2, .inr (2, [.ref b2, .int (nI M2.length)])), (b2, .inl (cI, 18, .inl g2))]) [2, 3, 4, 5, 0, 1] (by decide) rfl
  refine lv_aload_n hx hb dX2_becomeJoined_12 rfl (lv_at hl 0 rfl) ?_
  refine lv_aload_n hx hb dX2_becomeJoined_13 rfl (lv_at hl 3 rfl) ?_
  refine lv_iload hx hb dX2_becomeJoined_14 (lv_at hl 4 rfl) ?_
  refine lv_aload_n hx hb dX2_becomeJoined_16 rfl (lv_at hl 3 rfl) ?_
  refine va_get (D := (dC, dI)) (ci := 2) (v := .int (nI M2.length)) (C := RX2) (T := TX2) (N := 2) hx hb hts (fun w h => tb_in (inX2 w h)) hown hK hP 4 rfl rfl 1 (by decide) (hts _ (tb_in q_fl_X2_15)) (fun _ h9 => h9) rfl dX2_becomeJoined_17 ?_
  refine k_Vv (ci := 2) (q0 := 0) (wc := [(h, .inr (2, [.ref a, .int (nI (((([] : List Int32) ++ (M.take (nI i).toNatClampNeg).drop 0).take 18)).length)])), (a, .inl (cI, 18, .inl u_1)), (o2, .inr (2, [.ref b2, .int (nI M2.length)])), (b2, .inl (cI, 18, .inl g2))]) (wr := [(o, .inr (2, [.ref b, .int (nI M.length)])), (b, .inl (cI, 18, .inl g))]) [.ref o2, .int (nI k), .int (nI M2.length)] [0, 1, 4, 5] [2, 3] ⟨hx, hb, hml, hown, hts⟩ (fun sz => c_X2_addPart l dC dI cI cV h a (((([] : List Int32) ++ (M.take (nI i).toNatClampNeg).drop 0).take 18)) u_1 huu_1 o2 b2 M2 g2 hM2 k (nI M2.length) (hk) sz) q_ml_X2_40 q_im_X2_addPart q_se_X2_addPart q_ini_X2 q_co_X2_addPart (n := 3) (by decide +kernel) rfl ⟨rfl, rfl⟩ ⟨Nat.le_of_ble_eq_true rfl, Nat.le_of_ble_eq_true rfl⟩ hP hD hS hA hK hN rfl rfl (by decide) (by decide) (by decide) rfl rfl rfl hl.1 rfl (Nat.le_of_ble_eq_true rfl) dX2_becomeJoined_20 ⟨Nat.le_of_ble_eq_true rfl, Nat.le_of_ble_eq_true rfl⟩ (fun u_2 H locs huu_2 hP hD hS => ?_)
  have hP := hP.sub (ws' := [(h, .inr (2, [.ref a, .int (nI (((((([] : List Int32) ++ (M.take (nI i).toNatClampNeg).drop 0).take 18) ++ (M2.take (nI M2.length).toNatClampNeg).drop k).take 18)).length)])), (a, .inl (cI, 18, .inl u_2)), (o, .inr (2, [.ref b, .int (nI M.length)])), (b, .inl (cI, 18, .inl g)), (o2, .inr (2, [.ref b2, .int (nI M2.length)])), (b2, .inl (cI, 18, .inl g2))]) [2, 3, 0, 1, 4, 5] rfl
  have hD := hD.sub (ws' := [(h, .inr (2, [.ref a, .int (nI (((((([] : List Int32) ++ (M.take (nI i).toNatClampNeg).drop 0).take 18) ++ (M2.take (nI M2.length).toNatClampNeg).drop k).take 18)).length)])), (a, .inl (cI, 18, .inl u_2)), (o, .inr (2, [.ref b, .int (nI M.length)])), (b, .inl (cI, 18, .inl g)), (o2, .inr (2, [.ref b2, .int (nI M2.length)])), (b2, .inl (cI, 18, .inl g2))]) [2, 3, 0, 1, 4, 5] (by decide) rfl
  have e9 : ((((([] : List Int32) ++ (M.take (nI i).toNatClampNeg).drop 0).take 18) ++ (M2.take (nI M2.length).toNatClampNeg).drop k).take 18) = rJoined M M2 i k := by rw [nI_clamp (by omega), nI_clamp (by omega), List.take_length]; unfold rJoined; simp only [rTake_app, List.nil_append, List.drop_zero]
  rw [e9] at hP hD
  have hP9 := hP
  have hD9 := hD
  exact W.vret hx hb hr (fun t9 ht9 hW9 => ⟨⟨u_2, rfl, by rw [← e9]; exact huu_2, by rw [ht9]; exact hP9, va_K.moved hW9.alike hK, hD9⟩, hS.F ht9⟩) hS.2.2 dX2_becomeJoined_23
set_option maxHeartbeats 4000000 in
set_option maxRecDepth 100000 in
theorem c_X2_becomeTurned (l : Launch) (dC : Nat → ClassId) (dI : Nat → Nat → Nat) (cI cV : ClassId) (h a : Nat) (L : List Int32) (f : Nat → Int32) (hL : rw_ok L f) (o b : Nat) (M : List Int32) (g : Nat → Int32) (hM : rw_ok M g) (i k : Nat) (hik : i ≤ k) (hk : k < M.length) (sz : Nat) : Met l yX2_becomeTurned (Cond.code yX2_becomeTurned cX2_becomeTurned 5 none :: TB) ({ frames := 2, cells := 0, slots := 0, locals := 45 } : Room) (PW [.ref h, .ref o, .int (nI i), .int (nI k)] (dC, dI) [(h, .inr (2, [.ref a, .int (nI L.length)])), (a, .inl (cI, 18, .inl f)), (o, .inr (2, [.ref b, .int (nI M.length)])), (b, .inl (cI, 18, .inl g))] (TY cI cV) sz) (va_Qv (fun u => rw_ok (rTurned M i k) u) (QB (dC, dI) (fun u => [(h, .inr (2, [.ref a, .int (nI ((rTurned M i k)).length)])), (a, .inl (cI, 18, .inl u)), (o, .inr (2, [.ref b, .int (nI M.length)])), (b, .inl (cI, 18, .inl g))]) (TY cI cV) (va_A [(h, .inr (2, [.ref a, .int (nI L.length)])), (a, .inl (cI, 18, .inl f)), (o, .inr (2, [.ref b, .int (nI M.length)])), (b, .inl (cI, 18, .inl g))] sz)) (va_A [(h, .inr (2, [.ref a, .int (nI L.length)])), (a, .inl (cI, 18, .inl f)), (o, .inr (2, [.ref b, .int (nI M.length)])), (b, .inl (cI, 18, .inl g))] sz)) 0 0 (va_A [(h, .inr (2, [.ref a, .int (nI L.length)])), (a, .inl (cI, 18, .inl f)), (o, .inr (2, [.ref b, .int (nI M.length)])), (b, .inl (cI, 18, .inl g))] sz) := by
  refine Met.ofW (cc := cX2_becomeTurned) (maxL := 5) (ret := none) (by decide) rfl ?_
  intro p e s m args below meth c s₁ B hml hv
  obtain ⟨rfl, hsz, hP, hK, hD0, hN⟩ := hv
  have hx := B.exec
  have hb := B.bytes
  have hr := B.returns
  have hts := atoms_spec (ws := (Cond.code yX2_becomeTurned cX2_becomeTurned 5 none :: TB)) B.pre
  have hown : s.vm.findClass RX2 = some m.cls := findClass_of_methodNamed B.named
  have hlocks := B.notSynchronized
  subst hsz
  have hD := hD0.self (sz := s.heap.size)
  generalize hAe : va_A [(h, .inr (2, [.ref a, .int (nI L.length)])), (a, .inl (cI, 18, .inl f)), (o, .inr (2, [.ref b, .int (nI M.length)])), (b, .inl (cI, 18, .inl g))] s.heap.size = A at hD ⊢
  have hA : ∀ q : Nat, s.heap.size ≤ q → A q := fun q h => by rw [← hAe]; exact Or.inr h
  have hS : va_S A s.heap s.heap [] := va_S.rf
  have hl := lv_entry ([.ref h, .ref o, .int (nI i), .int (nI k)]) (n := 5) (Nat.le_of_ble_eq_true rfl)
  rw [lg_entry_eq]
  generalize (lg_sl ([.ref h, .ref o, .int (nI i), .int (nI k)]) ++ List.replicate (5 - (lg_sl ([.ref h, .ref o, .int (nI i), .int (nI k)])).length) Slot.unset).toArray = ls at hl ⊢
  have hl : lv_has ls 5 [(0, .ref h), (1, .ref o), (2, .int (nI i)), (3, .int (nI k))] := hl
  have hMl := hM.1
  refine lv_aload_n hx hb dX2_becomeTurned_0 rfl (lv_at hl 0 rfl) ?_
  refine lv_iconst (v := nI ([] : List Int32).length) hx hb dX2_becomeTurned_1 rfl ?_
  refine va_put (D := (dC, dI)) (ci := 2) (v := .int (nI ([] : List Int32).length)) (ty := .int) (C := RX2) (T := TX2) (N := 2) hx hb hts (fun w h => tb_in (inX2 w h)) tyX2 tyX2_ok nmX2 hown hK hP hD hS 0 rfl rfl 1 (by decide) (hts _ (tb_in q_fl_X2_15)) (fun _ h9 => h9) rfl (by decide +kernel) rfl rfl (Nat.le_of_ble_eq_true rfl) dX2_becomeTurned_2 (fun H locs hP hD hS => ?_)
  have hP : va_P (dC, dI) cls [(h, .inr (2, [.ref a, .int (nI ([] : List Int32).length)])), (a, .inl (cI, 18, .inl f)), (o, .inr (2, [.ref b, .int (nI M.length)])), (b, .inl (cI, 18, .inl g))] H := hP
  have hD : va_D A [(h, .inr (2, [.ref a, .int (nI ([] : List Int32).length)])), (a, .inl (cI, 18, .inl f)), (o, .inr (2, [.ref b, .int (nI M.length)])), (b, .inl (cI, 18, .inl g))] := hD
  refine lv_aload_n hx hb dX2_becomeTurned_5 rfl (lv_at hl 0 rfl) ?_
  refine lv_aload_n hx hb dX2_becomeTurned_6 rfl (lv_at hl 1 rfl) ?_
  refine lv_iconst (v := nI 0) hx hb dX2_becomeTurned_7 rfl ?_
  refine lv_iload_n hx hb dX2_becomeTurned_8 rfl (lv_at hl 2 rfl) ?_
  refine k_Vv (ci := 2) (q0 := 0) (wc := [(h, .inr (2, [.ref a, .int (nI ([] : List Int32).length)])), (a, .inl (cI, 18, .inl f)), (o, .inr (2, [.ref b, .int (nI M.length)])), (b, .inl (cI, 18, .inl g))]) (wr := []) [.ref o, .int (nI 0), .int (nI i)] [0, 1, 2, 3] [] ⟨hx, hb, hml, hown, hts⟩ (fun sz => c_X2_addPart l dC dI cI cV h a (([] : List Int32)) f (rw_nil f) o b M g hM 0 (nI i) (Nat.zero_le _) sz) q_ml_X2_40 q_im_X2_addPart q_se_X2_addPart q_ini_X2 q_co_X2_addPart (n := 3) (by decide +kernel) rfl ⟨rfl, rfl⟩ ⟨Nat.le_of_ble_eq_true rfl, Nat.le_of_ble_eq_true rfl⟩ hP hD hS hA hK hN rfl rfl (by decide) (by decide) (by decide) rfl rfl rfl hl.1 rfl (Nat.le_of_ble_eq_true rfl) dX2_becomeTurned_9 ⟨Nat.le_of_ble_eq_true rfl, Nat.le_of_ble_eq_true rfl⟩ (fun u_1 H locs huu_1 hP hD hS => ?_)
  have hP := hP.sub (ws' := [(h, .inr (2, [.ref a, .int (nI (((([] : List Int32) ++ (M.take (nI i).toNatClampNeg).drop 0).take 18)).length)])), (a, .inl (cI, 18, .inl u_1)), (o, .inr (2, [.ref b, .int (nI M.length)])), (b, .inl (cI, 18, .inl g))]) [0, 1, 2, 3] rfl
  have hD := hD.sub (ws' := [(h, .inr (2, [.ref a, .int (nI (((([] : List Int32) ++ (M.take (nI i).toNatClampNeg).drop 0).take 18)).length)])), (a, .inl (cI, 18, .inl u_1)), (o, .inr (2, [.ref b, .int (nI M.length)])), (b, .inl (cI, 18, .inl g))]) [0, 1, 2, 3] (by decide) rfl
  refine lv_iload_n hx hb dX2_becomeTurned_12 rfl (lv_at hl 3 rfl) ?_
  refine lv_istore (lv' := [(4, .int (nI k)), (0, .ref h), (1, .ref o), (2, .int (nI i)), (3, .int (nI k))]) hx hb dX2_becomeTurned_13 hl (by decide) rfl (fun ls hl => ?_)
  have loop : ∀ (kf : Nat) (t : Nat) (fc : Nat → Int32) (H : Heap) (locs : List Loc) (ls : Array Slot), t < i + kf → i ≤ t → t ≤ k + 1 → rw_ok (M.take i ++ ((M.take (k + 1)).drop t).reverse) fc → va_P (dC, dI) cls [(h, .inr (2, [.ref a, .int (nI ((M.take i ++ ((M.take (k + 1)).drop t).reverse)).length)])), (a, .inl (cI, 18, .inl fc)), (o, .inr (2, [.ref b, .int (nI M.length)])), (b, .inl (cI, 18, .inl g))] H → va_D A [(h, .inr (2, [.ref a, .int (nI ((M.take i ++ ((M.take (k + 1)).drop t).reverse)).length)])), (a, .inl (cI, 18, .inl fc)), (o, .inr (2, [.ref b, .int (nI M.length)])), (b, .inl (cI, 18, .inl g))] → va_S A s.heap H locs → lv_has ls 5 [(4, .int (nI t - 1)), (0, .ref h), (1, .ref o), (2, .int (nI i)), (3, .int (nI k))] → W p l e (headSpec (Cond.code yX2_becomeTurned cX2_becomeTurned 5 none :: TB) ({ frames := 2, cells := 0, slots := 0, locals := 45 } : Room)).room s m ([.ref h, .ref o, .int (nI i), .int (nI k)] : List Value).toArray below meth c H locs 0 0 (MQ below (va_Qv (fun u => rw_ok (rTurned M i k) u) (QB (dC, dI) (fun u => [(h, .inr (2, [.ref a, .int (nI ((rTurned M i k)).length)])), (a, .inl (cI, 18, .inl u)), (o, .inr (2, [.ref b, .int (nI M.length)])), (b, .inl (cI, 18, .inl g))]) (TY cI cV) A) A) ([.ref h, .ref o, .int (nI i), .int (nI k)] : List Value).toArray s 0 0 A) (F0 m 15 ls []) := by
    intro kf
    induction kf with
    | zero =>
      intro t fc H locs ls hkk hit htk hLc hP hD hS hl
      exact absurd hkk (by omega)
    | succ kf ih =>
      intro t fc H locs ls hkk hit htk hLc hP hD hS hl
      refine lv_iload hx hb dX2_becomeTurned_15 (lv_at hl 0 rfl) ?_
      refine lv_iload_n hx hb dX2_becomeTurned_17 rfl (lv_at hl 3 rfl) ?_
      refine lv_icmp_lt (tgt := 37) hx hb dX2_becomeTurned_18 (by decide) (fun c_2 => ?_) (fun c_2 => ?_)
      · have e7 : t = i := by have := (nI_lt_pred hit).mp c_2; omega
        refine lv_aload_n hx hb dX2_becomeTurned_37 rfl (lv_at hl 1 rfl) ?_
        refine lv_aload_n hx hb dX2_becomeTurned_38 rfl (lv_at hl 2 rfl) ?_
        refine lv_iload_n hx hb dX2_becomeTurned_39 rfl (lv_at hl 4 rfl) ?_
        refine lv_iconst (v := 1) hx hb dX2_becomeTurned_40 (by decide) ?_
        refine lv_iadd hx hb dX2_becomeTurned_41 ?_
        rw [nI_1]
        refine lv_aload_n hx hb dX2_becomeTurned_42 rfl (lv_at hl 2 rfl) ?_
        refine va_get (D := (dC, dI)) (ci := 2) (v := .int (nI M.length)) (C := RX2) (T := TX2) (N := 2) hx hb hts (fun w h => tb_in (inX2 w h)) hown hK hP 2 rfl rfl 1 (by decide) (hts _ (tb_in q_fl_X2_15)) (fun _ h9 => h9) rfl dX2_becomeTurned_43 ?_
        refine k_Vv (ci := 2) (q0 := 0) (wc := [(h, .inr (2, [.ref a, .int (nI ((M.take i ++ ((M.take (k + 1)).drop t).reverse)).length)])), (a, .inl (cI, 18, .inl fc)), (o, .inr (2, [.ref b, .int (nI M.length)])), (b, .inl (cI, 18, .inl g))]) (wr := []) [.ref o, .int (nI (k + 1)), .int (nI M.length)] [0, 1, 2, 3] [] ⟨hx, hb, hml, hown, hts⟩ (fun sz => c_X2_addPart l dC dI cI cV h a ((M.take i ++ ((M.take (k + 1)).drop t).reverse)) fc hLc o b M g hM ((k + 1)) (nI M.length) (by omega) sz) q_ml_X2_40 q_im_X2_addPart q_se_X2_addPart q_ini_X2 q_co_X2_addPart (n := 3) (by decide +kernel) rfl ⟨rfl, rfl⟩ ⟨Nat.le_of_ble_eq_true rfl, Nat.le_of_ble_eq_true rfl⟩ hP hD hS hA hK hN rfl rfl (by decide) (by decide) (by decide) rfl rfl rfl hl.1 rfl (Nat.le_of_ble_eq_true rfl) dX2_becomeTurned_46 ⟨Nat.le_of_ble_eq_true rfl, Nat.le_of_ble_eq_true rfl⟩ (fun u_3 H locs huu_3 hP hD hS => ?_)
        have hP := hP.sub (ws' := [(h, .inr (2, [.ref a, .int (nI ((((M.take i ++ ((M.take (k + 1)).drop t).reverse) ++ (M.take (nI M.length).toNatClampNeg).drop (k + 1)).take 18)).length)])), (a, .inl (cI, 18, .inl u_3)), (o, .inr (2, [.ref b, .int (nI M.length)])), (b, .inl (cI, 18, .inl g))]) [0, 1, 2, 3] rfl
        have hD := hD.sub (ws' := [(h, .inr (2, [.ref a, .int (nI ((((M.take i ++ ((M.take (k + 1)).drop t).reverse) ++ (M.take (nI M.length).toNatClampNeg).drop (k + 1)).take 18)).length)])), (a, .inl (cI, 18, .inl u_3)), (o, .inr (2, [.ref b, .int (nI M.length)])), (b, .inl (cI, 18, .inl g))]) [0, 1, 2, 3] (by decide) rfl
        have e9 : (((M.take i ++ ((M.take (k + 1)).drop t).reverse) ++ (M.take (nI M.length).toNatClampNeg).drop (k + 1)).take 18) = rTurned M i k := by subst e7; rw [nI_clamp (by omega), List.take_length]; unfold rTurned; rw [List.take_of_length_le (by simp; omega)]
        rw [e9] at hP hD
        have hP9 := hP
        have hD9 := hD
        exact W.vret hx hb hr (fun t9 ht9 hW9 => ⟨⟨u_3, rfl, by rw [← e9]; exact huu_3, by rw [ht9]; exact hP9, va_K.moved hW9.alike hK, hD9⟩, hS.F ht9⟩) hS.2.2 dX2_becomeTurned_49
      · have hti : i < t := by
          rcases Nat.lt_or_ge i t with q | q
          · exact q
          · exact absurd ((nI_lt_pred hit).mpr (by omega)) c_2
        refine lv_aload_n hx hb dX2_becomeTurned_21 rfl (lv_at hl 1 rfl) ?_
        refine lv_aload_n hx hb dX2_becomeTurned_22 rfl (lv_at hl 2 rfl) ?_
        refine lv_iload hx hb dX2_becomeTurned_23 (lv_at hl 0 rfl) ?_
        refine k_Vi (ci := 2) (q0 := 0) [.int (nI t - 1)] ⟨hx, hb, hml, hown, hts⟩ (c_X2_at l dC dI cI cV o b M g hM (nI t - 1)) q_ml_X2_19 q_im_X2_at q_se_X2_at q_ini_X2 q_co_X2_at (n := 1) (by decide +kernel) rfl ⟨rfl, rfl⟩ ⟨Nat.le_of_ble_eq_true rfl, Nat.le_of_ble_eq_true rfl⟩ (hP.sub [2, 3] rfl) hK hN rfl rfl rfl hl.1 rfl (Nat.le_of_ble_eq_true rfl) dX2_becomeTurned_25 ⟨Nat.le_of_ble_eq_true rfl, Nat.le_of_ble_eq_true rfl⟩ (fun r_4 hr_4 => ?_)
        have e8 : r_4 = M.getD (t - 1) 0 := by rw [hr_4, nI_sub1 (by omega)]; exact rAt_nI (by omega) hMl
        refine k_Vv (ci := 2) (q0 := 0) (wc := [(h, .inr (2, [.ref a, .int (nI ((M.take i ++ ((M.take (k + 1)).drop t).reverse)).length)])), (a, .inl (cI, 18, .inl fc))]) (wr := [(o, .inr (2, [.ref b, .int (nI M.length)])), (b, .inl (cI, 18, .inl g))]) [.int r_4] [0, 1] [2, 3] ⟨hx, hb, hml, hown, hts⟩ (fun sz => c_X2_add l dC dI cI cV h a ((M.take i ++ ((M.take (k + 1)).drop t).reverse)) fc hLc r_4 sz) q_ml_X2_36 q_im_X2_add q_se_X2_add q_ini_X2 q_co_X2_add (n := 1) (by decide +kernel) rfl ⟨rfl, rfl⟩ ⟨Nat.le_of_ble_eq_true rfl, Nat.le_of_ble_eq_true rfl⟩ hP hD hS hA hK hN rfl rfl (by decide) (by decide) (by decide) rfl rfl rfl hl.1 rfl (Nat.le_of_ble_eq_true rfl) dX2_becomeTurned_28 ⟨Nat.le_of_ble_eq_true rfl, Nat.le_of_ble_eq_true rfl⟩ (fun u_5 H locs huu_5 hP hD hS => ?_)
        have hP := hP.sub (ws' := [(h, .inr (2, [.ref a, .int (nI ((((M.take i ++ ((M.take (k + 1)).drop t).reverse) ++ [r_4]).take 18)).length)])), (a, .inl (cI, 18, .inl u_5)), (o, .inr (2, [.ref b, .int (nI M.length)])), (b, .inl (cI, 18, .inl g))]) [2, 3, 0, 1] rfl
        have hD := hD.sub (ws' := [(h, .inr (2, [.ref a, .int (nI ((((M.take i ++ ((M.take (k + 1)).drop t).reverse) ++ [r_4]).take 18)).length)])), (a, .inl (cI, 18, .inl u_5)), (o, .inr (2, [.ref b, .int (nI M.length)])), (b, .inl (cI, 18, .inl g))]) [2, 3, 0, 1] (by decide) rfl
        obtain ⟨x_6, ex_6⟩ : ∃ y : Int32, y = nI t - 1 + (-1) := ⟨_, rfl⟩
        refine lv_iinc (v := x_6) (lv' := [(4, .int x_6), (0, .ref h), (1, .ref o), (2, .int (nI i)), (3, .int (nI k))]) hx hb dX2_becomeTurned_31 hl (k := 0) rfl (by rw [ex_6]; rfl) (by decide) rfl (fun ls hl => ?_)
        refine lv_goto (tgt := 15) hx hb dX2_becomeTurned_34 (by decide) ?_
        rw [rTurn_step e8 hti htk hk hMl] at hP hD huu_5
        exact ih (t - 1) u_5 H locs ls (by omega) (by omega) (by omega) huu_5 hP hD hS (lv_cg (by rw [ex_6, nI_sub1 (by omega)]; exact nI_sub2) (lv_sub (l' := [(4, .int x_6), (0, .ref h), (1, .ref o), (2, .int (nI i)), (3, .int (nI k))]) hl [0, 1, 2, 3, 4] rfl))
  have e8 : ((([] : List Int32) ++ (M.take (nI i).toNatClampNeg).drop 0).take 18) = (M.take i ++ ((M.take (k + 1)).drop (k + 1)).reverse) := by rw [nI_clamp (by omega), show (M.take (k + 1)).drop (k + 1) = [] from List.drop_of_length_le (by rw [List.length_take]; omega), List.reverse_nil, List.append_nil, List.nil_append, List.drop_zero, List.take_of_length_le (by rw [List.length_take]; omega)]
  rw [e8] at hP hD huu_1
  exact loop (k + 2) (k + 1) u_1 H locs ls (by omega) (by omega) (by omega) huu_1 hP hD hS (lv_cg (nI_pred k).symm (lv_sub (l' := [(4, .int (nI k)), (0, .ref h), (1, .ref o), (2, .int (nI i)), (3, .int (nI k))]) hl [0, 1, 2, 3, 4] rfl))
set_option maxHeartbeats 4000000 in
set_option maxRecDepth 100000 in
theorem c_X2_becomeSwapped (l : Launch) (dC : Nat → ClassId) (dI : Nat → Nat → Nat) (cI cV : ClassId) (h a : Nat) (L : List Int32) (f : Nat → Int32) (hL : rw_ok L f) (o b : Nat) (M : List Int32) (g : Nat → Int32) (hM : rw_ok M g) (one two : Int32) (sz : Nat) : Met l yX2_becomeSwapped (Cond.code yX2_becomeSwapped cX2_becomeSwapped 8 none :: TB) ({ frames := 1, cells := 0, slots := 0, locals := 21 } : Room) (PW [.ref h, .ref o, .int one, .int two] (dC, dI) [(h, .inr (2, [.ref a, .int (nI L.length)])), (a, .inl (cI, 18, .inl f)), (o, .inr (2, [.ref b, .int (nI M.length)])), (b, .inl (cI, 18, .inl g))] (TY cI cV) sz) (va_Qv (fun u => rw_ok (M.map (rSwap one two)) u) (QB (dC, dI) (fun u => [(h, .inr (2, [.ref a, .int (nI ((M.map (rSwap one two))).length)])), (a, .inl (cI, 18, .inl u)), (o, .inr (2, [.ref b, .int (nI M.length)])), (b, .inl (cI, 18, .inl g))]) (TY cI cV) (va_A [(h, .inr (2, [.ref a, .int (nI L.length)])), (a, .inl (cI, 18, .inl f)), (o, .inr (2, [.ref b, .int (nI M.length)])), (b, .inl (cI, 18, .inl g))] sz)) (va_A [(h, .inr (2, [.ref a, .int (nI L.length)])), (a, .inl (cI, 18, .inl f)), (o, .inr (2, [.ref b, .int (nI M.length)])), (b, .inl (cI, 18, .inl g))] sz)) 0 0 (va_A [(h, .inr (2, [.ref a, .int (nI L.length)])), (a, .inl (cI, 18, .inl f)), (o, .inr (2, [.ref b, .int (nI M.length)])), (b, .inl (cI, 18, .inl g))] sz) := by
  refine Met.ofW (cc := cX2_becomeSwapped) (maxL := 8) (ret := none) (by decide) rfl ?_
  intro p e s m args below meth c s₁ B hml hv
  obtain ⟨rfl, hsz, hP, hK, hD0, hN⟩ := hv
  have hx := B.exec
  have hb := B.bytes
  have hr := B.returns
  have hts := atoms_spec (ws := (Cond.code yX2_becomeSwapped cX2_becomeSwapped 8 none :: TB)) B.pre
  have hown : s.vm.findClass RX2 = some m.cls := findClass_of_methodNamed B.named
  have hlocks := B.notSynchronized
  subst hsz
  have hD := hD0.self (sz := s.heap.size)
  generalize hAe : va_A [(h, .inr (2, [.ref a, .int (nI L.length)])), (a, .inl (cI, 18, .inl f)), (o, .inr (2, [.ref b, .int (nI M.length)])), (b, .inl (cI, 18, .inl g))] s.heap.size = A at hD ⊢
  have hA : ∀ q : Nat, s.heap.size ≤ q → A q := fun q h => by rw [← hAe]; exact Or.inr h
  have hS : va_S A s.heap s.heap [] := va_S.rf
  have hl := lv_entry ([.ref h, .ref o, .int one, .int two]) (n := 8) (Nat.le_of_ble_eq_true rfl)
  rw [lg_entry_eq]
  generalize (lg_sl ([.ref h, .ref o, .int one, .int two]) ++ List.replicate (8 - (lg_sl ([.ref h, .ref o, .int one, .int two])).length) Slot.unset).toArray = ls at hl ⊢
  have hl : lv_has ls 8 [(0, .ref h), (1, .ref o), (2, .int one), (3, .int two)] := hl
  have hMl := hM.1
  refine lv_aload_n hx hb dX2_becomeSwapped_0 rfl (lv_at hl 0 rfl) ?_
  refine lv_iconst (v := nI ((M.take 0).map (rSwap one two)).length) hx hb dX2_becomeSwapped_1 rfl ?_
  refine va_put (D := (dC, dI)) (ci := 2) (v := .int (nI ((M.take 0).map (rSwap one two)).length)) (ty := .int) (C := RX2) (T := TX2) (N := 2) hx hb hts (fun w h => tb_in (inX2 w h)) tyX2 tyX2_ok nmX2 hown hK hP hD hS 0 rfl rfl 1 (by decide) (hts _ (tb_in q_fl_X2_15)) (fun _ h9 => h9) rfl (by decide +kernel) rfl rfl (Nat.le_of_ble_eq_true rfl) dX2_becomeSwapped_2 (fun H locs hP hD hS => ?_)
  have hP : va_P (dC, dI) cls [(h, .inr (2, [.ref a, .int (nI ((M.take 0).map (rSwap one two)).length)])), (a, .inl (cI, 18, .inl f)), (o, .inr (2, [.ref b, .int (nI M.length)])), (b, .inl (cI, 18, .inl g))] H := hP
  have hD : va_D A [(h, .inr (2, [.ref a, .int (nI ((M.take 0).map (rSwap one two)).length)])), (a, .inl (cI, 18, .inl f)), (o, .inr (2, [.ref b, .int (nI M.length)])), (b, .inl (cI, 18, .inl g))] := hD
  refine lv_iconst (v := nI 0) hx hb dX2_becomeSwapped_5 rfl ?_
  refine lv_istore (lv' := [(4, .int (nI 0)), (0, .ref h), (1, .ref o), (2, .int one), (3, .int two)]) hx hb dX2_becomeSwapped_6 hl (by decide) rfl (fun ls hl => ?_)
  have loop : ∀ (k : Nat) (i : Nat) (fc : Nat → Int32) (H : Heap) (locs : List Loc) (ls : Array Slot), M.length + 1 ≤ i + k → i ≤ M.length → rw_ok ((M.take i).map (rSwap one two)) fc → va_P (dC, dI) cls [(h, .inr (2, [.ref a, .int (nI (((M.take i).map (rSwap one two))).length)])), (a, .inl (cI, 18, .inl fc)), (o, .inr (2, [.ref b, .int (nI M.length)])), (b, .inl (cI, 18, .inl g))] H → va_D A [(h, .inr (2, [.ref a, .int (nI (((M.take i).map (rSwap one two))).length)])), (a, .inl (cI, 18, .inl fc)), (o, .inr (2, [.ref b, .int (nI M.length)])), (b, .inl (cI, 18, .inl g))] → va_S A s.heap H locs → lv_has ls 8 [(4, .int (nI i)), (0, .ref h), (1, .ref o), (2, .int one), (3, .int two)] → W p l e (headSpec (Cond.code yX2_becomeSwapped cX2_becomeSwapped 8 none :: TB) ({ frames := 1, cells := 0, slots := 0, locals := 21 } : Room)).room s m ([.ref h, .ref o, .int one, .int two] : List Value).toArray below meth c H locs 0 0 (MQ below (va_Qv (fun u => rw_ok (M.map (rSwap one two)) u) (QB (dC, dI) (fun u => [(h, .inr (2, [.ref a, .int (nI ((M.map (rSwap one two))).length)])), (a, .inl (cI, 18, .inl u)), (o, .inr (2, [.ref b, .int (nI M.length)])), (b, .inl (cI, 18, .inl g))]) (TY cI cV) A) A) ([.ref h, .ref o, .int one, .int two] : List Value).toArray s 0 0 A) (F0 m 8 ls []) := by
    intro k
    induction k with
    | zero =>
      intro i fc H locs ls hk hi hLc hP hD hS hl
      exact absurd hk (by omega)
    | succ k ih =>
      intro i fc H locs ls hk hi hLc hP hD hS hl
      refine lv_iload hx hb dX2_becomeSwapped_8 (lv_at hl 0 rfl) ?_
      refine lv_aload_n hx hb dX2_becomeSwapped_10 rfl (lv_at hl 2 rfl) ?_
      refine va_get (D := (dC, dI)) (ci := 2) (v := .int (nI M.length)) (C := RX2) (T := TX2) (N := 2) hx hb hts (fun w h => tb_in (inX2 w h)) hown hK hP 2 rfl rfl 1 (by decide) (hts _ (tb_in q_fl_X2_15)) (fun _ h9 => h9) rfl dX2_becomeSwapped_11 ?_
      refine lv_icmp_ge (tgt := 87) hx hb dX2_becomeSwapped_14 (by decide) (fun c_1 => ?_) (fun c_1 => ?_)
      · have e9 : M.take i = M := List.take_of_length_le ((nI_leI (by omega) (by omega)).mp c_1)
        have hP : va_P (dC, dI) cls [(h, .inr (2, [.ref a, .int (nI ((M.map (rSwap one two))).length)])), (a, .inl (cI, 18, .inl fc)), (o, .inr (2, [.ref b, .int (nI M.length)])), (b, .inl (cI, 18, .inl g))] H := by rw [e9] at hP; exact hP
        have hD : va_D A [(h, .inr (2, [.ref a, .int (nI ((M.map (rSwap one two))).length)])), (a, .inl (cI, 18, .inl fc)), (o, .inr (2, [.ref b, .int (nI M.length)])), (b, .inl (cI, 18, .inl g))] := by rw [e9] at hD; exact hD
        have hP9 := hP
        have hD9 := hD
        exact W.vret hx hb hr (fun t9 ht9 hW9 => ⟨⟨fc, rfl, by rw [← e9]; exact hLc, by rw [ht9]; exact hP9, va_K.moved hW9.alike hK, hD9⟩, hS.F ht9⟩) hS.2.2 dX2_becomeSwapped_87
      · have hlt : i < M.length := by
          rcases Nat.lt_or_ge i M.length with q | q
          · exact q
          · exact absurd ((nI_leI (by omega) (by omega)).mpr q) c_1
        refine lv_aload_n hx hb dX2_becomeSwapped_17 rfl (lv_at hl 2 rfl) ?_
        refine lv_iload hx hb dX2_becomeSwapped_18 (lv_at hl 0 rfl) ?_
        refine k_Vi (ci := 2) (q0 := 0) [.int (nI i)] ⟨hx, hb, hml, hown, hts⟩ (c_X2_at l dC dI cI cV o b M g hM (nI i)) q_ml_X2_19 q_im_X2_at q_se_X2_at q_ini_X2 q_co_X2_at (n := 1) (by decide +kernel) rfl ⟨rfl, rfl⟩ ⟨Nat.le_of_ble_eq_true rfl, Nat.le_of_ble_eq_true rfl⟩ (hP.sub [2, 3] rfl) hK hN rfl rfl rfl hl.1 rfl (Nat.le_of_ble_eq_true rfl) dX2_becomeSwapped_20 ⟨Nat.le_of_ble_eq_true rfl, Nat.le_of_ble_eq_true rfl⟩ (fun r_2 hr_2 => ?_)
        refine lv_istore (lv' := [(5, .int r_2), (4, .int (nI i)), (0, .ref h), (1, .ref o), (2, .int one), (3, .int two)]) hx hb dX2_becomeSwapped_23 hl (by decide) rfl (fun ls hl => ?_)
        refine lv_iload hx hb dX2_becomeSwapped_25 (lv_at hl 0 rfl) ?_
        refine k_Ni [.int r_2] ⟨hx, hb, hml, hown, hts⟩ (c_X5_jobOf l r_2) (q_mn_X2_23 hN) q_st_X5_jobOf q_ini_X5 q_co_X5_jobOf (n := 1) (by decide +kernel) rfl ⟨rfl, rfl⟩ ⟨Nat.le_of_ble_eq_true rfl, Nat.le_of_ble_eq_true rfl⟩ hl.1 rfl (Nat.le_of_ble_eq_true rfl) dX2_becomeSwapped_27 ⟨Nat.le_of_ble_eq_true rfl, Nat.le_of_ble_eq_true rfl⟩ (fun r_3 hr_3 => ?_)
        subst hr_3
        refine lv_topi (fun x_4 ex_4 => ?_)
        refine lv_istore (lv' := [(6, .int x_4), (5, .int r_2), (4, .int (nI i)), (0, .ref h), (1, .ref o), (2, .int one), (3, .int two)]) hx hb dX2_becomeSwapped_30 hl (by decide) rfl (fun ls hl => ?_)
        refine lv_iload hx hb dX2_becomeSwapped_32 (lv_at hl 0 rfl) ?_
        refine lv_iload_n hx hb dX2_becomeSwapped_34 rfl (lv_at hl 5 rfl) ?_
        refine lv_icmp_ne (tgt := 42) hx hb dX2_becomeSwapped_35 (by decide) (fun c_5 => ?_) (fun c_5 => ?_)
        · refine lv_iload hx hb dX2_becomeSwapped_42 (lv_at hl 0 rfl) ?_
          refine lv_iload_n hx hb dX2_becomeSwapped_44 rfl (lv_at hl 6 rfl) ?_
          refine lv_icmp_ne (tgt := 52) hx hb dX2_becomeSwapped_45 (by decide) (fun c_6 => ?_) (fun c_6 => ?_)
          · refine lv_iload hx hb dX2_becomeSwapped_52 (lv_at hl 0 rfl) ?_
            refine lv_istore (lv' := [(7, .int x_4), (6, .int x_4), (5, .int r_2), (4, .int (nI i)), (0, .ref h), (1, .ref o), (2, .int one), (3, .int two)]) hx hb dX2_becomeSwapped_54 hl (by decide) rfl (fun ls hl => ?_)
            refine lv_aload_n hx hb dX2_becomeSwapped_56 rfl (lv_at hl 4 rfl) ?_
            refine lv_iload hx hb dX2_becomeSwapped_57 (lv_at hl 2 rfl) ?_
            refine k_Ni [.int r_2] ⟨hx, hb, hml, hown, hts⟩ (c_X5_isFetch l r_2) (q_mn_X2_32 hN) q_st_X5_isFetch q_ini_X5 q_co_X5_isFetch (n := 1) (by decide +kernel) rfl ⟨rfl, rfl⟩ ⟨Nat.le_of_ble_eq_true rfl, Nat.le_of_ble_eq_true rfl⟩ hl.1 rfl (Nat.le_of_ble_eq_true rfl) dX2_becomeSwapped_59 ⟨Nat.le_of_ble_eq_true rfl, Nat.le_of_ble_eq_true rfl⟩ (fun r_7 hr_7 => ?_)
            subst hr_7
            refine lv_if_eq (tgt := 73) hx hb dX2_becomeSwapped_62 (by decide) (fun c_8 => ?_) (fun c_8 => ?_)
            · refine lv_iload hx hb dX2_becomeSwapped_73 (lv_at hl 0 rfl) ?_
              refine k_Ni [.int x_4] ⟨hx, hb, hml, hown, hts⟩ (c_X5_bringOf l x_4) (q_mn_X2_26 hN) q_st_X5_bringOf q_ini_X5 q_co_X5_bringOf (n := 1) (by decide +kernel) rfl ⟨rfl, rfl⟩ ⟨Nat.le_of_ble_eq_true rfl, Nat.le_of_ble_eq_true rfl⟩ hl.1 rfl (Nat.le_of_ble_eq_true rfl) dX2_becomeSwapped_75 ⟨Nat.le_of_ble_eq_true rfl, Nat.le_of_ble_eq_true rfl⟩ (fun r_9 hr_9 => ?_)
              subst hr_9
              refine k_Vv (ci := 2) (q0 := 0) (wc := [(h, .inr (2, [.ref a, .int (nI (((M.take i).map (rSwap one two))).length)])), (a, .inl (cI, 18, .inl fc))]) (wr := [(o, .inr (2, [.ref b, .int (nI M.length)])), (b, .inl (cI, 18, .inl g))]) [.int (bOf x_4)] [0, 1] [2, 3] ⟨hx, hb, hml, hown, hts⟩ (fun sz => c_X2_add l dC dI cI cV h a (((M.take i).map (rSwap one two))) fc hLc (bOf x_4) sz) q_ml_X2_36 q_im_X2_add q_se_X2_add q_ini_X2 q_co_X2_add (n := 1) (by decide +kernel) rfl ⟨rfl, rfl⟩ ⟨Nat.le_of_ble_eq_true rfl, Nat.le_of_ble_eq_true rfl⟩ hP hD hS hA hK hN rfl rfl (by decide) (by decide) (by decide) rfl rfl rfl hl.1 rfl (Nat.le_of_ble_eq_true rfl) dX2_becomeSwapped_78 ⟨Nat.le_of_ble_eq_true rfl, Nat.le_of_ble_eq_true rfl⟩ (fun u_10 H locs huu_10 hP hD hS => ?_)
              have hP := hP.sub (ws' := [(h, .inr (2, [.ref a, .int (nI (((((M.take i).map (rSwap one two)) ++ [bOf x_4]).take 18)).length)])), (a, .inl (cI, 18, .inl u_10)), (o, .inr (2, [.ref b, .int (nI M.length)])), (b, .inl (cI, 18, .inl g))]) [2, 3, 0, 1] rfl
              have hD := hD.sub (ws' := [(h, .inr (2, [.ref a, .int (nI (((((M.take i).map (rSwap one two)) ++ [bOf x_4]).take 18)).length)])), (a, .inl (cI, 18, .inl u_10)), (o, .inr (2, [.ref b, .int (nI M.length)])), (b, .inl (cI, 18, .inl g))]) [2, 3, 0, 1] (by decide) rfl
              refine lv_iinc (v := nI (i + 1)) (lv' := [(4, .int (nI (i + 1))), (7, .int x_4), (6, .int x_4), (5, .int r_2), (0, .ref h), (1, .ref o), (2, .int one), (3, .int two)]) hx hb dX2_becomeSwapped_81 hl (k := 3) rfl (nI_1 _) (by decide) rfl (fun ls hl => ?_)
              refine lv_goto (tgt := 8) hx hb dX2_becomeSwapped_84 (by decide) ?_
              simp only [b01_0, ts9] at c_8
              have e8 : bOf x_4 = rSwap one two (M.getD i 0) := by rw [← rAt_nI hlt hMl, ← hr_2]; unfold rSwap; rw [← ex_4, if_neg (by rw [c_8]; decide), if_neg c_5, if_neg c_6]
              rw [e8, rSwap_step hlt hMl] at hP hD huu_10
              exact ih (i + 1) u_10 H locs ls (by omega) (by omega) huu_10 hP hD hS (lv_sub hl [0, 4, 5, 6, 7] rfl)
            · refine lv_iload hx hb dX2_becomeSwapped_65 (lv_at hl 0 rfl) ?_
              refine k_Ni [.int x_4] ⟨hx, hb, hml, hown, hts⟩ (c_X5_fetchOf l x_4) (q_mn_X2_44 hN) q_st_X5_fetchOf q_ini_X5 q_co_X5_fetchOf (n := 1) (by decide +kernel) rfl ⟨rfl, rfl⟩ ⟨Nat.le_of_ble_eq_true rfl, Nat.le_of_ble_eq_true rfl⟩ hl.1 rfl (Nat.le_of_ble_eq_true rfl) dX2_becomeSwapped_67 ⟨Nat.le_of_ble_eq_true rfl, Nat.le_of_ble_eq_true rfl⟩ (fun r_11 hr_11 => ?_)
              subst hr_11
              refine lv_goto (tgt := 78) hx hb dX2_becomeSwapped_70 (by decide) ?_
              refine k_Vv (ci := 2) (q0 := 0) (wc := [(h, .inr (2, [.ref a, .int (nI (((M.take i).map (rSwap one two))).length)])), (a, .inl (cI, 18, .inl fc))]) (wr := [(o, .inr (2, [.ref b, .int (nI M.length)])), (b, .inl (cI, 18, .inl g))]) [.int (fOf x_4)] [0, 1] [2, 3] ⟨hx, hb, hml, hown, hts⟩ (fun sz => c_X2_add l dC dI cI cV h a (((M.take i).map (rSwap one two))) fc hLc (fOf x_4) sz) q_ml_X2_36 q_im_X2_add q_se_X2_add q_ini_X2 q_co_X2_add (n := 1) (by decide +kernel) rfl ⟨rfl, rfl⟩ ⟨Nat.le_of_ble_eq_true rfl, Nat.le_of_ble_eq_true rfl⟩ hP hD hS hA hK hN rfl rfl (by decide) (by decide) (by decide) rfl rfl rfl hl.1 rfl (Nat.le_of_ble_eq_true rfl) dX2_becomeSwapped_78 ⟨Nat.le_of_ble_eq_true rfl, Nat.le_of_ble_eq_true rfl⟩ (fun u_12 H locs huu_12 hP hD hS => ?_)
              have hP := hP.sub (ws' := [(h, .inr (2, [.ref a, .int (nI (((((M.take i).map (rSwap one two)) ++ [fOf x_4]).take 18)).length)])), (a, .inl (cI, 18, .inl u_12)), (o, .inr (2, [.ref b, .int (nI M.length)])), (b, .inl (cI, 18, .inl g))]) [2, 3, 0, 1] rfl
              have hD := hD.sub (ws' := [(h, .inr (2, [.ref a, .int (nI (((((M.take i).map (rSwap one two)) ++ [fOf x_4]).take 18)).length)])), (a, .inl (cI, 18, .inl u_12)), (o, .inr (2, [.ref b, .int (nI M.length)])), (b, .inl (cI, 18, .inl g))]) [2, 3, 0, 1] (by decide) rfl
              refine lv_iinc (v := nI (i + 1)) (lv' := [(4, .int (nI (i + 1))), (7, .int x_4), (6, .int x_4), (5, .int r_2), (0, .ref h), (1, .ref o), (2, .int one), (3, .int two)]) hx hb dX2_becomeSwapped_81 hl (k := 3) rfl (nI_1 _) (by decide) rfl (fun ls hl => ?_)
              refine lv_goto (tgt := 8) hx hb dX2_becomeSwapped_84 (by decide) ?_
              simp only [b01_0, ts9] at c_8
              have e8 : fOf x_4 = rSwap one two (M.getD i 0) := by rw [← rAt_nI hlt hMl, ← hr_2]; unfold rSwap; rw [← ex_4, if_pos c_8, if_neg c_5, if_neg c_6]
              rw [e8, rSwap_step hlt hMl] at hP hD huu_12
              exact ih (i + 1) u_12 H locs ls (by omega) (by omega) huu_12 hP hD hS (lv_sub hl [0, 4, 5, 6, 7] rfl)
          · refine lv_iload_n hx hb dX2_becomeSwapped_48 rfl (lv_at hl 5 rfl) ?_
            refine lv_goto (tgt := 54) hx hb dX2_becomeSwapped_49 (by decide) ?_
            refine lv_istore (lv' := [(7, .int one), (6, .int x_4), (5, .int r_2), (4, .int (nI i)), (0, .ref h), (1, .ref o), (2, .int one), (3, .int two)]) hx hb dX2_becomeSwapped_54 hl (by decide) rfl (fun ls hl => ?_)
            refine lv_aload_n hx hb dX2_becomeSwapped_56 rfl (lv_at hl 4 rfl) ?_
            refine lv_iload hx hb dX2_becomeSwapped_57 (lv_at hl 2 rfl) ?_
            refine k_Ni [.int r_2] ⟨hx, hb, hml, hown, hts⟩ (c_X5_isFetch l r_2) (q_mn_X2_32 hN) q_st_X5_isFetch q_ini_X5 q_co_X5_isFetch (n := 1) (by decide +kernel) rfl ⟨rfl, rfl⟩ ⟨Nat.le_of_ble_eq_true rfl, Nat.le_of_ble_eq_true rfl⟩ hl.1 rfl (Nat.le_of_ble_eq_true rfl) dX2_becomeSwapped_59 ⟨Nat.le_of_ble_eq_true rfl, Nat.le_of_ble_eq_true rfl⟩ (fun r_13 hr_13 => ?_)
            subst hr_13
            refine lv_if_eq (tgt := 73) hx hb dX2_becomeSwapped_62 (by decide) (fun c_14 => ?_) (fun c_14 => ?_)
            · refine lv_iload hx hb dX2_becomeSwapped_73 (lv_at hl 0 rfl) ?_
              refine k_Ni [.int one] ⟨hx, hb, hml, hown, hts⟩ (c_X5_bringOf l one) (q_mn_X2_26 hN) q_st_X5_bringOf q_ini_X5 q_co_X5_bringOf (n := 1) (by decide +kernel) rfl ⟨rfl, rfl⟩ ⟨Nat.le_of_ble_eq_true rfl, Nat.le_of_ble_eq_true rfl⟩ hl.1 rfl (Nat.le_of_ble_eq_true rfl) dX2_becomeSwapped_75 ⟨Nat.le_of_ble_eq_true rfl, Nat.le_of_ble_eq_true rfl⟩ (fun r_15 hr_15 => ?_)
              subst hr_15
              refine k_Vv (ci := 2) (q0 := 0) (wc := [(h, .inr (2, [.ref a, .int (nI (((M.take i).map (rSwap one two))).length)])), (a, .inl (cI, 18, .inl fc))]) (wr := [(o, .inr (2, [.ref b, .int (nI M.length)])), (b, .inl (cI, 18, .inl g))]) [.int (bOf one)] [0, 1] [2, 3] ⟨hx, hb, hml, hown, hts⟩ (fun sz => c_X2_add l dC dI cI cV h a (((M.take i).map (rSwap one two))) fc hLc (bOf one) sz) q_ml_X2_36 q_im_X2_add q_se_X2_add q_ini_X2 q_co_X2_add (n := 1) (by decide +kernel) rfl ⟨rfl, rfl⟩ ⟨Nat.le_of_ble_eq_true rfl, Nat.le_of_ble_eq_true rfl⟩ hP hD hS hA hK hN rfl rfl (by decide) (by decide) (by decide) rfl rfl rfl hl.1 rfl (Nat.le_of_ble_eq_true rfl) dX2_becomeSwapped_78 ⟨Nat.le_of_ble_eq_true rfl, Nat.le_of_ble_eq_true rfl⟩ (fun u_16 H locs huu_16 hP hD hS => ?_)
              have hP := hP.sub (ws' := [(h, .inr (2, [.ref a, .int (nI (((((M.take i).map (rSwap one two)) ++ [bOf one]).take 18)).length)])), (a, .inl (cI, 18, .inl u_16)), (o, .inr (2, [.ref b, .int (nI M.length)])), (b, .inl (cI, 18, .inl g))]) [2, 3, 0, 1] rfl
              have hD := hD.sub (ws' := [(h, .inr (2, [.ref a, .int (nI (((((M.take i).map (rSwap one two)) ++ [bOf one]).take 18)).length)])), (a, .inl (cI, 18, .inl u_16)), (o, .inr (2, [.ref b, .int (nI M.length)])), (b, .inl (cI, 18, .inl g))]) [2, 3, 0, 1] (by decide) rfl
              refine lv_iinc (v := nI (i + 1)) (lv' := [(4, .int (nI (i + 1))), (7, .int one), (6, .int x_4), (5, .int r_2), (0, .ref h), (1, .ref o), (2, .int one), (3, .int two)]) hx hb dX2_becomeSwapped_81 hl (k := 3) rfl (nI_1 _) (by decide) rfl (fun ls hl => ?_)
              refine lv_goto (tgt := 8) hx hb dX2_becomeSwapped_84 (by decide) ?_
              simp only [b01_0, ts9] at c_14
              have e8 : bOf one = rSwap one two (M.getD i 0) := by rw [← rAt_nI hlt hMl, ← hr_2]; unfold rSwap; rw [← ex_4, if_neg (by rw [c_14]; decide), if_neg c_5, if_pos c_6]
              rw [e8, rSwap_step hlt hMl] at hP hD huu_16
              exact ih (i + 1) u_16 H locs ls (by omega) (by omega) huu_16 hP hD hS (lv_sub hl [0, 4, 5, 6, 7] rfl)
            · refine lv_iload hx hb dX2_becomeSwapped_65 (lv_at hl 0 rfl) ?_
              refine k_Ni [.int one] ⟨hx, hb, hml, hown, hts⟩ (c_X5_fetchOf l one) (q_mn_X2_44 hN) q_st_X5_fetchOf q_ini_X5 q_co_X5_fetchOf (n := 1) (by decide +kernel) rfl ⟨rfl, rfl⟩ ⟨Nat.le_of_ble_eq_true rfl, Nat.le_of_ble_eq_true rfl⟩ hl.1 rfl (Nat.le_of_ble_eq_true rfl) dX2_becomeSwapped_67 ⟨Nat.le_of_ble_eq_true rfl, Nat.le_of_ble_eq_true rfl⟩ (fun r_17 hr_17 => ?_)
              subst hr_17
              refine lv_goto (tgt := 78) hx hb dX2_becomeSwapped_70 (by decide) ?_
              refine k_Vv (ci := 2) (q0 := 0) (wc := [(h, .inr (2, [.ref a, .int (nI (((M.take i).map (rSwap one two))).length)])), (a, .inl (cI, 18, .inl fc))]) (wr := [(o, .inr (2, [.ref b, .int (nI M.length)])), (b, .inl (cI, 18, .inl g))]) [.int (fOf one)] [0, 1] [2, 3] ⟨hx, hb, hml, hown, hts⟩ (fun sz => c_X2_add l dC dI cI cV h a (((M.take i).map (rSwap one two))) fc hLc (fOf one) sz) q_ml_X2_36 q_im_X2_add q_se_X2_add q_ini_X2 q_co_X2_add (n := 1) (by decide +kernel) rfl ⟨rfl, rfl⟩ ⟨Nat.le_of_ble_eq_true rfl, Nat.le_of_ble_eq_true rfl⟩ hP hD hS hA hK hN rfl rfl (by decide) (by decide) (by decide) rfl rfl rfl hl.1 rfl (Nat.le_of_ble_eq_true rfl) dX2_becomeSwapped_78 ⟨Nat.le_of_ble_eq_true rfl, Nat.le_of_ble_eq_true rfl⟩ (fun u_18 H locs huu_18 hP hD hS => ?_)
              have hP := hP.sub (ws' := [(h, .inr (2, [.ref a, .int (nI (((((M.take i).map (rSwap one two)) ++ [fOf one]).take 18)).length)])), (a, .inl (cI, 18, .inl u_18)), (o, .inr (2, [.ref b, .int (nI M.length)])), (b, .inl (cI, 18, .inl g))]) [2, 3, 0, 1] rfl
              have hD := hD.sub (ws' := [(h, .inr (2, [.ref a, .int (nI (((((M.take i).map (rSwap one two)) ++ [fOf one]).take 18)).length)])), (a, .inl (cI, 18, .inl u_18)), (o, .inr (2, [.ref b, .int (nI M.length)])), (b, .inl (cI, 18, .inl g))]) [2, 3, 0, 1] (by decide) rfl
              refine lv_iinc (v := nI (i + 1)) (lv' := [(4, .int (nI (i + 1))), (7, .int one), (6, .int x_4), (5, .int r_2), (0, .ref h), (1, .ref o), (2, .int one), (3, .int two)]) hx hb dX2_becomeSwapped_81 hl (k := 3) rfl (nI_1 _) (by decide) rfl (fun ls hl => ?_)
              refine lv_goto (tgt := 8) hx hb dX2_becomeSwapped_84 (by decide) ?_
              simp only [b01_0, ts9] at c_14
              have e8 : fOf one = rSwap one two (M.getD i 0) := by rw [← rAt_nI hlt hMl, ← hr_2]; unfold rSwap; rw [← ex_4, if_pos c_14, if_neg c_5, if_pos c_6]
              rw [e8, rSwap_step hlt hMl] at hP hD huu_18
              exact ih (i + 1) u_18 H locs ls (by omega) (by omega) huu_18 hP hD hS (lv_sub hl [0, 4, 5, 6, 7] rfl)
        · refine lv_iload_n hx hb dX2_becomeSwapped_38 rfl (lv_at hl 6 rfl) ?_
          refine lv_goto (tgt := 54) hx hb dX2_becomeSwapped_39 (by decide) ?_
          refine lv_istore (lv' := [(7, .int two), (6, .int x_4), (5, .int r_2), (4, .int (nI i)), (0, .ref h), (1, .ref o), (2, .int one), (3, .int two)]) hx hb dX2_becomeSwapped_54 hl (by decide) rfl (fun ls hl => ?_)
          refine lv_aload_n hx hb dX2_becomeSwapped_56 rfl (lv_at hl 4 rfl) ?_
          refine lv_iload hx hb dX2_becomeSwapped_57 (lv_at hl 2 rfl) ?_
          refine k_Ni [.int r_2] ⟨hx, hb, hml, hown, hts⟩ (c_X5_isFetch l r_2) (q_mn_X2_32 hN) q_st_X5_isFetch q_ini_X5 q_co_X5_isFetch (n := 1) (by decide +kernel) rfl ⟨rfl, rfl⟩ ⟨Nat.le_of_ble_eq_true rfl, Nat.le_of_ble_eq_true rfl⟩ hl.1 rfl (Nat.le_of_ble_eq_true rfl) dX2_becomeSwapped_59 ⟨Nat.le_of_ble_eq_true rfl, Nat.le_of_ble_eq_true rfl⟩ (fun r_19 hr_19 => ?_)
          subst hr_19
          refine lv_if_eq (tgt := 73) hx hb dX2_becomeSwapped_62 (by decide) (fun c_20 => ?_) (fun c_20 => ?_)
          · refine lv_iload hx hb dX2_becomeSwapped_73 (lv_at hl 0 rfl) ?_
            refine k_Ni [.int two] ⟨hx, hb, hml, hown, hts⟩ (c_X5_bringOf l two) (q_mn_X2_26 hN) q_st_X5_bringOf q_ini_X5 q_co_X5_bringOf (n := 1) (by decide +kernel) rfl ⟨rfl, rfl⟩ ⟨Nat.le_of_ble_eq_true rfl, Nat.le_of_ble_eq_true rfl⟩ hl.1 rfl (Nat.le_of_ble_eq_true rfl) dX2_becomeSwapped_75 ⟨Nat.le_of_ble_eq_true rfl, Nat.le_of_ble_eq_true rfl⟩ (fun r_21 hr_21 => ?_)
            subst hr_21
            refine k_Vv (ci := 2) (q0 := 0) (wc := [(h, .inr (2, [.ref a, .int (nI (((M.take i).map (rSwap one two))).length)])), (a, .inl (cI, 18, .inl fc))]) (wr := [(o, .inr (2, [.ref b, .int (nI M.length)])), (b, .inl (cI, 18, .inl g))]) [.int (bOf two)] [0, 1] [2, 3] ⟨hx, hb, hml, hown, hts⟩ (fun sz => c_X2_add l dC dI cI cV h a (((M.take i).map (rSwap one two))) fc hLc (bOf two) sz) q_ml_X2_36 q_im_X2_add q_se_X2_add q_ini_X2 q_co_X2_add (n := 1) (by decide +kernel) rfl ⟨rfl, rfl⟩ ⟨Nat.le_of_ble_eq_true rfl, Nat.le_of_ble_eq_true rfl⟩ hP hD hS hA hK hN rfl rfl (by decide) (by decide) (by decide) rfl rfl rfl hl.1 rfl (Nat.le_of_ble_eq_true rfl) dX2_becomeSwapped_78 ⟨Nat.le_of_ble_eq_true rfl, Nat.le_of_ble_eq_true rfl⟩ (fun u_22 H locs huu_22 hP hD hS => ?_)
            have hP := hP.sub (ws' := [(h, .inr (2, [.ref a, .int (nI (((((M.take i).map (rSwap one two)) ++ [bOf two]).take 18)).length)])), (a, .inl (cI, 18, .inl u_22)), (o, .inr (2, [.ref b, .int (nI M.length)])), (b, .inl (cI, 18, .inl g))]) [2, 3, 0, 1] rfl
            have hD := hD.sub (ws' := [(h, .inr (2, [.ref a, .int (nI (((((M.take i).map (rSwap one two)) ++ [bOf two]).take 18)).length)])), (a, .inl (cI, 18, .inl u_22)), (o, .inr (2, [.ref b, .int (nI M.length)])), (b, .inl (cI, 18, .inl g))]) [2, 3, 0, 1] (by decide) rfl
            refine lv_iinc (v := nI (i + 1)) (lv' := [(4, .int (nI (i + 1))), (7, .int two), (6, .int x_4), (5, .int r_2), (0, .ref h), (1, .ref o), (2, .int one), (3, .int two)]) hx hb dX2_becomeSwapped_81 hl (k := 3) rfl (nI_1 _) (by decide) rfl (fun ls hl => ?_)
            refine lv_goto (tgt := 8) hx hb dX2_becomeSwapped_84 (by decide) ?_
            simp only [b01_0, ts9] at c_20
            have e8 : bOf two = rSwap one two (M.getD i 0) := by rw [← rAt_nI hlt hMl, ← hr_2]; unfold rSwap; rw [← ex_4, if_neg (by rw [c_20]; decide), if_pos c_5]
            rw [e8, rSwap_step hlt hMl] at hP hD huu_22
            exact ih (i + 1) u_22 H locs ls (by omega) (by omega) huu_22 hP hD hS (lv_sub hl [0, 4, 5, 6, 7] rfl)
          · refine lv_iload hx hb dX2_becomeSwapped_65 (lv_at hl 0 rfl) ?_
            refine k_Ni [.int two] ⟨hx, hb, hml, hown, hts⟩ (c_X5_fetchOf l two) (q_mn_X2_44 hN) q_st_X5_fetchOf q_ini_X5 q_co_X5_fetchOf (n := 1) (by decide +kernel) rfl ⟨rfl, rfl⟩ ⟨Nat.le_of_ble_eq_true rfl, Nat.le_of_ble_eq_true rfl⟩ hl.1 rfl (Nat.le_of_ble_eq_true rfl) dX2_becomeSwapped_67 ⟨Nat.le_of_ble_eq_true rfl, Nat.le_of_ble_eq_true rfl⟩ (fun r_23 hr_23 => ?_)
            subst hr_23
            refine lv_goto (tgt := 78) hx hb dX2_becomeSwapped_70 (by decide) ?_
            refine k_Vv (ci := 2) (q0 := 0) (wc := [(h, .inr (2, [.ref a, .int (nI (((M.take i).map (rSwap one two))).length)])), (a, .inl (cI, 18, .inl fc))]) (wr := [(o, .inr (2, [.ref b, .int (nI M.length)])), (b, .inl (cI, 18, .inl g))]) [.int (fOf two)] [0, 1] [2, 3] ⟨hx, hb, hml, hown, hts⟩ (fun sz => c_X2_add l dC dI cI cV h a (((M.take i).map (rSwap one two))) fc hLc (fOf two) sz) q_ml_X2_36 q_im_X2_add q_se_X2_add q_ini_X2 q_co_X2_add (n := 1) (by decide +kernel) rfl ⟨rfl, rfl⟩ ⟨Nat.le_of_ble_eq_true rfl, Nat.le_of_ble_eq_true rfl⟩ hP hD hS hA hK hN rfl rfl (by decide) (by decide) (by decide) rfl rfl rfl hl.1 rfl (Nat.le_of_ble_eq_true rfl) dX2_becomeSwapped_78 ⟨Nat.le_of_ble_eq_true rfl, Nat.le_of_ble_eq_true rfl⟩ (fun u_24 H locs huu_24 hP hD hS => ?_)
            have hP := hP.sub (ws' := [(h, .inr (2, [.ref a, .int (nI (((((M.take i).map (rSwap one two)) ++ [fOf two]).take 18)).length)])), (a, .inl (cI, 18, .inl u_24)), (o, .inr (2, [.ref b, .int (nI M.length)])), (b, .inl (cI, 18, .inl g))]) [2, 3, 0, 1] rfl
            have hD := hD.sub (ws' := [(h, .inr (2, [.ref a, .int (nI (((((M.take i).map (rSwap one two)) ++ [fOf two]).take 18)).length)])), (a, .inl (cI, 18, .inl u_24)), (o, .inr (2, [.ref b, .int (nI M.length)])), (b, .inl (cI, 18, .inl g))]) [2, 3, 0, 1] (by decide) rfl
            refine lv_iinc (v := nI (i + 1)) (lv' := [(4, .int (nI (i + 1))), (7, .int two), (6, .int x_4), (5, .int r_2), (0, .ref h), (1, .ref o), (2, .int one), (3, .int two)]) hx hb dX2_becomeSwapped_81 hl (k := 3) rfl (nI_1 _) (by decide) rfl (fun ls hl => ?_)
            refine lv_goto (tgt := 8) hx hb dX2_becomeSwapped_84 (by decide) ?_
            simp only [b01_0, ts9] at c_20
            have e8 : fOf two = rSwap one two (M.getD i 0) := by rw [← rAt_nI hlt hMl, ← hr_2]; unfold rSwap; rw [← ex_4, if_pos c_20, if_pos c_5]
            rw [e8, rSwap_step hlt hMl] at hP hD huu_24
            exact ih (i + 1) u_24 H locs ls (by omega) (by omega) huu_24 hP hD hS (lv_sub hl [0, 4, 5, 6, 7] rfl)
  exact loop (M.length + 1) 0 f _ _ ls (by omega) (by omega) (rw_nil f) hP hD hS (lv_sub hl [0, 1, 2, 3, 4] rfl)
set_option maxHeartbeats 4000000 in
set_option maxRecDepth 100000 in
theorem c_X2_holdsPair (l : Launch) (dC : Nat → ClassId) (dI : Nat → Nat → Nat) (cI cV : ClassId) (h a : Nat) (L : List Int32) (f : Nat → Int32) (hL : rw_ok L f) (i0 k0 : Nat) (hi0 : i0 ≤ k0) (hk0 : k0 < L.length) : Met l yX2_holdsPair (Cond.code yX2_holdsPair cX2_holdsPair 6 (some .boolean) :: TB) ({ frames := 1, cells := 0, slots := 0, locals := 22 } : Room) (PR [.ref h, .int (nI i0), .int (nI k0)] (dC, dI) [(h, .inr (2, [.ref a, .int (nI L.length)])), (a, .inl (cI, 18, .inl f))] (TY cI cV)) (vp_Si (fun r => r = b01 (rHolds L i0 k0))) 0 0 (fun _ => False) := by
  refine Met.ofW (cc := cX2_holdsPair) (maxL := 6) (ret := (some .boolean)) (by decide) rfl ?_
  intro p e s m args below meth c s₁ B hml hv
  obtain ⟨rfl, hP, hK, hN⟩ := hv
  have hx := B.exec
  have hb := B.bytes
  have hr := B.returns
  have hts := atoms_spec (ws := (Cond.code yX2_holdsPair cX2_holdsPair 6 (some .boolean) :: TB)) B.pre
  have hown : s.vm.findClass RX2 = some m.cls := findClass_of_methodNamed B.named
  have hlocks := B.notSynchronized
  have hl := lv_entry ([.ref h, .int (nI i0), .int (nI k0)]) (n := 6) (Nat.le_of_ble_eq_true rfl)
  rw [lg_entry_eq]
  generalize (lg_sl ([.ref h, .int (nI i0), .int (nI k0)]) ++ List.replicate (6 - (lg_sl ([.ref h, .int (nI i0), .int (nI k0)])).length) Slot.unset).toArray = ls at hl ⊢
  have hl : lv_has ls 6 [(0, .ref h), (1, .int (nI i0)), (2, .int (nI k0))] := hl
  have hLl := hL.1
  refine lv_iload_n hx hb dX2_holdsPair_0 rfl (lv_at hl 1 rfl) ?_
  refine lv_istore_n (lv' := [(3, .int (nI i0)), (0, .ref h), (1, .int (nI i0)), (2, .int (nI k0))]) hx hb dX2_holdsPair_1 rfl hl (by decide) rfl (fun ls hl => ?_)
  have loop : ∀ (k : Nat) (i : Nat) (ls : Array Slot), L.length + 1 ≤ i + k → i ≤ L.length → rHolds L i0 k0 = rHolds L i k0 → lv_has ls 6 [(3, .int (nI i)), (0, .ref h), (1, .int (nI i0)), (2, .int (nI k0))] → W p l e (headSpec (Cond.code yX2_holdsPair cX2_holdsPair 6 (some .boolean) :: TB) ({ frames := 1, cells := 0, slots := 0, locals := 22 } : Room)).room s m ([.ref h, .int (nI i0), .int (nI k0)] : List Value).toArray below meth c s.heap [] 0 0 (MQ below (vp_Si (fun r => r = b01 (rHolds L i0 k0))) ([.ref h, .int (nI i0), .int (nI k0)] : List Value).toArray s 0 0 (fun _ => False)) (F0 m 2 ls []) := by
    intro k
    induction k with
    | zero =>
      intro i ls hk hi hF hl
      exact absurd hk (by omega)
    | succ k ih =>
      intro i ls hk hi hF hl
      refine lv_iload_n hx hb dX2_holdsPair_2 rfl (lv_at hl 0 rfl) ?_
      refine lv_iload_n hx hb dX2_holdsPair_3 rfl (lv_at hl 3 rfl) ?_
      refine lv_icmp_gt (tgt := 50) hx hb dX2_holdsPair_4 (by decide) (fun c_1 => ?_) (fun c_1 => ?_)
      · refine lv_iconst (v := 0) hx hb dX2_holdsPair_50 (by decide) ?_
        exact W.zret (v := 0) hx hb hr rfl (fun t9 ht9 hW9 => ⟨_, rfl, by rw [hF, rHolds_end (Nat.lt_of_not_le (fun q => nI_nlt q (by omega) c_1))]; rfl, ht9⟩) (fun _ h9 => absurd h9 List.not_mem_nil) dX2_holdsPair_51
      · have hik : i ≤ k0 := by
          rcases Nat.lt_or_ge k0 i with q | q
          · exact absurd (nI_lt q (by omega)) c_1
          · exact q
        refine lv_aload_n hx hb dX2_holdsPair_7 rfl (lv_at hl 1 rfl) ?_
        refine lv_iload_n hx hb dX2_holdsPair_8 rfl (lv_at hl 0 rfl) ?_
        refine k_Vi (ci := 2) (q0 := 0) [.int (nI i)] ⟨hx, hb, hml, hown, hts⟩ (c_X2_at l dC dI cI cV h a L f hL (nI i)) q_ml_X2_19 q_im_X2_at q_se_X2_at q_ini_X2 q_co_X2_at (n := 1) (by decide +kernel) rfl ⟨rfl, rfl⟩ ⟨Nat.le_of_ble_eq_true rfl, Nat.le_of_ble_eq_true rfl⟩ (hP.sub [0, 1] rfl) hK hN rfl rfl rfl hl.1 rfl (Nat.le_of_ble_eq_true rfl) dX2_holdsPair_9 ⟨Nat.le_of_ble_eq_true rfl, Nat.le_of_ble_eq_true rfl⟩ (fun r_2 hr_2 => ?_)
        rw [rAt_nI (by omega) hLl] at hr_2
        subst hr_2
        refine lv_istore (lv' := [(4, .int (L.getD i 0)), (3, .int (nI i)), (0, .ref h), (1, .int (nI i0)), (2, .int (nI k0))]) hx hb dX2_holdsPair_12 hl (by decide) rfl (fun ls hl => ?_)
        refine lv_aload_n hx hb dX2_holdsPair_14 rfl (lv_at hl 2 rfl) ?_
        refine lv_iload hx hb dX2_holdsPair_15 (lv_at hl 0 rfl) ?_
        refine k_Ni [.int (L.getD i 0)] ⟨hx, hb, hml, hown, hts⟩ (c_X5_jobOf l (L.getD i 0)) (q_mn_X2_23 hN) q_st_X5_jobOf q_ini_X5 q_co_X5_jobOf (n := 1) (by decide +kernel) rfl ⟨rfl, rfl⟩ ⟨Nat.le_of_ble_eq_true rfl, Nat.le_of_ble_eq_true rfl⟩ hl.1 rfl (Nat.le_of_ble_eq_true rfl) dX2_holdsPair_17 ⟨Nat.le_of_ble_eq_true rfl, Nat.le_of_ble_eq_true rfl⟩ (fun r_3 hr_3 => ?_)
        subst hr_3
        refine k_Ni [.int (jOf (L.getD i 0))] ⟨hx, hb, hml, hown, hts⟩ (c_X5_bringOf l (jOf (L.getD i 0))) (q_mn_X2_26 hN) q_st_X5_bringOf q_ini_X5 q_co_X5_bringOf (n := 1) (by decide +kernel) rfl ⟨rfl, rfl⟩ ⟨Nat.le_of_ble_eq_true rfl, Nat.le_of_ble_eq_true rfl⟩ hl.1 rfl (Nat.le_of_ble_eq_true rfl) dX2_holdsPair_20 ⟨Nat.le_of_ble_eq_true rfl, Nat.le_of_ble_eq_true rfl⟩ (fun r_4 hr_4 => ?_)
        subst hr_4
        refine k_Vi (ci := 2) (q0 := 0) [.int (bOf (jOf (L.getD i 0)))] ⟨hx, hb, hml, hown, hts⟩ (c_X2_find l dC dI cI cV h a L f hL (bOf (jOf (L.getD i 0)))) q_ml_X2_29 q_im_X2_find q_se_X2_find q_ini_X2 q_co_X2_find (n := 1) (by decide +kernel) rfl ⟨rfl, rfl⟩ ⟨Nat.le_of_ble_eq_true rfl, Nat.le_of_ble_eq_true rfl⟩ (hP.sub [0, 1] rfl) hK hN rfl rfl rfl hl.1 rfl (Nat.le_of_ble_eq_true rfl) dX2_holdsPair_23 ⟨Nat.le_of_ble_eq_true rfl, Nat.le_of_ble_eq_true rfl⟩ (fun r_5 hr_5 => ?_)
        subst hr_5
        refine lv_istore (lv' := [(5, .int (rFind L (bOf (jOf (L.getD i 0))))), (4, .int (L.getD i 0)), (3, .int (nI i)), (0, .ref h), (1, .int (nI i0)), (2, .int (nI k0))]) hx hb dX2_holdsPair_26 hl (by decide) rfl (fun ls hl => ?_)
        refine lv_iload hx hb dX2_holdsPair_28 (lv_at hl 1 rfl) ?_
        refine k_Ni [.int (L.getD i 0)] ⟨hx, hb, hml, hown, hts⟩ (c_X5_isFetch l (L.getD i 0)) (q_mn_X2_32 hN) q_st_X5_isFetch q_ini_X5 q_co_X5_isFetch (n := 1) (by decide +kernel) rfl ⟨rfl, rfl⟩ ⟨Nat.le_of_ble_eq_true rfl, Nat.le_of_ble_eq_true rfl⟩ hl.1 rfl (Nat.le_of_ble_eq_true rfl) dX2_holdsPair_30 ⟨Nat.le_of_ble_eq_true rfl, Nat.le_of_ble_eq_true rfl⟩ (fun r_6 hr_6 => ?_)
        subst hr_6
        refine lv_if_eq (tgt := 44) hx hb dX2_holdsPair_33 (by decide) (fun c_7 => ?_) (fun c_7 => ?_)
        · refine lv_iinc (v := nI (i + 1)) (lv' := [(3, .int (nI (i + 1))), (5, .int (rFind L (bOf (jOf (L.getD i 0))))), (4, .int (L.getD i 0)), (0, .ref h), (1, .int (nI i0)), (2, .int (nI k0))]) hx hb dX2_holdsPair_44 hl (k := 2) rfl (nI_1 _) (by decide) rfl (fun ls hl => ?_)
          refine lv_goto (tgt := 2) hx hb dX2_holdsPair_47 (by decide) ?_
          exact ih (i + 1) ls (by omega) (by omega) (by rw [hF, rHolds_no1 hik (b01_0.mp c_7)]) (lv_sub hl [0, 3, 4, 5] rfl)
        · refine lv_iload hx hb dX2_holdsPair_36 (lv_at hl 0 rfl) ?_
          refine lv_iload_n hx hb dX2_holdsPair_38 rfl (lv_at hl 5 rfl) ?_
          refine lv_icmp_gt (tgt := 44) hx hb dX2_holdsPair_39 (by decide) (fun c_8 => ?_) (fun c_8 => ?_)
          · refine lv_iinc (v := nI (i + 1)) (lv' := [(3, .int (nI (i + 1))), (5, .int (rFind L (bOf (jOf (L.getD i 0))))), (4, .int (L.getD i 0)), (0, .ref h), (1, .int (nI i0)), (2, .int (nI k0))]) hx hb dX2_holdsPair_44 hl (k := 2) rfl (nI_1 _) (by decide) rfl (fun ls hl => ?_)
            refine lv_goto (tgt := 2) hx hb dX2_holdsPair_47 (by decide) ?_
            exact ih (i + 1) ls (by omega) (by omega) (by rw [hF, rHolds_no2 hik (Int32.not_le.mpr c_8)]) (lv_sub hl [0, 3, 4, 5] rfl)
          · refine lv_iconst (v := 1) hx hb dX2_holdsPair_42 (by decide) ?_
            exact W.zret (v := 1) hx hb hr rfl (fun t9 ht9 hW9 => ⟨_, rfl, by rw [hF, rHolds_yes hik (ts9.mp (fun q => c_7 (b01_0.mpr q))) (Int32.not_lt.mp c_8)]; rfl, ht9⟩) (fun _ h9 => absurd h9 List.not_mem_nil) dX2_holdsPair_43
  exact loop (L.length + 1) i0 ls (by omega) (by omega) rfl (lv_sub hl [0, 1, 2, 3] rfl)
set_option maxHeartbeats 4000000 in
set_option maxRecDepth 100000 in
theorem c_X2_splitsJob (l : Launch) (dC : Nat → ClassId) (dI : Nat → Nat → Nat) (cI cV : ClassId) (h a : Nat) (L : List Int32) (f : Nat → Int32) (hL : rw_ok L f) (i0 : Nat) (hi0 : i0 ≤ L.length) : Met l yX2_splitsJob (Cond.code yX2_splitsJob cX2_splitsJob 3 (some .boolean) :: TB) ({ frames := 1, cells := 0, slots := 0, locals := 22 } : Room) (PR [.ref h, .int (nI i0)] (dC, dI) [(h, .inr (2, [.ref a, .int (nI L.length)])), (a, .inl (cI, 18, .inl f))] (TY cI cV)) (vp_Si (fun r => r = b01 (rSplits L i0))) 0 0 (fun _ => False) := by
  refine Met.ofW (cc := cX2_splitsJob) (maxL := 3) (ret := (some .boolean)) (by decide) rfl ?_
  intro p e s m args below meth c s₁ B hml hv
  obtain ⟨rfl, hP, hK, hN⟩ := hv
  have hx := B.exec
  have hb := B.bytes
  have hr := B.returns
  have hts := atoms_spec (ws := (Cond.code yX2_splitsJob cX2_splitsJob 3 (some .boolean) :: TB)) B.pre
  have hown : s.vm.findClass RX2 = some m.cls := findClass_of_methodNamed B.named
  have hlocks := B.notSynchronized
  have hl := lv_entry ([.ref h, .int (nI i0)]) (n := 3) (Nat.le_of_ble_eq_true rfl)
  rw [lg_entry_eq]
  generalize (lg_sl ([.ref h, .int (nI i0)]) ++ List.replicate (3 - (lg_sl ([.ref h, .int (nI i0)])).length) Slot.unset).toArray = ls at hl ⊢
  have hl : lv_has ls 3 [(0, .ref h), (1, .int (nI i0))] := hl
  have hLl := hL.1
  refine lv_iconst (v := nI 0) hx hb dX2_splitsJob_0 rfl ?_
  refine lv_istore_n (lv' := [(2, .int (nI 0)), (0, .ref h), (1, .int (nI i0))]) hx hb dX2_splitsJob_1 rfl hl (by decide) rfl (fun ls hl => ?_)
  have loop : ∀ (k : Nat) (i : Nat) (ls : Array Slot), i0 + 1 ≤ i + k → i ≤ i0 → rSplits L i0 = rSplitsFrom L i0 i → lv_has ls 3 [(2, .int (nI i)), (0, .ref h), (1, .int (nI i0))] → W p l e (headSpec (Cond.code yX2_splitsJob cX2_splitsJob 3 (some .boolean) :: TB) ({ frames := 1, cells := 0, slots := 0, locals := 22 } : Room)).room s m ([.ref h, .int (nI i0)] : List Value).toArray below meth c s.heap [] 0 0 (MQ below (vp_Si (fun r => r = b01 (rSplits L i0))) ([.ref h, .int (nI i0)] : List Value).toArray s 0 0 (fun _ => False)) (F0 m 2 ls []) := by
    intro k
    induction k with
    | zero =>
      intro i ls hk hi hF hl
      exact absurd hk (by omega)
    | succ k ih =>
      intro i ls hk hi hF hl
      refine lv_iload_n hx hb dX2_splitsJob_2 rfl (lv_at hl 0 rfl) ?_
      refine lv_iload_n hx hb dX2_splitsJob_3 rfl (lv_at hl 2 rfl) ?_
      refine lv_icmp_ge (tgt := 34) hx hb dX2_splitsJob_4 (by decide) (fun c_1 => ?_) (fun c_1 => ?_)
      · refine lv_iconst (v := 0) hx hb dX2_splitsJob_34 (by decide) ?_
        exact W.zret (v := 0) hx hb hr rfl (fun t9 ht9 hW9 => ⟨_, rfl, by rw [hF, rSplits_end ((nI_leI (by omega) (by omega)).mp c_1)]; rfl, ht9⟩) (fun _ h9 => absurd h9 List.not_mem_nil) dX2_splitsJob_35
      · have hik : i < i0 := by
          rcases Nat.lt_or_ge i i0 with q | q
          · exact q
          · exact absurd (nI_le q (by omega)) c_1
        refine lv_aload_n hx hb dX2_splitsJob_7 rfl (lv_at hl 1 rfl) ?_
        refine lv_aload_n hx hb dX2_splitsJob_8 rfl (lv_at hl 1 rfl) ?_
        refine lv_iload_n hx hb dX2_splitsJob_9 rfl (lv_at hl 0 rfl) ?_
        refine k_Vi (ci := 2) (q0 := 0) [.int (nI i)] ⟨hx, hb, hml, hown, hts⟩ (c_X2_at l dC dI cI cV h a L f hL (nI i)) q_ml_X2_19 q_im_X2_at q_se_X2_at q_ini_X2 q_co_X2_at (n := 1) (by decide +kernel) rfl ⟨rfl, rfl⟩ ⟨Nat.le_of_ble_eq_true rfl, Nat.le_of_ble_eq_true rfl⟩ (hP.sub [0, 1] rfl) hK hN rfl rfl rfl hl.1 rfl (Nat.le_of_ble_eq_true rfl) dX2_splitsJob_10 ⟨Nat.le_of_ble_eq_true rfl, Nat.le_of_ble_eq_true rfl⟩ (fun r_2 hr_2 => ?_)
        rw [rAt_nI (by omega) hLl] at hr_2
        subst hr_2
        refine k_Ni [.int (L.getD i 0)] ⟨hx, hb, hml, hown, hts⟩ (c_X5_jobOf l (L.getD i 0)) (q_mn_X2_23 hN) q_st_X5_jobOf q_ini_X5 q_co_X5_jobOf (n := 1) (by decide +kernel) rfl ⟨rfl, rfl⟩ ⟨Nat.le_of_ble_eq_true rfl, Nat.le_of_ble_eq_true rfl⟩ hl.1 rfl (Nat.le_of_ble_eq_true rfl) dX2_splitsJob_13 ⟨Nat.le_of_ble_eq_true rfl, Nat.le_of_ble_eq_true rfl⟩ (fun r_3 hr_3 => ?_)
        subst hr_3
        refine k_Ni [.int (jOf (L.getD i 0))] ⟨hx, hb, hml, hown, hts⟩ (c_X5_bringOf l (jOf (L.getD i 0))) (q_mn_X2_26 hN) q_st_X5_bringOf q_ini_X5 q_co_X5_bringOf (n := 1) (by decide +kernel) rfl ⟨rfl, rfl⟩ ⟨Nat.le_of_ble_eq_true rfl, Nat.le_of_ble_eq_true rfl⟩ hl.1 rfl (Nat.le_of_ble_eq_true rfl) dX2_splitsJob_16 ⟨Nat.le_of_ble_eq_true rfl, Nat.le_of_ble_eq_true rfl⟩ (fun r_4 hr_4 => ?_)
        subst hr_4
        refine k_Vi (ci := 2) (q0 := 0) [.int (bOf (jOf (L.getD i 0)))] ⟨hx, hb, hml, hown, hts⟩ (c_X2_find l dC dI cI cV h a L f hL (bOf (jOf (L.getD i 0)))) q_ml_X2_29 q_im_X2_find q_se_X2_find q_ini_X2 q_co_X2_find (n := 1) (by decide +kernel) rfl ⟨rfl, rfl⟩ ⟨Nat.le_of_ble_eq_true rfl, Nat.le_of_ble_eq_true rfl⟩ (hP.sub [0, 1] rfl) hK hN rfl rfl rfl hl.1 rfl (Nat.le_of_ble_eq_true rfl) dX2_splitsJob_19 ⟨Nat.le_of_ble_eq_true rfl, Nat.le_of_ble_eq_true rfl⟩ (fun r_5 hr_5 => ?_)
        subst hr_5
        refine lv_iload_n hx hb dX2_splitsJob_22 rfl (lv_at hl 2 rfl) ?_
        refine lv_icmp_lt (tgt := 28) hx hb dX2_splitsJob_23 (by decide) (fun c_6 => ?_) (fun c_6 => ?_)
        · refine lv_iinc (v := nI (i + 1)) (lv' := [(2, .int (nI (i + 1))), (0, .ref h), (1, .int (nI i0))]) hx hb dX2_splitsJob_28 hl (k := 0) rfl (nI_1 _) (by decide) rfl (fun ls hl => ?_)
          refine lv_goto (tgt := 2) hx hb dX2_splitsJob_31 (by decide) ?_
          exact ih (i + 1) ls (by omega) (by omega) (by rw [hF, rSplits_no hik c_6]) (lv_sub hl [0, 1, 2] rfl)
        · refine lv_iconst (v := 1) hx hb dX2_splitsJob_26 (by decide) ?_
          exact W.zret (v := 1) hx hb hr rfl (fun t9 ht9 hW9 => ⟨_, rfl, by rw [hF, rSplits_yes hik c_6]; rfl, ht9⟩) (fun _ h9 => absurd h9 List.not_mem_nil) dX2_splitsJob_27
  exact loop (i0 + 1) 0 ls (by omega) (by omega) rfl (lv_sub hl [0, 1, 2] rfl)
