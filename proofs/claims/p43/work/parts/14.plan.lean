set_option maxHeartbeats 4000000 in
set_option maxRecDepth 100000 in
theorem c_X5_carrierOf (l : Launch) (dC : Nat → ClassId) (dI : Nat → Nat → Nat) (cI cV : ClassId) (P F G T za : Nat) (fa ia : Nat → Nat) (w : Nat → Nat → Int32) (NP NJ NV : Nat) (hNP : NP ≤ 12) (hNJ : NJ ≤ 9) (hNV : NV ≤ 3) (ck bg : Int32) (vd ra rb xa ya : Nat → Nat) (vv : Nat → Nat → Int32) (R : Nat → List Int32) (rf : Nat → Nat → Int32) (hR : ∀ k, rw_ok (R k) (rf k)) (j : Int32) : Met l yX5_carrierOf (Cond.code yX5_carrierOf cX5_carrierOf 3 (some .int) :: TB) ({ frames := 1, cells := 0, slots := 0, locals := 22 } : Room) (PR [.ref P, .int j] (dC, dI) [(P, .inr (5, [.ref F, .ref G, .ref T, .ref za, .ref (ia 0), .ref (ia 1), .ref (ia 2), .int (nI NV), .int bg])), (G, .inl (cV, 3, .inr (.inr (.inr (.inr (fun k => some (vd k))))))), (vd 0, .inr (4, [.int (vv 0 0), .int (vv 0 1), .int (vv 0 2), .int (vv 0 3), .int (vv 0 4), .int (vv 0 5), .int (vv 0 6), .int (vv 0 7), .ref (ra 0), .ref (xa 0), .ref (ya 0)])), (vd 1, .inr (4, [.int (vv 1 0), .int (vv 1 1), .int (vv 1 2), .int (vv 1 3), .int (vv 1 4), .int (vv 1 5), .int (vv 1 6), .int (vv 1 7), .ref (ra 1), .ref (xa 1), .ref (ya 1)])), (vd 2, .inr (4, [.int (vv 2 0), .int (vv 2 1), .int (vv 2 2), .int (vv 2 3), .int (vv 2 4), .int (vv 2 5), .int (vv 2 6), .int (vv 2 7), .ref (ra 2), .ref (xa 2), .ref (ya 2)])), (ra 0, .inr (2, [.ref (rb 0), .int (nI ((R 0)).length)])), (rb 0, .inl (cI, 18, .inl (rf 0))), (ra 1, .inr (2, [.ref (rb 1), .int (nI ((R 1)).length)])), (rb 1, .inl (cI, 18, .inl (rf 1))), (ra 2, .inr (2, [.ref (rb 2), .int (nI ((R 2)).length)])), (rb 2, .inl (cI, 18, .inl (rf 2)))] (TY cI cV)) (vp_Si (fun r => r = carrF NV R j)) 0 0 (fun _ => False) := by
  refine Met.ofW (cc := cX5_carrierOf) (maxL := 3) (ret := (some .int)) (by decide) rfl ?_
  intro p e s m args below meth c s₁ B hml hv
  obtain ⟨rfl, hP, hK, hN⟩ := hv
  have hx := B.exec
  have hb := B.bytes
  have hr := B.returns
  have hts := atoms_spec (ws := (Cond.code yX5_carrierOf cX5_carrierOf 3 (some .int) :: TB)) B.pre
  have hown : s.vm.findClass RX5 = some m.cls := findClass_of_methodNamed B.named
  have hlocks := B.notSynchronized
  have hl := lv_entry ([.ref P, .int j]) (n := 3) (Nat.le_of_ble_eq_true rfl)
  rw [lg_entry_eq]
  generalize (lg_sl ([.ref P, .int j]) ++ List.replicate (3 - (lg_sl ([.ref P, .int j])).length) Slot.unset).toArray = ls at hl ⊢
  have hl : lv_has ls 3 [(0, .ref P), (1, .int j)] := hl
  refine lv_iconst (v := nI 0) hx hb dX5_carrierOf_0 rfl ?_
  refine lv_istore_n (lv' := [(2, .int (nI 0)), (0, .ref P), (1, .int j)]) hx hb dX5_carrierOf_1 rfl hl (by decide) rfl (fun ls hl => ?_)
  refine lv_iload_n hx hb dX5_carrierOf_2 rfl (lv_at hl 0 rfl) ?_
  refine lv_aload_n hx hb dX5_carrierOf_3 rfl (lv_at hl 1 rfl) ?_
  refine va_get (D := (dC, dI)) (ci := 5) (v := .int (nI NV)) (C := RX5) (T := TX5) (N := 9) hx hb hts (fun w h => tb_in (inX5 w h)) hown hK hP 0 rfl rfl 7 (by decide) (hts _ (tb_in q_fl_X5_86)) (fun _ h9 => h9) rfl dX5_carrierOf_4 ?_
  refine lv_icmp_ge (tgt := 38) hx hb dX5_carrierOf_7 (by decide) (fun c_1 => ?_) (fun c_1 => ?_)
  · refine lv_iconst (v := (-1)) hx hb dX5_carrierOf_38 (by decide) ?_
    exact W.iret (v := (-1)) hx hb hr (fun t9 ht9 hW9 => ⟨_, rfl, by unfold carrF; rw [if_pos c_1], ht9⟩) (fun _ h9 => absurd h9 List.not_mem_nil) dX5_carrierOf_39
  · refine lv_aload_n hx hb dX5_carrierOf_10 rfl (lv_at hl 1 rfl) ?_
    refine va_get (D := (dC, dI)) (ci := 5) (v := .ref G) (C := RX5) (T := TX5) (N := 9) hx hb hts (fun w h => tb_in (inX5 w h)) hown hK hP 0 rfl rfl 1 (by decide) (hts _ (tb_in q_fl_X5_18)) (fun _ h9 => h9) rfl dX5_carrierOf_11 ?_
    refine lv_iload_n hx hb dX5_carrierOf_14 rfl (lv_at hl 0 rfl) ?_
    refine va_aldq (D := (dC, dI)) hx hb hK hP 1 1 rfl rfl (n := 3) (vp_in_nI (by omega) (by omega)) dX5_carrierOf_15 ?_
    rw [show va_rf ((fun k => some (vd k)) (nI 0).toNatClampNeg) = .ref (vd 0) by rw [nI_clamp (by omega)]; rfl]
    refine va_get (D := (dC, dI)) (ci := 4) (v := .ref (ra 0)) (C := RX4) (T := TX4) (N := 11) hx hb hts (fun w h => tb_in (inX4 w h)) hown hK hP 2 rfl rfl 8 (by decide) (hts _ (tb_in q_fl_X5_160)) (fun _ h9 => h9) rfl dX5_carrierOf_16 ?_
    refine lv_iload_n hx hb dX5_carrierOf_19 rfl (lv_at hl 2 rfl) ?_
    refine k_Ti [.int j] ⟨hx, hb, hml, hown, hts⟩ (c_X5_fetchOf l j) q_ml_X5_129 q_st_X5_fetchOf q_ini_X5 q_co_X5_fetchOf (n := 1) (by decide +kernel) rfl ⟨rfl, rfl⟩ ⟨Nat.le_of_ble_eq_true rfl, Nat.le_of_ble_eq_true rfl⟩ hl.1 rfl (Nat.le_of_ble_eq_true rfl) dX5_carrierOf_20 ⟨Nat.le_of_ble_eq_true rfl, Nat.le_of_ble_eq_true rfl⟩ (fun r_2 hr_2 => ?_)
    subst hr_2
    refine k_Vi (ci := 2) (q0 := 0) [.int (fOf j)] ⟨hx, hb, hml, hown, hts⟩ (c_X2_find l dC dI cI cV (ra 0) (rb 0) (R 0) (rf 0) (hR 0) (fOf j)) q_ml_X5_349 q_im_X2_find q_se_X2_find q_ini_X2 q_co_X2_find (n := 1) (by decide +kernel) rfl ⟨rfl, rfl⟩ ⟨Nat.le_of_ble_eq_true rfl, Nat.le_of_ble_eq_true rfl⟩ (hP.sub [5, 6] rfl) hK hN rfl rfl rfl hl.1 rfl (Nat.le_of_ble_eq_true rfl) dX5_carrierOf_23 ⟨Nat.le_of_ble_eq_true rfl, Nat.le_of_ble_eq_true rfl⟩ (fun r_3 hr_3 => ?_)
    subst hr_3
    refine lv_iconst (v := (-1)) hx hb dX5_carrierOf_26 (by decide) ?_
    refine lv_icmp_eq (tgt := 32) hx hb dX5_carrierOf_27 (by decide) (fun c_4 => ?_) (fun c_4 => ?_)
    · refine lv_iinc (v := nI 1) (lv' := [(2, .int (nI 1)), (0, .ref P), (1, .int j)]) hx hb dX5_carrierOf_32 hl (k := 0) rfl (rfl) (by decide) rfl (fun ls hl => ?_)
      refine lv_goto (tgt := 2) hx hb dX5_carrierOf_35 (by decide) ?_
      refine lv_iload_n hx hb dX5_carrierOf_2 rfl (lv_at hl 0 rfl) ?_
      refine lv_aload_n hx hb dX5_carrierOf_3 rfl (lv_at hl 1 rfl) ?_
      refine va_get (D := (dC, dI)) (ci := 5) (v := .int (nI NV)) (C := RX5) (T := TX5) (N := 9) hx hb hts (fun w h => tb_in (inX5 w h)) hown hK hP 0 rfl rfl 7 (by decide) (hts _ (tb_in q_fl_X5_86)) (fun _ h9 => h9) rfl dX5_carrierOf_4 ?_
      refine lv_icmp_ge (tgt := 38) hx hb dX5_carrierOf_7 (by decide) (fun c_5 => ?_) (fun c_5 => ?_)
      · refine lv_iconst (v := (-1)) hx hb dX5_carrierOf_38 (by decide) ?_
        exact W.iret (v := (-1)) hx hb hr (fun t9 ht9 hW9 => ⟨_, rfl, by unfold carrF; rw [if_neg c_1, if_pos c_4, if_pos c_5], ht9⟩) (fun _ h9 => absurd h9 List.not_mem_nil) dX5_carrierOf_39
      · refine lv_aload_n hx hb dX5_carrierOf_10 rfl (lv_at hl 1 rfl) ?_
        refine va_get (D := (dC, dI)) (ci := 5) (v := .ref G) (C := RX5) (T := TX5) (N := 9) hx hb hts (fun w h => tb_in (inX5 w h)) hown hK hP 0 rfl rfl 1 (by decide) (hts _ (tb_in q_fl_X5_18)) (fun _ h9 => h9) rfl dX5_carrierOf_11 ?_
        refine lv_iload_n hx hb dX5_carrierOf_14 rfl (lv_at hl 0 rfl) ?_
        refine va_aldq (D := (dC, dI)) hx hb hK hP 1 1 rfl rfl (n := 3) (vp_in_nI (by omega) (by omega)) dX5_carrierOf_15 ?_
        rw [show va_rf ((fun k => some (vd k)) (nI 1).toNatClampNeg) = .ref (vd 1) by rw [nI_clamp (by omega)]; rfl]
        refine va_get (D := (dC, dI)) (ci := 4) (v := .ref (ra 1)) (C := RX4) (T := TX4) (N := 11) hx hb hts (fun w h => tb_in (inX4 w h)) hown hK hP 3 rfl rfl 8 (by decide) (hts _ (tb_in q_fl_X5_160)) (fun _ h9 => h9) rfl dX5_carrierOf_16 ?_
        refine lv_iload_n hx hb dX5_carrierOf_19 rfl (lv_at hl 2 rfl) ?_
        refine k_Ti [.int j] ⟨hx, hb, hml, hown, hts⟩ (c_X5_fetchOf l j) q_ml_X5_129 q_st_X5_fetchOf q_ini_X5 q_co_X5_fetchOf (n := 1) (by decide +kernel) rfl ⟨rfl, rfl⟩ ⟨Nat.le_of_ble_eq_true rfl, Nat.le_of_ble_eq_true rfl⟩ hl.1 rfl (Nat.le_of_ble_eq_true rfl) dX5_carrierOf_20 ⟨Nat.le_of_ble_eq_true rfl, Nat.le_of_ble_eq_true rfl⟩ (fun r_6 hr_6 => ?_)
        subst hr_6
        refine k_Vi (ci := 2) (q0 := 0) [.int (fOf j)] ⟨hx, hb, hml, hown, hts⟩ (c_X2_find l dC dI cI cV (ra 1) (rb 1) (R 1) (rf 1) (hR 1) (fOf j)) q_ml_X5_349 q_im_X2_find q_se_X2_find q_ini_X2 q_co_X2_find (n := 1) (by decide +kernel) rfl ⟨rfl, rfl⟩ ⟨Nat.le_of_ble_eq_true rfl, Nat.le_of_ble_eq_true rfl⟩ (hP.sub [7, 8] rfl) hK hN rfl rfl rfl hl.1 rfl (Nat.le_of_ble_eq_true rfl) dX5_carrierOf_23 ⟨Nat.le_of_ble_eq_true rfl, Nat.le_of_ble_eq_true rfl⟩ (fun r_7 hr_7 => ?_)
        subst hr_7
        refine lv_iconst (v := (-1)) hx hb dX5_carrierOf_26 (by decide) ?_
        refine lv_icmp_eq (tgt := 32) hx hb dX5_carrierOf_27 (by decide) (fun c_8 => ?_) (fun c_8 => ?_)
        · refine lv_iinc (v := nI 2) (lv' := [(2, .int (nI 2)), (0, .ref P), (1, .int j)]) hx hb dX5_carrierOf_32 hl (k := 0) rfl (rfl) (by decide) rfl (fun ls hl => ?_)
          refine lv_goto (tgt := 2) hx hb dX5_carrierOf_35 (by decide) ?_
          refine lv_iload_n hx hb dX5_carrierOf_2 rfl (lv_at hl 0 rfl) ?_
          refine lv_aload_n hx hb dX5_carrierOf_3 rfl (lv_at hl 1 rfl) ?_
          refine va_get (D := (dC, dI)) (ci := 5) (v := .int (nI NV)) (C := RX5) (T := TX5) (N := 9) hx hb hts (fun w h => tb_in (inX5 w h)) hown hK hP 0 rfl rfl 7 (by decide) (hts _ (tb_in q_fl_X5_86)) (fun _ h9 => h9) rfl dX5_carrierOf_4 ?_
          refine lv_icmp_ge (tgt := 38) hx hb dX5_carrierOf_7 (by decide) (fun c_9 => ?_) (fun c_9 => ?_)
          · refine lv_iconst (v := (-1)) hx hb dX5_carrierOf_38 (by decide) ?_
            exact W.iret (v := (-1)) hx hb hr (fun t9 ht9 hW9 => ⟨_, rfl, by unfold carrF; rw [if_neg c_1, if_pos c_4, if_neg c_5, if_pos c_8, if_pos c_9], ht9⟩) (fun _ h9 => absurd h9 List.not_mem_nil) dX5_carrierOf_39
          · refine lv_aload_n hx hb dX5_carrierOf_10 rfl (lv_at hl 1 rfl) ?_
            refine va_get (D := (dC, dI)) (ci := 5) (v := .ref G) (C := RX5) (T := TX5) (N := 9) hx hb hts (fun w h => tb_in (inX5 w h)) hown hK hP 0 rfl rfl 1 (by decide) (hts _ (tb_in q_fl_X5_18)) (fun _ h9 => h9) rfl dX5_carrierOf_11 ?_
            refine lv_iload_n hx hb dX5_carrierOf_14 rfl (lv_at hl 0 rfl) ?_
            refine va_aldq (D := (dC, dI)) hx hb hK hP 1 1 rfl rfl (n := 3) (vp_in_nI (by omega) (by omega)) dX5_carrierOf_15 ?_
            rw [show va_rf ((fun k => some (vd k)) (nI 2).toNatClampNeg) = .ref (vd 2) by rw [nI_clamp (by omega)]; rfl]
            refine va_get (D := (dC, dI)) (ci := 4) (v := .ref (ra 2)) (C := RX4) (T := TX4) (N := 11) hx hb hts (fun w h => tb_in (inX4 w h)) hown hK hP 4 rfl rfl 8 (by decide) (hts _ (tb_in q_fl_X5_160)) (fun _ h9 => h9) rfl dX5_carrierOf_16 ?_
            refine lv_iload_n hx hb dX5_carrierOf_19 rfl (lv_at hl 2 rfl) ?_
            refine k_Ti [.int j] ⟨hx, hb, hml, hown, hts⟩ (c_X5_fetchOf l j) q_ml_X5_129 q_st_X5_fetchOf q_ini_X5 q_co_X5_fetchOf (n := 1) (by decide +kernel) rfl ⟨rfl, rfl⟩ ⟨Nat.le_of_ble_eq_true rfl, Nat.le_of_ble_eq_true rfl⟩ hl.1 rfl (Nat.le_of_ble_eq_true rfl) dX5_carrierOf_20 ⟨Nat.le_of_ble_eq_true rfl, Nat.le_of_ble_eq_true rfl⟩ (fun r_10 hr_10 => ?_)
            subst hr_10
            refine k_Vi (ci := 2) (q0 := 0) [.int (fOf j)] ⟨hx, hb, hml, hown, hts⟩ (c_X2_find l dC dI cI cV (ra 2) (rb 2) (R 2) (rf 2) (hR 2) (fOf j)) q_ml_X5_349 q_im_X2_find q_se_X2_find q_ini_X2 q_co_X2_find (n := 1) (by decide +kernel) rfl ⟨rfl, rfl⟩ ⟨Nat.le_of_ble_eq_true rfl, Nat.le_of_ble_eq_true rfl⟩ (hP.sub [9, 10] rfl) hK hN rfl rfl rfl hl.1 rfl (Nat.le_of_ble_eq_true rfl) dX5_carrierOf_23 ⟨Nat.le_of_ble_eq_true rfl, Nat.le_of_ble_eq_true rfl⟩ (fun r_11 hr_11 => ?_)
            subst hr_11
            refine lv_iconst (v := (-1)) hx hb dX5_carrierOf_26 (by decide) ?_
            refine lv_icmp_eq (tgt := 32) hx hb dX5_carrierOf_27 (by decide) (fun c_12 => ?_) (fun c_12 => ?_)
            · refine lv_iinc (v := nI 3) (lv' := [(2, .int (nI 3)), (0, .ref P), (1, .int j)]) hx hb dX5_carrierOf_32 hl (k := 0) rfl (rfl) (by decide) rfl (fun ls hl => ?_)
              refine lv_goto (tgt := 2) hx hb dX5_carrierOf_35 (by decide) ?_
              refine lv_iload_n hx hb dX5_carrierOf_2 rfl (lv_at hl 0 rfl) ?_
              refine lv_aload_n hx hb dX5_carrierOf_3 rfl (lv_at hl 1 rfl) ?_
              refine va_get (D := (dC, dI)) (ci := 5) (v := .int (nI NV)) (C := RX5) (T := TX5) (N := 9) hx hb hts (fun w h => tb_in (inX5 w h)) hown hK hP 0 rfl rfl 7 (by decide) (hts _ (tb_in q_fl_X5_86)) (fun _ h9 => h9) rfl dX5_carrierOf_4 ?_
              refine lv_icmp_ge (tgt := 38) hx hb dX5_carrierOf_7 (by decide) (fun c_13 => ?_) (fun c_13 => ?_)
              · refine lv_iconst (v := (-1)) hx hb dX5_carrierOf_38 (by decide) ?_
                exact W.iret (v := (-1)) hx hb hr (fun t9 ht9 hW9 => ⟨_, rfl, by unfold carrF; rw [if_neg c_1, if_pos c_4, if_neg c_5, if_pos c_8, if_neg c_9, if_pos c_12], ht9⟩) (fun _ h9 => absurd h9 List.not_mem_nil) dX5_carrierOf_39
              · exact absurd (nI_le (by omega) (by omega)) c_13
            · refine lv_iload_n hx hb dX5_carrierOf_30 rfl (lv_at hl 0 rfl) ?_
              exact W.iret (v := nI 2) hx hb hr (fun t9 ht9 hW9 => ⟨_, rfl, by unfold carrF; rw [if_neg c_1, if_pos c_4, if_neg c_5, if_pos c_8, if_neg c_9, if_neg c_12], ht9⟩) (fun _ h9 => absurd h9 List.not_mem_nil) dX5_carrierOf_31
        · refine lv_iload_n hx hb dX5_carrierOf_30 rfl (lv_at hl 0 rfl) ?_
          exact W.iret (v := nI 1) hx hb hr (fun t9 ht9 hW9 => ⟨_, rfl, by unfold carrF; rw [if_neg c_1, if_pos c_4, if_neg c_5, if_neg c_8], ht9⟩) (fun _ h9 => absurd h9 List.not_mem_nil) dX5_carrierOf_31
    · refine lv_iload_n hx hb dX5_carrierOf_30 rfl (lv_at hl 0 rfl) ?_
      exact W.iret (v := nI 0) hx hb hr (fun t9 ht9 hW9 => ⟨_, rfl, by unfold carrF; rw [if_neg c_1, if_neg c_4], ht9⟩) (fun _ h9 => absurd h9 List.not_mem_nil) dX5_carrierOf_31
set_option maxHeartbeats 4000000 in
set_option maxRecDepth 100000 in
theorem c_X5_isBound (l : Launch) (dC : Nat → ClassId) (dI : Nat → Nat → Nat) (cI cV : ClassId) (P F G T za : Nat) (fa ia : Nat → Nat) (w : Nat → Nat → Int32) (NP NJ NV : Nat) (hNP : NP ≤ 12) (hNJ : NJ ≤ 9) (hNV : NV ≤ 3) (ck bg : Int32) (vd ra rb xa ya : Nat → Nat) (vv : Nat → Nat → Int32) (R : Nat → List Int32) (rf : Nat → Nat → Int32) (hR : ∀ k, rw_ok (R k) (rf k)) (j : Int32) : Met l yX5_isBound (Cond.code yX5_isBound cX5_isBound 4 (some .boolean) :: TB) ({ frames := 1, cells := 0, slots := 0, locals := 22 } : Room) (PR [.ref P, .int j] (dC, dI) [(P, .inr (5, [.ref F, .ref G, .ref T, .ref za, .ref (ia 0), .ref (ia 1), .ref (ia 2), .int (nI NV), .int bg])), (G, .inl (cV, 3, .inr (.inr (.inr (.inr (fun k => some (vd k))))))), (vd 0, .inr (4, [.int (vv 0 0), .int (vv 0 1), .int (vv 0 2), .int (vv 0 3), .int (vv 0 4), .int (vv 0 5), .int (vv 0 6), .int (vv 0 7), .ref (ra 0), .ref (xa 0), .ref (ya 0)])), (vd 1, .inr (4, [.int (vv 1 0), .int (vv 1 1), .int (vv 1 2), .int (vv 1 3), .int (vv 1 4), .int (vv 1 5), .int (vv 1 6), .int (vv 1 7), .ref (ra 1), .ref (xa 1), .ref (ya 1)])), (vd 2, .inr (4, [.int (vv 2 0), .int (vv 2 1), .int (vv 2 2), .int (vv 2 3), .int (vv 2 4), .int (vv 2 5), .int (vv 2 6), .int (vv 2 7), .ref (ra 2), .ref (xa 2), .ref (ya 2)])), (ra 0, .inr (2, [.ref (rb 0), .int (nI ((R 0)).length)])), (rb 0, .inl (cI, 18, .inl (rf 0))), (ra 1, .inr (2, [.ref (rb 1), .int (nI ((R 1)).length)])), (rb 1, .inl (cI, 18, .inl (rf 1))), (ra 2, .inr (2, [.ref (rb 2), .int (nI ((R 2)).length)])), (rb 2, .inl (cI, 18, .inl (rf 2)))] (TY cI cV)) (vp_Si (fun r => r = b01 (boundF NV R vv j))) 0 0 (fun _ => False) := by
  refine Met.ofW (cc := cX5_isBound) (maxL := 4) (ret := (some .boolean)) (by decide) rfl ?_
  intro p e s m args below meth c s₁ B hml hv
  obtain ⟨rfl, hP, hK, hN⟩ := hv
  have hx := B.exec
  have hb := B.bytes
  have hr := B.returns
  have hts := atoms_spec (ws := (Cond.code yX5_isBound cX5_isBound 4 (some .boolean) :: TB)) B.pre
  have hown : s.vm.findClass RX5 = some m.cls := findClass_of_methodNamed B.named
  have hlocks := B.notSynchronized
  have hl := lv_entry ([.ref P, .int j]) (n := 4) (Nat.le_of_ble_eq_true rfl)
  rw [lg_entry_eq]
  generalize (lg_sl ([.ref P, .int j]) ++ List.replicate (4 - (lg_sl ([.ref P, .int j])).length) Slot.unset).toArray = ls at hl ⊢
  have hl : lv_has ls 4 [(0, .ref P), (1, .int j)] := hl
  refine lv_iconst (v := nI 0) hx hb dX5_isBound_0 rfl ?_
  refine lv_istore_n (lv' := [(2, .int (nI 0)), (0, .ref P), (1, .int j)]) hx hb dX5_isBound_1 rfl hl (by decide) rfl (fun ls hl => ?_)
  refine lv_iload_n hx hb dX5_isBound_2 rfl (lv_at hl 0 rfl) ?_
  refine lv_aload_n hx hb dX5_isBound_3 rfl (lv_at hl 1 rfl) ?_
  refine va_get (D := (dC, dI)) (ci := 5) (v := .int (nI NV)) (C := RX5) (T := TX5) (N := 9) hx hb hts (fun w h => tb_in (inX5 w h)) hown hK hP 0 rfl rfl 7 (by decide) (hts _ (tb_in q_fl_X5_86)) (fun _ h9 => h9) rfl dX5_isBound_4 ?_
  refine lv_icmp_ge (tgt := 57) hx hb dX5_isBound_7 (by decide) (fun c_1 => ?_) (fun c_1 => ?_)
  · refine lv_iconst (v := 0) hx hb dX5_isBound_57 (by decide) ?_
    exact W.zret (v := 0) hx hb hr rfl (fun t9 ht9 hW9 => ⟨_, rfl, by unfold boundF; rw [if_pos c_1]; rfl, ht9⟩) (fun _ h9 => absurd h9 List.not_mem_nil) dX5_isBound_58
  · refine lv_aload_n hx hb dX5_isBound_10 rfl (lv_at hl 1 rfl) ?_
    refine va_get (D := (dC, dI)) (ci := 5) (v := .ref G) (C := RX5) (T := TX5) (N := 9) hx hb hts (fun w h => tb_in (inX5 w h)) hown hK hP 0 rfl rfl 1 (by decide) (hts _ (tb_in q_fl_X5_18)) (fun _ h9 => h9) rfl dX5_isBound_11 ?_
    refine lv_iload_n hx hb dX5_isBound_14 rfl (lv_at hl 0 rfl) ?_
    refine va_aldq (D := (dC, dI)) hx hb hK hP 1 1 rfl rfl (n := 3) (vp_in_nI (by omega) (by omega)) dX5_isBound_15 ?_
    rw [show va_rf ((fun k => some (vd k)) (nI 0).toNatClampNeg) = .ref (vd 0) by rw [nI_clamp (by omega)]; rfl]
    refine va_get (D := (dC, dI)) (ci := 4) (v := .ref (ra 0)) (C := RX4) (T := TX4) (N := 11) hx hb hts (fun w h => tb_in (inX4 w h)) hown hK hP 2 rfl rfl 8 (by decide) (hts _ (tb_in q_fl_X5_160)) (fun _ h9 => h9) rfl dX5_isBound_16 ?_
    refine lv_iload_n hx hb dX5_isBound_19 rfl (lv_at hl 2 rfl) ?_
    refine k_Ti [.int j] ⟨hx, hb, hml, hown, hts⟩ (c_X5_fetchOf l j) q_ml_X5_129 q_st_X5_fetchOf q_ini_X5 q_co_X5_fetchOf (n := 1) (by decide +kernel) rfl ⟨rfl, rfl⟩ ⟨Nat.le_of_ble_eq_true rfl, Nat.le_of_ble_eq_true rfl⟩ hl.1 rfl (Nat.le_of_ble_eq_true rfl) dX5_isBound_20 ⟨Nat.le_of_ble_eq_true rfl, Nat.le_of_ble_eq_true rfl⟩ (fun r_2 hr_2 => ?_)
    subst hr_2
    refine k_Vi (ci := 2) (q0 := 0) [.int (fOf j)] ⟨hx, hb, hml, hown, hts⟩ (c_X2_find l dC dI cI cV (ra 0) (rb 0) (R 0) (rf 0) (hR 0) (fOf j)) q_ml_X5_349 q_im_X2_find q_se_X2_find q_ini_X2 q_co_X2_find (n := 1) (by decide +kernel) rfl ⟨rfl, rfl⟩ ⟨Nat.le_of_ble_eq_true rfl, Nat.le_of_ble_eq_true rfl⟩ (hP.sub [5, 6] rfl) hK hN rfl rfl rfl hl.1 rfl (Nat.le_of_ble_eq_true rfl) dX5_isBound_23 ⟨Nat.le_of_ble_eq_true rfl, Nat.le_of_ble_eq_true rfl⟩ (fun r_3 hr_3 => ?_)
    subst hr_3
    refine lv_istore_n (lv' := [(3, .int (rFind (R 0) (fOf j))), (2, .int (nI 0)), (0, .ref P), (1, .int j)]) hx hb dX5_isBound_26 rfl hl (by decide) rfl (fun ls hl => ?_)
    refine lv_iload_n hx hb dX5_isBound_27 rfl (lv_at hl 0 rfl) ?_
    refine lv_iconst (v := (-1)) hx hb dX5_isBound_28 (by decide) ?_
    refine lv_icmp_eq (tgt := 51) hx hb dX5_isBound_29 (by decide) (fun c_4 => ?_) (fun c_4 => ?_)
    · refine lv_iinc (v := nI 1) (lv' := [(2, .int (nI 1)), (3, .int (rFind (R 0) (fOf j))), (0, .ref P), (1, .int j)]) hx hb dX5_isBound_51 hl (k := 1) rfl (rfl) (by decide) rfl (fun ls hl => ?_)
      refine lv_goto (tgt := 2) hx hb dX5_isBound_54 (by decide) ?_
      refine lv_iload_n hx hb dX5_isBound_2 rfl (lv_at hl 0 rfl) ?_
      refine lv_aload_n hx hb dX5_isBound_3 rfl (lv_at hl 2 rfl) ?_
      refine va_get (D := (dC, dI)) (ci := 5) (v := .int (nI NV)) (C := RX5) (T := TX5) (N := 9) hx hb hts (fun w h => tb_in (inX5 w h)) hown hK hP 0 rfl rfl 7 (by decide) (hts _ (tb_in q_fl_X5_86)) (fun _ h9 => h9) rfl dX5_isBound_4 ?_
      refine lv_icmp_ge (tgt := 57) hx hb dX5_isBound_7 (by decide) (fun c_5 => ?_) (fun c_5 => ?_)
      · refine lv_iconst (v := 0) hx hb dX5_isBound_57 (by decide) ?_
        exact W.zret (v := 0) hx hb hr rfl (fun t9 ht9 hW9 => ⟨_, rfl, by unfold boundF; rw [if_neg c_1, if_pos c_4, if_pos c_5]; rfl, ht9⟩) (fun _ h9 => absurd h9 List.not_mem_nil) dX5_isBound_58
      · refine lv_aload_n hx hb dX5_isBound_10 rfl (lv_at hl 2 rfl) ?_
        refine va_get (D := (dC, dI)) (ci := 5) (v := .ref G) (C := RX5) (T := TX5) (N := 9) hx hb hts (fun w h => tb_in (inX5 w h)) hown hK hP 0 rfl rfl 1 (by decide) (hts _ (tb_in q_fl_X5_18)) (fun _ h9 => h9) rfl dX5_isBound_11 ?_
        refine lv_iload_n hx hb dX5_isBound_14 rfl (lv_at hl 0 rfl) ?_
        refine va_aldq (D := (dC, dI)) hx hb hK hP 1 1 rfl rfl (n := 3) (vp_in_nI (by omega) (by omega)) dX5_isBound_15 ?_
        rw [show va_rf ((fun k => some (vd k)) (nI 1).toNatClampNeg) = .ref (vd 1) by rw [nI_clamp (by omega)]; rfl]
        refine va_get (D := (dC, dI)) (ci := 4) (v := .ref (ra 1)) (C := RX4) (T := TX4) (N := 11) hx hb hts (fun w h => tb_in (inX4 w h)) hown hK hP 3 rfl rfl 8 (by decide) (hts _ (tb_in q_fl_X5_160)) (fun _ h9 => h9) rfl dX5_isBound_16 ?_
        refine lv_iload_n hx hb dX5_isBound_19 rfl (lv_at hl 3 rfl) ?_
        refine k_Ti [.int j] ⟨hx, hb, hml, hown, hts⟩ (c_X5_fetchOf l j) q_ml_X5_129 q_st_X5_fetchOf q_ini_X5 q_co_X5_fetchOf (n := 1) (by decide +kernel) rfl ⟨rfl, rfl⟩ ⟨Nat.le_of_ble_eq_true rfl, Nat.le_of_ble_eq_true rfl⟩ hl.1 rfl (Nat.le_of_ble_eq_true rfl) dX5_isBound_20 ⟨Nat.le_of_ble_eq_true rfl, Nat.le_of_ble_eq_true rfl⟩ (fun r_6 hr_6 => ?_)
        subst hr_6
        refine k_Vi (ci := 2) (q0 := 0) [.int (fOf j)] ⟨hx, hb, hml, hown, hts⟩ (c_X2_find l dC dI cI cV (ra 1) (rb 1) (R 1) (rf 1) (hR 1) (fOf j)) q_ml_X5_349 q_im_X2_find q_se_X2_find q_ini_X2 q_co_X2_find (n := 1) (by decide +kernel) rfl ⟨rfl, rfl⟩ ⟨Nat.le_of_ble_eq_true rfl, Nat.le_of_ble_eq_true rfl⟩ (hP.sub [7, 8] rfl) hK hN rfl rfl rfl hl.1 rfl (Nat.le_of_ble_eq_true rfl) dX5_isBound_23 ⟨Nat.le_of_ble_eq_true rfl, Nat.le_of_ble_eq_true rfl⟩ (fun r_7 hr_7 => ?_)
        subst hr_7
        refine lv_istore_n (lv' := [(3, .int (rFind (R 1) (fOf j))), (2, .int (nI 1)), (0, .ref P), (1, .int j)]) hx hb dX5_isBound_26 rfl hl (by decide) rfl (fun ls hl => ?_)
        refine lv_iload_n hx hb dX5_isBound_27 rfl (lv_at hl 0 rfl) ?_
        refine lv_iconst (v := (-1)) hx hb dX5_isBound_28 (by decide) ?_
        refine lv_icmp_eq (tgt := 51) hx hb dX5_isBound_29 (by decide) (fun c_8 => ?_) (fun c_8 => ?_)
        · refine lv_iinc (v := nI 2) (lv' := [(2, .int (nI 2)), (3, .int (rFind (R 1) (fOf j))), (0, .ref P), (1, .int j)]) hx hb dX5_isBound_51 hl (k := 1) rfl (rfl) (by decide) rfl (fun ls hl => ?_)
          refine lv_goto (tgt := 2) hx hb dX5_isBound_54 (by decide) ?_
          refine lv_iload_n hx hb dX5_isBound_2 rfl (lv_at hl 0 rfl) ?_
          refine lv_aload_n hx hb dX5_isBound_3 rfl (lv_at hl 2 rfl) ?_
          refine va_get (D := (dC, dI)) (ci := 5) (v := .int (nI NV)) (C := RX5) (T := TX5) (N := 9) hx hb hts (fun w h => tb_in (inX5 w h)) hown hK hP 0 rfl rfl 7 (by decide) (hts _ (tb_in q_fl_X5_86)) (fun _ h9 => h9) rfl dX5_isBound_4 ?_
          refine lv_icmp_ge (tgt := 57) hx hb dX5_isBound_7 (by decide) (fun c_9 => ?_) (fun c_9 => ?_)
          · refine lv_iconst (v := 0) hx hb dX5_isBound_57 (by decide) ?_
            exact W.zret (v := 0) hx hb hr rfl (fun t9 ht9 hW9 => ⟨_, rfl, by unfold boundF; rw [if_neg c_1, if_pos c_4, if_neg c_5, if_pos c_8, if_pos c_9]; rfl, ht9⟩) (fun _ h9 => absurd h9 List.not_mem_nil) dX5_isBound_58
          · refine lv_aload_n hx hb dX5_isBound_10 rfl (lv_at hl 2 rfl) ?_
            refine va_get (D := (dC, dI)) (ci := 5) (v := .ref G) (C := RX5) (T := TX5) (N := 9) hx hb hts (fun w h => tb_in (inX5 w h)) hown hK hP 0 rfl rfl 1 (by decide) (hts _ (tb_in q_fl_X5_18)) (fun _ h9 => h9) rfl dX5_isBound_11 ?_
            refine lv_iload_n hx hb dX5_isBound_14 rfl (lv_at hl 0 rfl) ?_
            refine va_aldq (D := (dC, dI)) hx hb hK hP 1 1 rfl rfl (n := 3) (vp_in_nI (by omega) (by omega)) dX5_isBound_15 ?_
            rw [show va_rf ((fun k => some (vd k)) (nI 2).toNatClampNeg) = .ref (vd 2) by rw [nI_clamp (by omega)]; rfl]
            refine va_get (D := (dC, dI)) (ci := 4) (v := .ref (ra 2)) (C := RX4) (T := TX4) (N := 11) hx hb hts (fun w h => tb_in (inX4 w h)) hown hK hP 4 rfl rfl 8 (by decide) (hts _ (tb_in q_fl_X5_160)) (fun _ h9 => h9) rfl dX5_isBound_16 ?_
            refine lv_iload_n hx hb dX5_isBound_19 rfl (lv_at hl 3 rfl) ?_
            refine k_Ti [.int j] ⟨hx, hb, hml, hown, hts⟩ (c_X5_fetchOf l j) q_ml_X5_129 q_st_X5_fetchOf q_ini_X5 q_co_X5_fetchOf (n := 1) (by decide +kernel) rfl ⟨rfl, rfl⟩ ⟨Nat.le_of_ble_eq_true rfl, Nat.le_of_ble_eq_true rfl⟩ hl.1 rfl (Nat.le_of_ble_eq_true rfl) dX5_isBound_20 ⟨Nat.le_of_ble_eq_true rfl, Nat.le_of_ble_eq_true rfl⟩ (fun r_10 hr_10 => ?_)
            subst hr_10
            refine k_Vi (ci := 2) (q0 := 0) [.int (fOf j)] ⟨hx, hb, hml, hown, hts⟩ (c_X2_find l dC dI cI cV (ra 2) (rb 2) (R 2) (rf 2) (hR 2) (fOf j)) q_ml_X5_349 q_im_X2_find q_se_X2_find q_ini_X2 q_co_X2_find (n := 1) (by decide +kernel) rfl ⟨rfl, rfl⟩ ⟨Nat.le_of_ble_eq_true rfl, Nat.le_of_ble_eq_true rfl⟩ (hP.sub [9, 10] rfl) hK hN rfl rfl rfl hl.1 rfl (Nat.le_of_ble_eq_true rfl) dX5_isBound_23 ⟨Nat.le_of_ble_eq_true rfl, Nat.le_of_ble_eq_true rfl⟩ (fun r_11 hr_11 => ?_)
            subst hr_11
            refine lv_istore_n (lv' := [(3, .int (rFind (R 2) (fOf j))), (2, .int (nI 2)), (0, .ref P), (1, .int j)]) hx hb dX5_isBound_26 rfl hl (by decide) rfl (fun ls hl => ?_)
            refine lv_iload_n hx hb dX5_isBound_27 rfl (lv_at hl 0 rfl) ?_
            refine lv_iconst (v := (-1)) hx hb dX5_isBound_28 (by decide) ?_
            refine lv_icmp_eq (tgt := 51) hx hb dX5_isBound_29 (by decide) (fun c_12 => ?_) (fun c_12 => ?_)
            · refine lv_iinc (v := nI 3) (lv' := [(2, .int (nI 3)), (3, .int (rFind (R 2) (fOf j))), (0, .ref P), (1, .int j)]) hx hb dX5_isBound_51 hl (k := 1) rfl (rfl) (by decide) rfl (fun ls hl => ?_)
              refine lv_goto (tgt := 2) hx hb dX5_isBound_54 (by decide) ?_
              refine lv_iload_n hx hb dX5_isBound_2 rfl (lv_at hl 0 rfl) ?_
              refine lv_aload_n hx hb dX5_isBound_3 rfl (lv_at hl 2 rfl) ?_
              refine va_get (D := (dC, dI)) (ci := 5) (v := .int (nI NV)) (C := RX5) (T := TX5) (N := 9) hx hb hts (fun w h => tb_in (inX5 w h)) hown hK hP 0 rfl rfl 7 (by decide) (hts _ (tb_in q_fl_X5_86)) (fun _ h9 => h9) rfl dX5_isBound_4 ?_
              refine lv_icmp_ge (tgt := 57) hx hb dX5_isBound_7 (by decide) (fun c_13 => ?_) (fun c_13 => ?_)
              · refine lv_iconst (v := 0) hx hb dX5_isBound_57 (by decide) ?_
                exact W.zret (v := 0) hx hb hr rfl (fun t9 ht9 hW9 => ⟨_, rfl, by unfold boundF; rw [if_neg c_1, if_pos c_4, if_neg c_5, if_pos c_8, if_neg c_9, if_pos c_12]; rfl, ht9⟩) (fun _ h9 => absurd h9 List.not_mem_nil) dX5_isBound_58
              · exact absurd (nI_le (by omega) (by omega)) c_13
            · refine lv_iload_n hx hb dX5_isBound_32 rfl (lv_at hl 0 rfl) ?_
              refine lv_aload_n hx hb dX5_isBound_33 rfl (lv_at hl 2 rfl) ?_
              refine va_get (D := (dC, dI)) (ci := 5) (v := .ref G) (C := RX5) (T := TX5) (N := 9) hx hb hts (fun w h => tb_in (inX5 w h)) hown hK hP 0 rfl rfl 1 (by decide) (hts _ (tb_in q_fl_X5_18)) (fun _ h9 => h9) rfl dX5_isBound_34 ?_
              refine lv_iload_n hx hb dX5_isBound_37 rfl (lv_at hl 1 rfl) ?_
              refine va_aldq (D := (dC, dI)) hx hb hK hP 1 1 rfl rfl (n := 3) (vp_in_nI (by omega) (by omega)) dX5_isBound_38 ?_
              rw [show va_rf ((fun k => some (vd k)) (nI 2).toNatClampNeg) = .ref (vd 2) by rw [nI_clamp (by omega)]; rfl]
              refine va_get (D := (dC, dI)) (ci := 4) (v := .int (vv 2 6)) (C := RX4) (T := TX4) (N := 11) hx hb hts (fun w h => tb_in (inX4 w h)) hown hK hP 4 rfl rfl 6 (by decide) (hts _ (tb_in q_fl_X5_179)) (fun _ h9 => h9) rfl dX5_isBound_39 ?_
              refine lv_icmp_ge (tgt := 49) hx hb dX5_isBound_42 (by decide) (fun c_14 => ?_) (fun c_14 => ?_)
              · refine lv_iconst (v := 0) hx hb dX5_isBound_49 (by decide) ?_
                exact W.zret (v := 0) hx hb hr rfl (fun t9 ht9 hW9 => ⟨_, rfl, by unfold boundF; rw [if_neg c_1, if_pos c_4, if_neg c_5, if_pos c_8, if_neg c_9, if_neg c_12]; simp [b01, c_14], ht9⟩) (fun _ h9 => absurd h9 List.not_mem_nil) dX5_isBound_50
              · refine lv_iconst (v := 1) hx hb dX5_isBound_45 (by decide) ?_
                refine lv_goto (tgt := 50) hx hb dX5_isBound_46 (by decide) ?_
                exact W.zret (v := 1) hx hb hr rfl (fun t9 ht9 hW9 => ⟨_, rfl, by unfold boundF; rw [if_neg c_1, if_pos c_4, if_neg c_5, if_pos c_8, if_neg c_9, if_neg c_12]; simp [b01, c_14], ht9⟩) (fun _ h9 => absurd h9 List.not_mem_nil) dX5_isBound_50
        · refine lv_iload_n hx hb dX5_isBound_32 rfl (lv_at hl 0 rfl) ?_
          refine lv_aload_n hx hb dX5_isBound_33 rfl (lv_at hl 2 rfl) ?_
          refine va_get (D := (dC, dI)) (ci := 5) (v := .ref G) (C := RX5) (T := TX5) (N := 9) hx hb hts (fun w h => tb_in (inX5 w h)) hown hK hP 0 rfl rfl 1 (by decide) (hts _ (tb_in q_fl_X5_18)) (fun _ h9 => h9) rfl dX5_isBound_34 ?_
          refine lv_iload_n hx hb dX5_isBound_37 rfl (lv_at hl 1 rfl) ?_
          refine va_aldq (D := (dC, dI)) hx hb hK hP 1 1 rfl rfl (n := 3) (vp_in_nI (by omega) (by omega)) dX5_isBound_38 ?_
          rw [show va_rf ((fun k => some (vd k)) (nI 1).toNatClampNeg) = .ref (vd 1) by rw [nI_clamp (by omega)]; rfl]
          refine va_get (D := (dC, dI)) (ci := 4) (v := .int (vv 1 6)) (C := RX4) (T := TX4) (N := 11) hx hb hts (fun w h => tb_in (inX4 w h)) hown hK hP 3 rfl rfl 6 (by decide) (hts _ (tb_in q_fl_X5_179)) (fun _ h9 => h9) rfl dX5_isBound_39 ?_
          refine lv_icmp_ge (tgt := 49) hx hb dX5_isBound_42 (by decide) (fun c_15 => ?_) (fun c_15 => ?_)
          · refine lv_iconst (v := 0) hx hb dX5_isBound_49 (by decide) ?_
            exact W.zret (v := 0) hx hb hr rfl (fun t9 ht9 hW9 => ⟨_, rfl, by unfold boundF; rw [if_neg c_1, if_pos c_4, if_neg c_5, if_neg c_8]; simp [b01, c_15], ht9⟩) (fun _ h9 => absurd h9 List.not_mem_nil) dX5_isBound_50
          · refine lv_iconst (v := 1) hx hb dX5_isBound_45 (by decide) ?_
            refine lv_goto (tgt := 50) hx hb dX5_isBound_46 (by decide) ?_
            exact W.zret (v := 1) hx hb hr rfl (fun t9 ht9 hW9 => ⟨_, rfl, by unfold boundF; rw [if_neg c_1, if_pos c_4, if_neg c_5, if_neg c_8]; simp [b01, c_15], ht9⟩) (fun _ h9 => absurd h9 List.not_mem_nil) dX5_isBound_50
    · refine lv_iload_n hx hb dX5_isBound_32 rfl (lv_at hl 0 rfl) ?_
      refine lv_aload_n hx hb dX5_isBound_33 rfl (lv_at hl 2 rfl) ?_
      refine va_get (D := (dC, dI)) (ci := 5) (v := .ref G) (C := RX5) (T := TX5) (N := 9) hx hb hts (fun w h => tb_in (inX5 w h)) hown hK hP 0 rfl rfl 1 (by decide) (hts _ (tb_in q_fl_X5_18)) (fun _ h9 => h9) rfl dX5_isBound_34 ?_
      refine lv_iload_n hx hb dX5_isBound_37 rfl (lv_at hl 1 rfl) ?_
      refine va_aldq (D := (dC, dI)) hx hb hK hP 1 1 rfl rfl (n := 3) (vp_in_nI (by omega) (by omega)) dX5_isBound_38 ?_
      rw [show va_rf ((fun k => some (vd k)) (nI 0).toNatClampNeg) = .ref (vd 0) by rw [nI_clamp (by omega)]; rfl]
      refine va_get (D := (dC, dI)) (ci := 4) (v := .int (vv 0 6)) (C := RX4) (T := TX4) (N := 11) hx hb hts (fun w h => tb_in (inX4 w h)) hown hK hP 2 rfl rfl 6 (by decide) (hts _ (tb_in q_fl_X5_179)) (fun _ h9 => h9) rfl dX5_isBound_39 ?_
      refine lv_icmp_ge (tgt := 49) hx hb dX5_isBound_42 (by decide) (fun c_16 => ?_) (fun c_16 => ?_)
      · refine lv_iconst (v := 0) hx hb dX5_isBound_49 (by decide) ?_
        exact W.zret (v := 0) hx hb hr rfl (fun t9 ht9 hW9 => ⟨_, rfl, by unfold boundF; rw [if_neg c_1, if_neg c_4]; simp [b01, c_16], ht9⟩) (fun _ h9 => absurd h9 List.not_mem_nil) dX5_isBound_50
      · refine lv_iconst (v := 1) hx hb dX5_isBound_45 (by decide) ?_
        refine lv_goto (tgt := 50) hx hb dX5_isBound_46 (by decide) ?_
        exact W.zret (v := 1) hx hb hr rfl (fun t9 ht9 hW9 => ⟨_, rfl, by unfold boundF; rw [if_neg c_1, if_neg c_4]; simp [b01, c_16], ht9⟩) (fun _ h9 => absurd h9 List.not_mem_nil) dX5_isBound_50
set_option maxHeartbeats 4000000 in
set_option maxRecDepth 100000 in
theorem c_X5_isMovable (l : Launch) (dC : Nat → ClassId) (dI : Nat → Nat → Nat) (cI cV : ClassId) (P F G T za : Nat) (fa ia : Nat → Nat) (w : Nat → Nat → Int32) (NP NJ NV : Nat) (hNP : NP ≤ 12) (hNJ : NJ ≤ 9) (hNV : NV ≤ 3) (ck bg : Int32) (vd ra rb xa ya : Nat → Nat) (vv : Nat → Nat → Int32) (R : Nat → List Int32) (rf : Nat → Nat → Int32) (hR : ∀ k, rw_ok (R k) (rf k)) (j : Int32) : Met l yX5_isMovable (Cond.code yX5_isMovable cX5_isMovable 2 (some .boolean) :: TB) ({ frames := 2, cells := 0, slots := 0, locals := 45 } : Room) (PR [.ref P, .int j] (dC, dI) [(P, .inr (5, [.ref F, .ref G, .ref T, .ref za, .ref (ia 0), .ref (ia 1), .ref (ia 2), .int (nI NV), .int bg])), (G, .inl (cV, 3, .inr (.inr (.inr (.inr (fun k => some (vd k))))))), (vd 0, .inr (4, [.int (vv 0 0), .int (vv 0 1), .int (vv 0 2), .int (vv 0 3), .int (vv 0 4), .int (vv 0 5), .int (vv 0 6), .int (vv 0 7), .ref (ra 0), .ref (xa 0), .ref (ya 0)])), (vd 1, .inr (4, [.int (vv 1 0), .int (vv 1 1), .int (vv 1 2), .int (vv 1 3), .int (vv 1 4), .int (vv 1 5), .int (vv 1 6), .int (vv 1 7), .ref (ra 1), .ref (xa 1), .ref (ya 1)])), (vd 2, .inr (4, [.int (vv 2 0), .int (vv 2 1), .int (vv 2 2), .int (vv 2 3), .int (vv 2 4), .int (vv 2 5), .int (vv 2 6), .int (vv 2 7), .ref (ra 2), .ref (xa 2), .ref (ya 2)])), (ra 0, .inr (2, [.ref (rb 0), .int (nI ((R 0)).length)])), (rb 0, .inl (cI, 18, .inl (rf 0))), (ra 1, .inr (2, [.ref (rb 1), .int (nI ((R 1)).length)])), (rb 1, .inl (cI, 18, .inl (rf 1))), (ra 2, .inr (2, [.ref (rb 2), .int (nI ((R 2)).length)])), (rb 2, .inl (cI, 18, .inl (rf 2)))] (TY cI cV)) (vp_Si (fun r => r = b01 (movF NV R vv j))) 0 0 (fun _ => False) := by
  refine Met.ofW (cc := cX5_isMovable) (maxL := 2) (ret := (some .boolean)) (by decide) rfl ?_
  intro p e s m args below meth c s₁ B hml hv
  obtain ⟨rfl, hP, hK, hN⟩ := hv
  have hx := B.exec
  have hb := B.bytes
  have hr := B.returns
  have hts := atoms_spec (ws := (Cond.code yX5_isMovable cX5_isMovable 2 (some .boolean) :: TB)) B.pre
  have hown : s.vm.findClass RX5 = some m.cls := findClass_of_methodNamed B.named
  have hlocks := B.notSynchronized
  have hl := lv_entry ([.ref P, .int j]) (n := 2) (Nat.le_of_ble_eq_true rfl)
  rw [lg_entry_eq]
  generalize (lg_sl ([.ref P, .int j]) ++ List.replicate (2 - (lg_sl ([.ref P, .int j])).length) Slot.unset).toArray = ls at hl ⊢
  have hl : lv_has ls 2 [(0, .ref P), (1, .int j)] := hl
  refine lv_aload_n hx hb dX5_isMovable_0 rfl (lv_at hl 0 rfl) ?_
  refine lv_iload_n hx hb dX5_isMovable_1 rfl (lv_at hl 1 rfl) ?_
  refine k_Vi (ci := 5) (q0 := 0) [.int j] ⟨hx, hb, hml, hown, hts⟩ (c_X5_carrierOf l dC dI cI cV P F G T za fa ia w NP NJ NV hNP hNJ hNV ck bg vd ra rb xa ya vv R rf hR j) q_ml_X5_194 q_im_X5_carrierOf q_se_X5_carrierOf q_ini_X5 q_co_X5_carrierOf (n := 1) (by decide +kernel) rfl ⟨rfl, rfl⟩ ⟨Nat.le_of_ble_eq_true rfl, Nat.le_of_ble_eq_true rfl⟩ (hP.sub [0, 1, 2, 3, 4, 5, 6, 7, 8, 9, 10] rfl) hK hN rfl rfl rfl hl.1 rfl (Nat.le_of_ble_eq_true rfl) dX5_isMovable_2 ⟨Nat.le_of_ble_eq_true rfl, Nat.le_of_ble_eq_true rfl⟩ (fun r_1 hr_1 => ?_)
  subst hr_1
  refine lv_iconst (v := (-1)) hx hb dX5_isMovable_5 (by decide) ?_
  refine lv_icmp_eq (tgt := 21) hx hb dX5_isMovable_6 (by decide) (fun c_2 => ?_) (fun c_2 => ?_)
  · refine lv_iconst (v := 0) hx hb dX5_isMovable_21 (by decide) ?_
    exact W.zret (v := 0) hx hb hr rfl (fun t9 ht9 hW9 => ⟨_, rfl, by unfold movF; rw [decide_eq_true c_2]; rfl, ht9⟩) (fun _ h9 => absurd h9 List.not_mem_nil) dX5_isMovable_22
  · refine lv_aload_n hx hb dX5_isMovable_9 rfl (lv_at hl 0 rfl) ?_
    refine lv_iload_n hx hb dX5_isMovable_10 rfl (lv_at hl 1 rfl) ?_
    refine k_Vi (ci := 5) (q0 := 0) [.int j] ⟨hx, hb, hml, hown, hts⟩ (c_X5_isBound l dC dI cI cV P F G T za fa ia w NP NJ NV hNP hNJ hNV ck bg vd ra rb xa ya vv R rf hR j) q_ml_X5_123 q_im_X5_isBound q_se_X5_isBound q_ini_X5 q_co_X5_isBound (n := 1) (by decide +kernel) rfl ⟨rfl, rfl⟩ ⟨Nat.le_of_ble_eq_true rfl, Nat.le_of_ble_eq_true rfl⟩ (hP.sub [0, 1, 2, 3, 4, 5, 6, 7, 8, 9, 10] rfl) hK hN rfl rfl rfl hl.1 rfl (Nat.le_of_ble_eq_true rfl) dX5_isMovable_11 ⟨Nat.le_of_ble_eq_true rfl, Nat.le_of_ble_eq_true rfl⟩ (fun r_3 hr_3 => ?_)
    subst hr_3
    refine lv_if_ne (tgt := 21) hx hb dX5_isMovable_14 (by decide) (fun c_4 => ?_) (fun c_4 => ?_)
    · refine lv_iconst (v := 0) hx hb dX5_isMovable_21 (by decide) ?_
      exact W.zret (v := 0) hx hb hr rfl (fun t9 ht9 hW9 => ⟨_, rfl, by unfold movF; rw [ts9.mp (fun q => c_4 (b01_0.mpr q)), Bool.not_true, Bool.and_false]; rfl, ht9⟩) (fun _ h9 => absurd h9 List.not_mem_nil) dX5_isMovable_22
    · refine lv_iconst (v := 1) hx hb dX5_isMovable_17 (by decide) ?_
      refine lv_goto (tgt := 22) hx hb dX5_isMovable_18 (by decide) ?_
      exact W.zret (v := 1) hx hb hr rfl (fun t9 ht9 hW9 => ⟨_, rfl, by unfold movF; rw [decide_eq_false c_2, b01_0.mp c_4]; rfl, ht9⟩) (fun _ h9 => absurd h9 List.not_mem_nil) dX5_isMovable_22
set_option maxHeartbeats 4000000 in
set_option maxRecDepth 100000 in
theorem c_X5_detour (l : Launch) (dC : Nat → ClassId) (dI : Nat → Nat → Nat) (cI cV : ClassId) (P F G T za : Nat) (fa ia : Nat → Nat) (w : Nat → Nat → Int32) (NP NJ NV : Nat) (hNP : NP ≤ 12) (hNJ : NJ ≤ 9) (hNV : NV ≤ 3) (ck bg : Int32) (x y z : Int32) : Met l yX5_detour (Cond.code yX5_detour cX5_detour 4 (some .int) :: TB) ({ frames := 1, cells := 0, slots := 0, locals := 22 } : Room) (PR [.ref P, .int x, .int y, .int z] (dC, dI) [(P, .inr (5, [.ref F, .ref G, .ref T, .ref za, .ref (ia 0), .ref (ia 1), .ref (ia 2), .int (nI NV), .int bg])), (F, .inr (0, [.ref (fa 0), .ref (fa 1), .ref (fa 2), .ref (fa 3), .ref (fa 4), .ref (fa 5), .ref (fa 6), .ref (fa 7), .ref (fa 8), .int (nI NP), .int (nI NJ), .int ck])), (fa 0, .inl (cI, 12, .inl (w 0))), (fa 1, .inl (cI, 12, .inl (w 1))), (fa 2, .inl (cI, 144, .inl (w 2))), (fa 3, .inl (cI, 9, .inl (w 3))), (fa 4, .inl (cI, 18, .inl (w 4))), (fa 5, .inl (cI, 18, .inl (w 5))), (fa 6, .inl (cI, 18, .inl (w 6))), (fa 7, .inl (cI, 18, .inl (w 7))), (fa 8, .inl (cI, 18, .inl (w 8)))] (TY cI cV)) (vp_Si (fun r => r = detF NP (w 2) x y z)) 0 0 (fun _ => False) := by
  refine Met.ofW (cc := cX5_detour) (maxL := 4) (ret := (some .int)) (by decide) rfl ?_
  intro p e s m args below meth c s₁ B hml hv
  obtain ⟨rfl, hP, hK, hN⟩ := hv
  have hx := B.exec
  have hb := B.bytes
  have hr := B.returns
  have hts := atoms_spec (ws := (Cond.code yX5_detour cX5_detour 4 (some .int) :: TB)) B.pre
  have hown : s.vm.findClass RX5 = some m.cls := findClass_of_methodNamed B.named
  have hlocks := B.notSynchronized
  have hl := lv_entry ([.ref P, .int x, .int y, .int z]) (n := 4) (Nat.le_of_ble_eq_true rfl)
  rw [lg_entry_eq]
  generalize (lg_sl ([.ref P, .int x, .int y, .int z]) ++ List.replicate (4 - (lg_sl ([.ref P, .int x, .int y, .int z])).length) Slot.unset).toArray = ls at hl ⊢
  have hl : lv_has ls 4 [(0, .ref P), (1, .int x), (2, .int y), (3, .int z)] := hl
  refine lv_aload_n hx hb dX5_detour_0 rfl (lv_at hl 0 rfl) ?_
  refine va_get (D := (dC, dI)) (ci := 5) (v := .ref F) (C := RX5) (T := TX5) (N := 9) hx hb hts (fun w h => tb_in (inX5 w h)) hown hK hP 0 rfl rfl 0 (by decide) (hts _ (tb_in q_fl_X5_12)) (fun _ h9 => h9) rfl dX5_detour_1 ?_
  refine lv_iload_n hx hb dX5_detour_4 rfl (lv_at hl 1 rfl) ?_
  refine lv_iload_n hx hb dX5_detour_5 rfl (lv_at hl 2 rfl) ?_
  refine k_Vi (ci := 0) (q0 := 0) [.int x, .int y] ⟨hx, hb, hml, hown, hts⟩ (c_X0_wayBetween l dC dI cI cV F fa w NP NJ hNP hNJ ck x y) q_ml_X5_247 q_im_X0_wayBetween q_se_X0_wayBetween q_ini_X0 q_co_X0_wayBetween (n := 2) (by decide +kernel) rfl ⟨rfl, rfl⟩ ⟨Nat.le_of_ble_eq_true rfl, Nat.le_of_ble_eq_true rfl⟩ (hP.sub [1, 2, 3, 4, 5, 6, 7, 8, 9, 10] rfl) hK hN rfl rfl rfl hl.1 rfl (Nat.le_of_ble_eq_true rfl) dX5_detour_6 ⟨Nat.le_of_ble_eq_true rfl, Nat.le_of_ble_eq_true rfl⟩ (fun r_1 hr_1 => ?_)
  subst hr_1
  refine lv_aload_n hx hb dX5_detour_9 rfl (lv_at hl 0 rfl) ?_
  refine va_get (D := (dC, dI)) (ci := 5) (v := .ref F) (C := RX5) (T := TX5) (N := 9) hx hb hts (fun w h => tb_in (inX5 w h)) hown hK hP 0 rfl rfl 0 (by decide) (hts _ (tb_in q_fl_X5_12)) (fun _ h9 => h9) rfl dX5_detour_10 ?_
  refine lv_iload_n hx hb dX5_detour_13 rfl (lv_at hl 2 rfl) ?_
  refine lv_iload_n hx hb dX5_detour_14 rfl (lv_at hl 3 rfl) ?_
  refine k_Vi (ci := 0) (q0 := 0) [.int y, .int z] ⟨hx, hb, hml, hown, hts⟩ (c_X0_wayBetween l dC dI cI cV F fa w NP NJ hNP hNJ ck y z) q_ml_X5_247 q_im_X0_wayBetween q_se_X0_wayBetween q_ini_X0 q_co_X0_wayBetween (n := 2) (by decide +kernel) rfl ⟨rfl, rfl⟩ ⟨Nat.le_of_ble_eq_true rfl, Nat.le_of_ble_eq_true rfl⟩ (hP.sub [1, 2, 3, 4, 5, 6, 7, 8, 9, 10] rfl) hK hN rfl rfl rfl hl.1 rfl (Nat.le_of_ble_eq_true rfl) dX5_detour_15 ⟨Nat.le_of_ble_eq_true rfl, Nat.le_of_ble_eq_true rfl⟩ (fun r_2 hr_2 => ?_)
  subst hr_2
  refine lv_iadd hx hb dX5_detour_18 ?_
  refine lv_aload_n hx hb dX5_detour_19 rfl (lv_at hl 0 rfl) ?_
  refine va_get (D := (dC, dI)) (ci := 5) (v := .ref F) (C := RX5) (T := TX5) (N := 9) hx hb hts (fun w h => tb_in (inX5 w h)) hown hK hP 0 rfl rfl 0 (by decide) (hts _ (tb_in q_fl_X5_12)) (fun _ h9 => h9) rfl dX5_detour_20 ?_
  refine lv_iload_n hx hb dX5_detour_23 rfl (lv_at hl 1 rfl) ?_
  refine lv_iload_n hx hb dX5_detour_24 rfl (lv_at hl 3 rfl) ?_
  refine k_Vi (ci := 0) (q0 := 0) [.int x, .int z] ⟨hx, hb, hml, hown, hts⟩ (c_X0_wayBetween l dC dI cI cV F fa w NP NJ hNP hNJ ck x z) q_ml_X5_247 q_im_X0_wayBetween q_se_X0_wayBetween q_ini_X0 q_co_X0_wayBetween (n := 2) (by decide +kernel) rfl ⟨rfl, rfl⟩ ⟨Nat.le_of_ble_eq_true rfl, Nat.le_of_ble_eq_true rfl⟩ (hP.sub [1, 2, 3, 4, 5, 6, 7, 8, 9, 10] rfl) hK hN rfl rfl rfl hl.1 rfl (Nat.le_of_ble_eq_true rfl) dX5_detour_25 ⟨Nat.le_of_ble_eq_true rfl, Nat.le_of_ble_eq_true rfl⟩ (fun r_3 hr_3 => ?_)
  subst hr_3
  refine lv_isub hx hb dX5_detour_28 ?_
  exact W.iret (v := ((wayF NP (w 2) x y) + (wayF NP (w 2) y z)) - (wayF NP (w 2) x z)) hx hb hr (fun t9 ht9 hW9 => ⟨_, rfl, rfl, ht9⟩) (fun _ h9 => absurd h9 List.not_mem_nil) dX5_detour_29
set_option maxHeartbeats 4000000 in
set_option maxRecDepth 100000 in
theorem c_X5_placeAt (l : Launch) (dC : Nat → ClassId) (dI : Nat → Nat → Nat) (cI cV : ClassId) (P F G T za : Nat) (fa ia : Nat → Nat) (w : Nat → Nat → Int32) (NP NJ NV : Nat) (hNP : NP ≤ 12) (hNJ : NJ ≤ 9) (hNV : NV ≤ 3) (ck bg : Int32) (V : Nat) (v : Nat → Int32) (vr vt va : Nat) (h a : Nat) (L : List Int32) (f : Nat → Int32) (hL : rw_ok L f) (x : Int32) : Met l yX5_placeAt (Cond.code yX5_placeAt cX5_placeAt 5 (some .int) :: TB) ({ frames := 1, cells := 0, slots := 0, locals := 21 } : Room) (PR [.ref P, .ref V, .ref h, .int x] (dC, dI) [(P, .inr (5, [.ref F, .ref G, .ref T, .ref za, .ref (ia 0), .ref (ia 1), .ref (ia 2), .int (nI NV), .int bg])), (V, .inr (4, [.int (v 0), .int (v 1), .int (v 2), .int (v 3), .int (v 4), .int (v 5), .int (v 6), .int (v 7), .ref vr, .ref vt, .ref va])), (h, .inr (2, [.ref a, .int (nI L.length)])), (a, .inl (cI, 18, .inl f)), (F, .inr (0, [.ref (fa 0), .ref (fa 1), .ref (fa 2), .ref (fa 3), .ref (fa 4), .ref (fa 5), .ref (fa 6), .ref (fa 7), .ref (fa 8), .int (nI NP), .int (nI NJ), .int ck])), (fa 0, .inl (cI, 12, .inl (w 0))), (fa 1, .inl (cI, 12, .inl (w 1))), (fa 2, .inl (cI, 144, .inl (w 2))), (fa 3, .inl (cI, 9, .inl (w 3))), (fa 4, .inl (cI, 18, .inl (w 4))), (fa 5, .inl (cI, 18, .inl (w 5))), (fa 6, .inl (cI, 18, .inl (w 6))), (fa 7, .inl (cI, 18, .inl (w 7))), (fa 8, .inl (cI, 18, .inl (w 8)))] (TY cI cV)) (vp_Si (fun r => r = placeF NJ w v L x)) 0 0 (fun _ => False) := by
  refine Met.ofW (cc := cX5_placeAt) (maxL := 5) (ret := (some .int)) (by decide) rfl ?_
  intro p e s m args below meth c s₁ B hml hv
  obtain ⟨rfl, hP, hK, hN⟩ := hv
  have hx := B.exec
  have hb := B.bytes
  have hr := B.returns
  have hts := atoms_spec (ws := (Cond.code yX5_placeAt cX5_placeAt 5 (some .int) :: TB)) B.pre
  have hown : s.vm.findClass RX5 = some m.cls := findClass_of_methodNamed B.named
  have hlocks := B.notSynchronized
  have hl := lv_entry ([.ref P, .ref V, .ref h, .int x]) (n := 5) (Nat.le_of_ble_eq_true rfl)
  rw [lg_entry_eq]
  generalize (lg_sl ([.ref P, .ref V, .ref h, .int x]) ++ List.replicate (5 - (lg_sl ([.ref P, .ref V, .ref h, .int x])).length) Slot.unset).toArray = ls at hl ⊢
  have hl : lv_has ls 5 [(0, .ref P), (1, .ref V), (2, .ref h), (3, .int x)] := hl
  refine lv_aload_n hx hb dX5_placeAt_0 rfl (lv_at hl 2 rfl) ?_
  refine lv_iload_n hx hb dX5_placeAt_1 rfl (lv_at hl 3 rfl) ?_
  refine k_Vi (ci := 2) (q0 := 0) [.int x] ⟨hx, hb, hml, hown, hts⟩ (c_X2_at l dC dI cI cV h a L f hL x) q_ml_X5_253 q_im_X2_at q_se_X2_at q_ini_X2 q_co_X2_at (n := 1) (by decide +kernel) rfl ⟨rfl, rfl⟩ ⟨Nat.le_of_ble_eq_true rfl, Nat.le_of_ble_eq_true rfl⟩ (hP.sub [2, 3] rfl) hK hN rfl rfl rfl hl.1 rfl (Nat.le_of_ble_eq_true rfl) dX5_placeAt_2 ⟨Nat.le_of_ble_eq_true rfl, Nat.le_of_ble_eq_true rfl⟩ (fun r_1 hr_1 => ?_)
  subst hr_1
  refine lv_istore (lv' := [(4, .int (rAt L x)), (0, .ref P), (1, .ref V), (2, .ref h), (3, .int x)]) hx hb dX5_placeAt_5 hl (by decide) rfl (fun ls hl => ?_)
  refine lv_aload_n hx hb dX5_placeAt_7 rfl (lv_at hl 1 rfl) ?_
  refine va_get (D := (dC, dI)) (ci := 5) (v := .ref F) (C := RX5) (T := TX5) (N := 9) hx hb hts (fun w h => tb_in (inX5 w h)) hown hK hP 0 rfl rfl 0 (by decide) (hts _ (tb_in q_fl_X5_12)) (fun _ h9 => h9) rfl dX5_placeAt_8 ?_
  refine lv_iload hx hb dX5_placeAt_11 (lv_at hl 0 rfl) ?_
  refine k_Vi (ci := 0) (q0 := 0) [.int (rAt L x)] ⟨hx, hb, hml, hown, hts⟩ (c_X0_isStop l dC dI cI cV F fa w NP NJ hNP hNJ ck (rAt L x)) q_ml_X5_356 q_im_X0_isStop q_se_X0_isStop q_ini_X0 q_co_X0_isStop (n := 1) (by decide +kernel) rfl ⟨rfl, rfl⟩ ⟨Nat.le_of_ble_eq_true rfl, Nat.le_of_ble_eq_true rfl⟩ (hP.sub [4, 5, 6, 7, 8, 9, 10, 11, 12, 13] rfl) hK hN rfl rfl rfl hl.1 rfl (Nat.le_of_ble_eq_true rfl) dX5_placeAt_13 ⟨Nat.le_of_ble_eq_true rfl, Nat.le_of_ble_eq_true rfl⟩ (fun r_2 hr_2 => ?_)
  subst hr_2
  refine lv_if_eq (tgt := 32) hx hb dX5_placeAt_16 (by decide) (fun c_3 => ?_) (fun c_3 => ?_)
  · refine lv_aload_n hx hb dX5_placeAt_32 rfl (lv_at hl 2 rfl) ?_
    refine va_get (D := (dC, dI)) (ci := 4) (v := .int (v 0)) (C := RX4) (T := TX4) (N := 11) hx hb hts (fun w h => tb_in (inX4 w h)) hown hK hP 1 rfl rfl 0 (by decide) (hts _ (tb_in q_fl_X5_91)) (fun _ h9 => h9) rfl dX5_placeAt_33 ?_
    exact W.iret (v := v 0) hx hb hr (fun t9 ht9 hW9 => ⟨_, rfl, by unfold placeF; rw [if_neg (by rw [b01_0.mp c_3]; decide)], ht9⟩) (fun _ h9 => absurd h9 List.not_mem_nil) dX5_placeAt_36
  · refine lv_aload_n hx hb dX5_placeAt_19 rfl (lv_at hl 1 rfl) ?_
    refine va_get (D := (dC, dI)) (ci := 5) (v := .ref F) (C := RX5) (T := TX5) (N := 9) hx hb hts (fun w h => tb_in (inX5 w h)) hown hK hP 0 rfl rfl 0 (by decide) (hts _ (tb_in q_fl_X5_12)) (fun _ h9 => h9) rfl dX5_placeAt_20 ?_
    refine va_get (D := (dC, dI)) (ci := 0) (v := .ref (fa 4)) (C := RX0) (T := TX0) (N := 12) hx hb hts (fun w h => tb_in (inX0 w h)) hown hK hP 4 rfl rfl 4 (by decide) (hts _ (tb_in q_fl_X5_359)) (fun _ h9 => h9) rfl dX5_placeAt_23 ?_
    refine lv_iload hx hb dX5_placeAt_26 (lv_at hl 0 rfl) ?_
    refine va_iald (D := (dC, dI)) hx hb hK hP 9 0 rfl rfl (n := 18) (stop_in hNJ (ts9.mp (fun q => c_3 (b01_0.mpr q)))) dX5_placeAt_28 ?_
    refine lv_goto (tgt := 36) hx hb dX5_placeAt_29 (by decide) ?_
    exact W.iret (v := (w 4) (rAt L x).toNatClampNeg) hx hb hr (fun t9 ht9 hW9 => ⟨_, rfl, by unfold placeF; rw [if_pos (ts9.mp (fun q => c_3 (b01_0.mpr q)))], ht9⟩) (fun _ h9 => absurd h9 List.not_mem_nil) dX5_placeAt_36
set_option maxHeartbeats 4000000 in
set_option maxRecDepth 100000 in
theorem c_X5_addsAt (l : Launch) (dC : Nat → ClassId) (dI : Nat → Nat → Nat) (cI cV : ClassId) (P F G T za : Nat) (fa ia : Nat → Nat) (w : Nat → Nat → Int32) (NP NJ NV : Nat) (hNP : NP ≤ 12) (hNJ : NJ ≤ 9) (hNV : NV ≤ 3) (ck bg : Int32) (V : Nat) (v : Nat → Int32) (vr vt va : Nat) (h a : Nat) (L : List Int32) (f : Nat → Int32) (hL : rw_ok L f) (J : Nat) (hJ : J < NJ) (i k : Int32) : Met l yX5_addsAt (Cond.code yX5_addsAt cX5_addsAt 13 (some .int) :: TB) ({ frames := 2, cells := 0, slots := 0, locals := 45 } : Room) (PR [.ref P, .ref V, .ref h, .int (nI J), .int i, .int k] (dC, dI) [(P, .inr (5, [.ref F, .ref G, .ref T, .ref za, .ref (ia 0), .ref (ia 1), .ref (ia 2), .int (nI NV), .int bg])), (V, .inr (4, [.int (v 0), .int (v 1), .int (v 2), .int (v 3), .int (v 4), .int (v 5), .int (v 6), .int (v 7), .ref vr, .ref vt, .ref va])), (h, .inr (2, [.ref a, .int (nI L.length)])), (a, .inl (cI, 18, .inl f)), (F, .inr (0, [.ref (fa 0), .ref (fa 1), .ref (fa 2), .ref (fa 3), .ref (fa 4), .ref (fa 5), .ref (fa 6), .ref (fa 7), .ref (fa 8), .int (nI NP), .int (nI NJ), .int ck])), (fa 0, .inl (cI, 12, .inl (w 0))), (fa 1, .inl (cI, 12, .inl (w 1))), (fa 2, .inl (cI, 144, .inl (w 2))), (fa 3, .inl (cI, 9, .inl (w 3))), (fa 4, .inl (cI, 18, .inl (w 4))), (fa 5, .inl (cI, 18, .inl (w 5))), (fa 6, .inl (cI, 18, .inl (w 6))), (fa 7, .inl (cI, 18, .inl (w 7))), (fa 8, .inl (cI, 18, .inl (w 8)))] (TY cI cV)) (vp_Si (fun r => r = addsF NP NJ w v L (nI J) i k)) 0 0 (fun _ => False) := by
  refine Met.ofW (cc := cX5_addsAt) (maxL := 13) (ret := (some .int)) (by decide) rfl ?_
  intro p e s m args below meth c s₁ B hml hv
  obtain ⟨rfl, hP, hK, hN⟩ := hv
  have hx := B.exec
  have hb := B.bytes
  have hr := B.returns
  have hts := atoms_spec (ws := (Cond.code yX5_addsAt cX5_addsAt 13 (some .int) :: TB)) B.pre
  have hown : s.vm.findClass RX5 = some m.cls := findClass_of_methodNamed B.named
  have hlocks := B.notSynchronized
  have hl := lv_entry ([.ref P, .ref V, .ref h, .int (nI J), .int i, .int k]) (n := 13) (Nat.le_of_ble_eq_true rfl)
  rw [lg_entry_eq]
  generalize (lg_sl ([.ref P, .ref V, .ref h, .int (nI J), .int i, .int k]) ++ List.replicate (13 - (lg_sl ([.ref P, .ref V, .ref h, .int (nI J), .int i, .int k])).length) Slot.unset).toArray = ls at hl ⊢
  have hl : lv_has ls 13 [(0, .ref P), (1, .ref V), (2, .ref h), (3, .int (nI J)), (4, .int i), (5, .int k)] := hl
  refine lv_iload_n hx hb dX5_addsAt_0 rfl (lv_at hl 3 rfl) ?_
  refine k_Ti [.int (nI J)] ⟨hx, hb, hml, hown, hts⟩ (c_X5_fetchOf l (nI J)) q_ml_X5_129 q_st_X5_fetchOf q_ini_X5 q_co_X5_fetchOf (n := 1) (by decide +kernel) rfl ⟨rfl, rfl⟩ ⟨Nat.le_of_ble_eq_true rfl, Nat.le_of_ble_eq_true rfl⟩ hl.1 rfl (Nat.le_of_ble_eq_true rfl) dX5_addsAt_1 ⟨Nat.le_of_ble_eq_true rfl, Nat.le_of_ble_eq_true rfl⟩ (fun r_1 hr_1 => ?_)
  subst hr_1
  refine lv_istore (lv' := [(6, .int (fOf (nI J))), (0, .ref P), (1, .ref V), (2, .ref h), (3, .int (nI J)), (4, .int i), (5, .int k)]) hx hb dX5_addsAt_4 hl (by decide) rfl (fun ls hl => ?_)
  refine lv_iload_n hx hb dX5_addsAt_6 rfl (lv_at hl 4 rfl) ?_
  refine k_Ti [.int (nI J)] ⟨hx, hb, hml, hown, hts⟩ (c_X5_bringOf l (nI J)) q_ml_X5_133 q_st_X5_bringOf q_ini_X5 q_co_X5_bringOf (n := 1) (by decide +kernel) rfl ⟨rfl, rfl⟩ ⟨Nat.le_of_ble_eq_true rfl, Nat.le_of_ble_eq_true rfl⟩ hl.1 rfl (Nat.le_of_ble_eq_true rfl) dX5_addsAt_7 ⟨Nat.le_of_ble_eq_true rfl, Nat.le_of_ble_eq_true rfl⟩ (fun r_2 hr_2 => ?_)
  subst hr_2
  refine lv_istore (lv' := [(7, .int (bOf (nI J))), (6, .int (fOf (nI J))), (0, .ref P), (1, .ref V), (2, .ref h), (3, .int (nI J)), (4, .int i), (5, .int k)]) hx hb dX5_addsAt_10 hl (by decide) rfl (fun ls hl => ?_)
  refine lv_aload_n hx hb dX5_addsAt_12 rfl (lv_at hl 2 rfl) ?_
  refine va_get (D := (dC, dI)) (ci := 5) (v := .ref F) (C := RX5) (T := TX5) (N := 9) hx hb hts (fun w h => tb_in (inX5 w h)) hown hK hP 0 rfl rfl 0 (by decide) (hts _ (tb_in q_fl_X5_12)) (fun _ h9 => h9) rfl dX5_addsAt_13 ?_
  refine lv_iload hx hb dX5_addsAt_16 (lv_at hl 0 rfl) ?_
  refine k_Vi (ci := 0) (q0 := 0) [.int (bOf (nI J))] ⟨hx, hb, hml, hown, hts⟩ (c_X0_isStop l dC dI cI cV F fa w NP NJ hNP hNJ ck (bOf (nI J))) q_ml_X5_356 q_im_X0_isStop q_se_X0_isStop q_ini_X0 q_co_X0_isStop (n := 1) (by decide +kernel) rfl ⟨rfl, rfl⟩ ⟨Nat.le_of_ble_eq_true rfl, Nat.le_of_ble_eq_true rfl⟩ (hP.sub [4, 5, 6, 7, 8, 9, 10, 11, 12, 13] rfl) hK hN rfl rfl rfl hl.1 rfl (Nat.le_of_ble_eq_true rfl) dX5_addsAt_18 ⟨Nat.le_of_ble_eq_true rfl, Nat.le_of_ble_eq_true rfl⟩ (fun r_3 hr_3 => ?_)
  subst hr_3
  refine lv_if_ne (tgt := 26) hx hb dX5_addsAt_21 (by decide) (fun c_4 => ?_) (fun c_4 => ?_)
  · refine lv_aload_n hx hb dX5_addsAt_26 rfl (lv_at hl 2 rfl) ?_
    refine va_get (D := (dC, dI)) (ci := 5) (v := .ref F) (C := RX5) (T := TX5) (N := 9) hx hb hts (fun w h => tb_in (inX5 w h)) hown hK hP 0 rfl rfl 0 (by decide) (hts _ (tb_in q_fl_X5_12)) (fun _ h9 => h9) rfl dX5_addsAt_27 ?_
    refine va_get (D := (dC, dI)) (ci := 0) (v := .ref (fa 4)) (C := RX0) (T := TX0) (N := 12) hx hb hts (fun w h => tb_in (inX0 w h)) hown hK hP 4 rfl rfl 4 (by decide) (hts _ (tb_in q_fl_X5_359)) (fun _ h9 => h9) rfl dX5_addsAt_30 ?_
    refine lv_iload hx hb dX5_addsAt_33 (lv_at hl 1 rfl) ?_
    refine va_iald (D := (dC, dI)) hx hb hK hP 9 0 rfl rfl (n := 18) (f_in hNJ hJ) dX5_addsAt_35 ?_
    refine lv_istore (lv' := [(8, .int ((w 4) (fOf (nI J)).toNatClampNeg)), (7, .int (bOf (nI J))), (6, .int (fOf (nI J))), (0, .ref P), (1, .ref V), (2, .ref h), (3, .int (nI J)), (4, .int i), (5, .int k)]) hx hb dX5_addsAt_36 hl (by decide) rfl (fun ls hl => ?_)
    refine lv_aload_n hx hb dX5_addsAt_38 rfl (lv_at hl 3 rfl) ?_
    refine va_get (D := (dC, dI)) (ci := 5) (v := .ref F) (C := RX5) (T := TX5) (N := 9) hx hb hts (fun w h => tb_in (inX5 w h)) hown hK hP 0 rfl rfl 0 (by decide) (hts _ (tb_in q_fl_X5_12)) (fun _ h9 => h9) rfl dX5_addsAt_39 ?_
    refine va_get (D := (dC, dI)) (ci := 0) (v := .ref (fa 4)) (C := RX0) (T := TX0) (N := 12) hx hb hts (fun w h => tb_in (inX0 w h)) hown hK hP 4 rfl rfl 4 (by decide) (hts _ (tb_in q_fl_X5_359)) (fun _ h9 => h9) rfl dX5_addsAt_42 ?_
    refine lv_iload hx hb dX5_addsAt_45 (lv_at hl 1 rfl) ?_
    refine va_iald (D := (dC, dI)) hx hb hK hP 9 0 rfl rfl (n := 18) (b_in hNJ hJ) dX5_addsAt_47 ?_
    refine lv_istore (lv' := [(9, .int ((w 4) (bOf (nI J)).toNatClampNeg)), (8, .int ((w 4) (fOf (nI J)).toNatClampNeg)), (7, .int (bOf (nI J))), (6, .int (fOf (nI J))), (0, .ref P), (1, .ref V), (2, .ref h), (3, .int (nI J)), (4, .int i), (5, .int k)]) hx hb dX5_addsAt_48 hl (by decide) rfl (fun ls hl => ?_)
    refine lv_aload_n hx hb dX5_addsAt_50 rfl (lv_at hl 4 rfl) ?_
    refine lv_aload_n hx hb dX5_addsAt_51 rfl (lv_at hl 5 rfl) ?_
    refine lv_aload_n hx hb dX5_addsAt_52 rfl (lv_at hl 6 rfl) ?_
    refine lv_iload hx hb dX5_addsAt_53 (lv_at hl 8 rfl) ?_
    refine lv_iconst (v := 1) hx hb dX5_addsAt_55 (by decide) ?_
    refine lv_isub hx hb dX5_addsAt_56 ?_
    refine k_Vi (ci := 5) (q0 := 0) [.ref V, .ref h, .int (i - 1)] ⟨hx, hb, hml, hown, hts⟩ (c_X5_placeAt l dC dI cI cV P F G T za fa ia w NP NJ NV hNP hNJ hNV ck bg V v vr vt va h a L f hL (i - 1)) q_ml_X5_376 q_im_X5_placeAt q_se_X5_placeAt q_ini_X5 q_co_X5_placeAt (n := 3) (by decide +kernel) rfl ⟨rfl, rfl⟩ ⟨Nat.le_of_ble_eq_true rfl, Nat.le_of_ble_eq_true rfl⟩ (hP.sub [0, 1, 2, 3, 4, 5, 6, 7, 8, 9, 10, 11, 12, 13] rfl) hK hN rfl rfl rfl hl.1 rfl (Nat.le_of_ble_eq_true rfl) dX5_addsAt_57 ⟨Nat.le_of_ble_eq_true rfl, Nat.le_of_ble_eq_true rfl⟩ (fun r_5 hr_5 => ?_)
    subst hr_5
    refine lv_istore (lv' := [(10, .int (placeF NJ w v L (i - 1))), (9, .int ((w 4) (bOf (nI J)).toNatClampNeg)), (8, .int ((w 4) (fOf (nI J)).toNatClampNeg)), (7, .int (bOf (nI J))), (6, .int (fOf (nI J))), (0, .ref P), (1, .ref V), (2, .ref h), (3, .int (nI J)), (4, .int i), (5, .int k)]) hx hb dX5_addsAt_60 hl (by decide) rfl (fun ls hl => ?_)
    refine lv_aload_n hx hb dX5_addsAt_62 rfl (lv_at hl 5 rfl) ?_
    refine lv_aload_n hx hb dX5_addsAt_63 rfl (lv_at hl 6 rfl) ?_
    refine lv_aload_n hx hb dX5_addsAt_64 rfl (lv_at hl 7 rfl) ?_
    refine lv_iload hx hb dX5_addsAt_65 (lv_at hl 9 rfl) ?_
    refine k_Vi (ci := 5) (q0 := 0) [.ref V, .ref h, .int i] ⟨hx, hb, hml, hown, hts⟩ (c_X5_placeAt l dC dI cI cV P F G T za fa ia w NP NJ NV hNP hNJ hNV ck bg V v vr vt va h a L f hL i) q_ml_X5_376 q_im_X5_placeAt q_se_X5_placeAt q_ini_X5 q_co_X5_placeAt (n := 3) (by decide +kernel) rfl ⟨rfl, rfl⟩ ⟨Nat.le_of_ble_eq_true rfl, Nat.le_of_ble_eq_true rfl⟩ (hP.sub [0, 1, 2, 3, 4, 5, 6, 7, 8, 9, 10, 11, 12, 13] rfl) hK hN rfl rfl rfl hl.1 rfl (Nat.le_of_ble_eq_true rfl) dX5_addsAt_67 ⟨Nat.le_of_ble_eq_true rfl, Nat.le_of_ble_eq_true rfl⟩ (fun r_6 hr_6 => ?_)
    subst hr_6
    refine lv_istore (lv' := [(11, .int (placeF NJ w v L i)), (10, .int (placeF NJ w v L (i - 1))), (9, .int ((w 4) (bOf (nI J)).toNatClampNeg)), (8, .int ((w 4) (fOf (nI J)).toNatClampNeg)), (7, .int (bOf (nI J))), (6, .int (fOf (nI J))), (0, .ref P), (1, .ref V), (2, .ref h), (3, .int (nI J)), (4, .int i), (5, .int k)]) hx hb dX5_addsAt_70 hl (by decide) rfl (fun ls hl => ?_)
    refine lv_iload hx hb dX5_addsAt_72 (lv_at hl 11 rfl) ?_
    refine lv_iload hx hb dX5_addsAt_74 (lv_at hl 10 rfl) ?_
    refine lv_iconst (v := 1) hx hb dX5_addsAt_76 (by decide) ?_
    refine lv_iadd hx hb dX5_addsAt_77 ?_
    refine lv_icmp_ne (tgt := 107) hx hb dX5_addsAt_78 (by decide) (fun c_7 => ?_) (fun c_7 => ?_)
    · refine lv_aload_n hx hb dX5_addsAt_107 rfl (lv_at hl 6 rfl) ?_
      refine lv_iload hx hb dX5_addsAt_108 (lv_at hl 1 rfl) ?_
      refine lv_iload hx hb dX5_addsAt_110 (lv_at hl 3 rfl) ?_
      refine lv_iload hx hb dX5_addsAt_112 (lv_at hl 0 rfl) ?_
      refine k_Vi (ci := 5) (q0 := 0) [.int (placeF NJ w v L (i - 1)), .int ((w 4) (fOf (nI J)).toNatClampNeg), .int (placeF NJ w v L i)] ⟨hx, hb, hml, hown, hts⟩ (c_X5_detour l dC dI cI cV P F G T za fa ia w NP NJ NV hNP hNJ hNV ck bg (placeF NJ w v L (i - 1)) ((w 4) (fOf (nI J)).toNatClampNeg) (placeF NJ w v L i)) q_ml_X5_380 q_im_X5_detour q_se_X5_detour q_ini_X5 q_co_X5_detour (n := 3) (by decide +kernel) rfl ⟨rfl, rfl⟩ ⟨Nat.le_of_ble_eq_true rfl, Nat.le_of_ble_eq_true rfl⟩ (hP.sub [0, 4, 5, 6, 7, 8, 9, 10, 11, 12, 13] rfl) hK hN rfl rfl rfl hl.1 rfl (Nat.le_of_ble_eq_true rfl) dX5_addsAt_114 ⟨Nat.le_of_ble_eq_true rfl, Nat.le_of_ble_eq_true rfl⟩ (fun r_8 hr_8 => ?_)
      subst hr_8
      refine lv_aload_n hx hb dX5_addsAt_117 rfl (lv_at hl 6 rfl) ?_
      refine lv_aload_n hx hb dX5_addsAt_118 rfl (lv_at hl 6 rfl) ?_
      refine lv_aload_n hx hb dX5_addsAt_119 rfl (lv_at hl 7 rfl) ?_
      refine lv_aload_n hx hb dX5_addsAt_120 rfl (lv_at hl 8 rfl) ?_
      refine lv_iload hx hb dX5_addsAt_121 (lv_at hl 11 rfl) ?_
      refine lv_iconst (v := 2) hx hb dX5_addsAt_123 (by decide) ?_
      refine lv_isub hx hb dX5_addsAt_124 ?_
      refine k_Vi (ci := 5) (q0 := 0) [.ref V, .ref h, .int (k - 2)] ⟨hx, hb, hml, hown, hts⟩ (c_X5_placeAt l dC dI cI cV P F G T za fa ia w NP NJ NV hNP hNJ hNV ck bg V v vr vt va h a L f hL (k - 2)) q_ml_X5_376 q_im_X5_placeAt q_se_X5_placeAt q_ini_X5 q_co_X5_placeAt (n := 3) (by decide +kernel) rfl ⟨rfl, rfl⟩ ⟨Nat.le_of_ble_eq_true rfl, Nat.le_of_ble_eq_true rfl⟩ (hP.sub [0, 1, 2, 3, 4, 5, 6, 7, 8, 9, 10, 11, 12, 13] rfl) hK hN rfl rfl rfl hl.1 rfl (Nat.le_of_ble_eq_true rfl) dX5_addsAt_125 ⟨Nat.le_of_ble_eq_true rfl, Nat.le_of_ble_eq_true rfl⟩ (fun r_9 hr_9 => ?_)
      subst hr_9
      refine lv_iload hx hb dX5_addsAt_128 (lv_at hl 2 rfl) ?_
      refine lv_aload_n hx hb dX5_addsAt_130 rfl (lv_at hl 6 rfl) ?_
      refine lv_aload_n hx hb dX5_addsAt_131 rfl (lv_at hl 7 rfl) ?_
      refine lv_aload_n hx hb dX5_addsAt_132 rfl (lv_at hl 8 rfl) ?_
      refine lv_iload hx hb dX5_addsAt_133 (lv_at hl 11 rfl) ?_
      refine lv_iconst (v := 1) hx hb dX5_addsAt_135 (by decide) ?_
      refine lv_isub hx hb dX5_addsAt_136 ?_
      refine k_Vi (ci := 5) (q0 := 0) [.ref V, .ref h, .int (k - 1)] ⟨hx, hb, hml, hown, hts⟩ (c_X5_placeAt l dC dI cI cV P F G T za fa ia w NP NJ NV hNP hNJ hNV ck bg V v vr vt va h a L f hL (k - 1)) q_ml_X5_376 q_im_X5_placeAt q_se_X5_placeAt q_ini_X5 q_co_X5_placeAt (n := 3) (by decide +kernel) rfl ⟨rfl, rfl⟩ ⟨Nat.le_of_ble_eq_true rfl, Nat.le_of_ble_eq_true rfl⟩ (hP.sub [0, 1, 2, 3, 4, 5, 6, 7, 8, 9, 10, 11, 12, 13] rfl) hK hN rfl rfl rfl hl.1 rfl (Nat.le_of_ble_eq_true rfl) dX5_addsAt_137 ⟨Nat.le_of_ble_eq_true rfl, Nat.le_of_ble_eq_true rfl⟩ (fun r_10 hr_10 => ?_)
      subst hr_10
      refine k_Vi (ci := 5) (q0 := 0) [.int (placeF NJ w v L (k - 2)), .int ((w 4) (bOf (nI J)).toNatClampNeg), .int (placeF NJ w v L (k - 1))] ⟨hx, hb, hml, hown, hts⟩ (c_X5_detour l dC dI cI cV P F G T za fa ia w NP NJ NV hNP hNJ hNV ck bg (placeF NJ w v L (k - 2)) ((w 4) (bOf (nI J)).toNatClampNeg) (placeF NJ w v L (k - 1))) q_ml_X5_380 q_im_X5_detour q_se_X5_detour q_ini_X5 q_co_X5_detour (n := 3) (by decide +kernel) rfl ⟨rfl, rfl⟩ ⟨Nat.le_of_ble_eq_true rfl, Nat.le_of_ble_eq_true rfl⟩ (hP.sub [0, 4, 5, 6, 7, 8, 9, 10, 11, 12, 13] rfl) hK hN rfl rfl rfl hl.1 rfl (Nat.le_of_ble_eq_true rfl) dX5_addsAt_140 ⟨Nat.le_of_ble_eq_true rfl, Nat.le_of_ble_eq_true rfl⟩ (fun r_11 hr_11 => ?_)
      subst hr_11
      refine lv_iadd hx hb dX5_addsAt_143 ?_
      refine lv_istore (lv' := [(12, .int ((detF NP (w 2) (placeF NJ w v L (i - 1)) ((w 4) (fOf (nI J)).toNatClampNeg) (placeF NJ w v L i)) + (detF NP (w 2) (placeF NJ w v L (k - 2)) ((w 4) (bOf (nI J)).toNatClampNeg) (placeF NJ w v L (k - 1))))), (11, .int (placeF NJ w v L i)), (10, .int (placeF NJ w v L (i - 1))), (9, .int ((w 4) (bOf (nI J)).toNatClampNeg)), (8, .int ((w 4) (fOf (nI J)).toNatClampNeg)), (7, .int (bOf (nI J))), (6, .int (fOf (nI J))), (0, .ref P), (1, .ref V), (2, .ref h), (3, .int (nI J)), (4, .int i), (5, .int k)]) hx hb dX5_addsAt_144 hl (by decide) rfl (fun ls hl => ?_)
      refine lv_aload_n hx hb dX5_addsAt_146 rfl (lv_at hl 8 rfl) ?_
      refine va_get (D := (dC, dI)) (ci := 4) (v := .int (v 4)) (C := RX4) (T := TX4) (N := 11) hx hb hts (fun w h => tb_in (inX4 w h)) hown hK hP 1 rfl rfl 4 (by decide) (hts _ (tb_in q_fl_X5_103)) (fun _ h9 => h9) rfl dX5_addsAt_147 ?_
      refine lv_iload hx hb dX5_addsAt_150 (lv_at hl 0 rfl) ?_
      refine lv_imul hx hb dX5_addsAt_152 ?_
      refine lv_aload_n hx hb dX5_addsAt_153 rfl (lv_at hl 9 rfl) ?_
      refine va_get (D := (dC, dI)) (ci := 2) (v := .int (nI L.length)) (C := RX2) (T := TX2) (N := 2) hx hb hts (fun w h => tb_in (inX2 w h)) hown hK hP 2 rfl rfl 1 (by decide) (hts _ (tb_in q_fl_X5_163)) (fun _ h9 => h9) rfl dX5_addsAt_154 ?_
      refine lv_if_ne (tgt := 167) hx hb dX5_addsAt_157 (by decide) (fun c_12 => ?_) (fun c_12 => ?_)
      · refine lv_iconst (v := 0) hx hb dX5_addsAt_167 (by decide) ?_
        refine lv_iadd hx hb dX5_addsAt_168 ?_
        exact W.iret (v := ((v 4) * ((detF NP (w 2) (placeF NJ w v L (i - 1)) ((w 4) (fOf (nI J)).toNatClampNeg) (placeF NJ w v L i)) + (detF NP (w 2) (placeF NJ w v L (k - 2)) ((w 4) (bOf (nI J)).toNatClampNeg) (placeF NJ w v L (k - 1))))) + 0) hx hb hr (fun t9 ht9 hW9 => ⟨_, rfl, by unfold addsF; rw [if_neg c_7, if_neg c_12], ht9⟩) (fun _ h9 => absurd h9 List.not_mem_nil) dX5_addsAt_169
      · refine lv_aload_n hx hb dX5_addsAt_160 rfl (lv_at hl 8 rfl) ?_
        refine va_get (D := (dC, dI)) (ci := 4) (v := .int (v 5)) (C := RX4) (T := TX4) (N := 11) hx hb hts (fun w h => tb_in (inX4 w h)) hown hK hP 1 rfl rfl 5 (by decide) (hts _ (tb_in q_fl_X5_106)) (fun _ h9 => h9) rfl dX5_addsAt_161 ?_
        refine lv_goto (tgt := 168) hx hb dX5_addsAt_164 (by decide) ?_
        refine lv_iadd hx hb dX5_addsAt_168 ?_
        exact W.iret (v := ((v 4) * ((detF NP (w 2) (placeF NJ w v L (i - 1)) ((w 4) (fOf (nI J)).toNatClampNeg) (placeF NJ w v L i)) + (detF NP (w 2) (placeF NJ w v L (k - 2)) ((w 4) (bOf (nI J)).toNatClampNeg) (placeF NJ w v L (k - 1))))) + (v 5)) hx hb hr (fun t9 ht9 hW9 => ⟨_, rfl, by unfold addsF; rw [if_neg c_7, if_pos c_12], ht9⟩) (fun _ h9 => absurd h9 List.not_mem_nil) dX5_addsAt_169
    · refine lv_aload_n hx hb dX5_addsAt_81 rfl (lv_at hl 6 rfl) ?_
      refine lv_iload hx hb dX5_addsAt_82 (lv_at hl 1 rfl) ?_
      refine lv_iload hx hb dX5_addsAt_84 (lv_at hl 3 rfl) ?_
      refine lv_iload hx hb dX5_addsAt_86 (lv_at hl 0 rfl) ?_
      refine k_Vi (ci := 5) (q0 := 0) [.int (placeF NJ w v L (i - 1)), .int ((w 4) (fOf (nI J)).toNatClampNeg), .int (placeF NJ w v L i)] ⟨hx, hb, hml, hown, hts⟩ (c_X5_detour l dC dI cI cV P F G T za fa ia w NP NJ NV hNP hNJ hNV ck bg (placeF NJ w v L (i - 1)) ((w 4) (fOf (nI J)).toNatClampNeg) (placeF NJ w v L i)) q_ml_X5_380 q_im_X5_detour q_se_X5_detour q_ini_X5 q_co_X5_detour (n := 3) (by decide +kernel) rfl ⟨rfl, rfl⟩ ⟨Nat.le_of_ble_eq_true rfl, Nat.le_of_ble_eq_true rfl⟩ (hP.sub [0, 4, 5, 6, 7, 8, 9, 10, 11, 12, 13] rfl) hK hN rfl rfl rfl hl.1 rfl (Nat.le_of_ble_eq_true rfl) dX5_addsAt_88 ⟨Nat.le_of_ble_eq_true rfl, Nat.le_of_ble_eq_true rfl⟩ (fun r_13 hr_13 => ?_)
      subst hr_13
      refine lv_aload_n hx hb dX5_addsAt_91 rfl (lv_at hl 6 rfl) ?_
      refine lv_iload hx hb dX5_addsAt_92 (lv_at hl 3 rfl) ?_
      refine lv_iload hx hb dX5_addsAt_94 (lv_at hl 2 rfl) ?_
      refine lv_iload hx hb dX5_addsAt_96 (lv_at hl 0 rfl) ?_
      refine k_Vi (ci := 5) (q0 := 0) [.int ((w 4) (fOf (nI J)).toNatClampNeg), .int ((w 4) (bOf (nI J)).toNatClampNeg), .int (placeF NJ w v L i)] ⟨hx, hb, hml, hown, hts⟩ (c_X5_detour l dC dI cI cV P F G T za fa ia w NP NJ NV hNP hNJ hNV ck bg ((w 4) (fOf (nI J)).toNatClampNeg) ((w 4) (bOf (nI J)).toNatClampNeg) (placeF NJ w v L i)) q_ml_X5_380 q_im_X5_detour q_se_X5_detour q_ini_X5 q_co_X5_detour (n := 3) (by decide +kernel) rfl ⟨rfl, rfl⟩ ⟨Nat.le_of_ble_eq_true rfl, Nat.le_of_ble_eq_true rfl⟩ (hP.sub [0, 4, 5, 6, 7, 8, 9, 10, 11, 12, 13] rfl) hK hN rfl rfl rfl hl.1 rfl (Nat.le_of_ble_eq_true rfl) dX5_addsAt_98 ⟨Nat.le_of_ble_eq_true rfl, Nat.le_of_ble_eq_true rfl⟩ (fun r_14 hr_14 => ?_)
      subst hr_14
      refine lv_iadd hx hb dX5_addsAt_101 ?_
      refine lv_istore (lv' := [(12, .int ((detF NP (w 2) (placeF NJ w v L (i - 1)) ((w 4) (fOf (nI J)).toNatClampNeg) (placeF NJ w v L i)) + (detF NP (w 2) ((w 4) (fOf (nI J)).toNatClampNeg) ((w 4) (bOf (nI J)).toNatClampNeg) (placeF NJ w v L i)))), (11, .int (placeF NJ w v L i)), (10, .int (placeF NJ w v L (i - 1))), (9, .int ((w 4) (bOf (nI J)).toNatClampNeg)), (8, .int ((w 4) (fOf (nI J)).toNatClampNeg)), (7, .int (bOf (nI J))), (6, .int (fOf (nI J))), (0, .ref P), (1, .ref V), (2, .ref h), (3, .int (nI J)), (4, .int i), (5, .int k)]) hx hb dX5_addsAt_102 hl (by decide) rfl (fun ls hl => ?_)
      refine lv_goto (tgt := 146) hx hb dX5_addsAt_104 (by decide) ?_
      refine lv_aload_n hx hb dX5_addsAt_146 rfl (lv_at hl 8 rfl) ?_
      refine va_get (D := (dC, dI)) (ci := 4) (v := .int (v 4)) (C := RX4) (T := TX4) (N := 11) hx hb hts (fun w h => tb_in (inX4 w h)) hown hK hP 1 rfl rfl 4 (by decide) (hts _ (tb_in q_fl_X5_103)) (fun _ h9 => h9) rfl dX5_addsAt_147 ?_
      refine lv_iload hx hb dX5_addsAt_150 (lv_at hl 0 rfl) ?_
      refine lv_imul hx hb dX5_addsAt_152 ?_
      refine lv_aload_n hx hb dX5_addsAt_153 rfl (lv_at hl 9 rfl) ?_
      refine va_get (D := (dC, dI)) (ci := 2) (v := .int (nI L.length)) (C := RX2) (T := TX2) (N := 2) hx hb hts (fun w h => tb_in (inX2 w h)) hown hK hP 2 rfl rfl 1 (by decide) (hts _ (tb_in q_fl_X5_163)) (fun _ h9 => h9) rfl dX5_addsAt_154 ?_
      refine lv_if_ne (tgt := 167) hx hb dX5_addsAt_157 (by decide) (fun c_15 => ?_) (fun c_15 => ?_)
      · refine lv_iconst (v := 0) hx hb dX5_addsAt_167 (by decide) ?_
        refine lv_iadd hx hb dX5_addsAt_168 ?_
        exact W.iret (v := ((v 4) * ((detF NP (w 2) (placeF NJ w v L (i - 1)) ((w 4) (fOf (nI J)).toNatClampNeg) (placeF NJ w v L i)) + (detF NP (w 2) ((w 4) (fOf (nI J)).toNatClampNeg) ((w 4) (bOf (nI J)).toNatClampNeg) (placeF NJ w v L i)))) + 0) hx hb hr (fun t9 ht9 hW9 => ⟨_, rfl, by unfold addsF; rw [if_pos c_7, if_neg c_15], ht9⟩) (fun _ h9 => absurd h9 List.not_mem_nil) dX5_addsAt_169
      · refine lv_aload_n hx hb dX5_addsAt_160 rfl (lv_at hl 8 rfl) ?_
        refine va_get (D := (dC, dI)) (ci := 4) (v := .int (v 5)) (C := RX4) (T := TX4) (N := 11) hx hb hts (fun w h => tb_in (inX4 w h)) hown hK hP 1 rfl rfl 5 (by decide) (hts _ (tb_in q_fl_X5_106)) (fun _ h9 => h9) rfl dX5_addsAt_161 ?_
        refine lv_goto (tgt := 168) hx hb dX5_addsAt_164 (by decide) ?_
        refine lv_iadd hx hb dX5_addsAt_168 ?_
        exact W.iret (v := ((v 4) * ((detF NP (w 2) (placeF NJ w v L (i - 1)) ((w 4) (fOf (nI J)).toNatClampNeg) (placeF NJ w v L i)) + (detF NP (w 2) ((w 4) (fOf (nI J)).toNatClampNeg) ((w 4) (bOf (nI J)).toNatClampNeg) (placeF NJ w v L i)))) + (v 5)) hx hb hr (fun t9 ht9 hW9 => ⟨_, rfl, by unfold addsF; rw [if_pos c_7, if_pos c_15], ht9⟩) (fun _ h9 => absurd h9 List.not_mem_nil) dX5_addsAt_169
  · exact absurd (b01_0.mp c_4) (by rw [stop_b hNJ hJ]; decide)
