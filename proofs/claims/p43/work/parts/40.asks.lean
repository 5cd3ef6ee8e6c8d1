set_option maxHeartbeats 4000000 in
set_option maxRecDepth 100000 in
theorem c_X5_checkStop (l : Launch) (hlT : l.stackTraces = false) (dC : Nat → ClassId) (dI : Nat → Nat → Nat) (cI cV : ClassId) (P F G T za : Nat) (fa ia : Nat → Nat) (w : Nat → Nat → Int32) (NP NJ NV : Nat) (hNP : NP ≤ 12) (hNJ : NJ ≤ 9) (hNV : NV ≤ 3) (ck bg : Int32) (vd ra rb xa ya : Nat → Nat) (vv : Nat → Nat → Int32) (R : Nat → List Int32) (rf : Nat → Nat → Int32) (hR : ∀ k, rw_ok (R k) (rf k)) (x y : Int32) (sz : Nat) : vx_Met l yX5_checkStop (Cond.code yX5_checkStop cX5_checkStop 3 none :: TB) ({ frames := 7, cells := 2, slots := 12, locals := 130 } : Room) (PXr [.ref P, .int x, .int y] (dC, dI) [(P, .inr (5, [.ref F, .ref G, .ref T, .ref za, .ref (ia 0), .ref (ia 1), .ref (ia 2), .int (nI NV), .int bg])), (G, .inl (cV, 3, .inr (.inr (.inr (.inr (fun k => some (vd k))))))), (vd 0, .inr (4, [.int (vv 0 0), .int (vv 0 1), .int (vv 0 2), .int (vv 0 3), .int (vv 0 4), .int (vv 0 5), .int (vv 0 6), .int (vv 0 7), .ref (ra 0), .ref (xa 0), .ref (ya 0)])), (vd 1, .inr (4, [.int (vv 1 0), .int (vv 1 1), .int (vv 1 2), .int (vv 1 3), .int (vv 1 4), .int (vv 1 5), .int (vv 1 6), .int (vv 1 7), .ref (ra 1), .ref (xa 1), .ref (ya 1)])), (vd 2, .inr (4, [.int (vv 2 0), .int (vv 2 1), .int (vv 2 2), .int (vv 2 3), .int (vv 2 4), .int (vv 2 5), .int (vv 2 6), .int (vv 2 7), .ref (ra 2), .ref (xa 2), .ref (ya 2)])), (ra 0, .inr (2, [.ref (rb 0), .int (nI ((R 0)).length)])), (rb 0, .inl (cI, 18, .inl (rf 0))), (ra 1, .inr (2, [.ref (rb 1), .int (nI ((R 1)).length)])), (rb 1, .inl (cI, 18, .inl (rf 1))), (ra 2, .inr (2, [.ref (rb 2), .int (nI ((R 2)).length)])), (rb 2, .inl (cI, 18, .inl (rf 2)))] (TY cI cV) sz) (va_Qv (fun _ : Unit => stopB NV R x y = true) (fun _ _ => True) (NA sz)) (vx_X (fun E => E = "java/lang/IndexOutOfBoundsException" ∧ stopB NV R x y = false) (fun E u _ => E = u) (NA sz)) 2 12 (NA sz) := by
  refine vx_ofW (cc := cX5_checkStop) (maxL := 3) (ret := none) (by decide) rfl ?_
  intro p e s m args below meth c s₁ B hml htb hv
  obtain ⟨rfl, hsz, hP, hK, hN, hXs, hZs⟩ := hv
  have hx := B.exec
  have hb := B.bytes
  have hr := B.returns
  have hts := atoms_spec (ws := (Cond.code yX5_checkStop cX5_checkStop 3 none :: TB)) B.pre
  have hown : s.vm.findClass RX5 = some m.cls := findClass_of_methodNamed B.named
  have hlocks := B.notSynchronized
  subst hsz
  have hA : ∀ q : Nat, s.heap.size ≤ q → NA s.heap.size q := fun q h => h
  have hS : va_S (NA s.heap.size) s.heap s.heap [] := va_S.rf
  have hl := lv_entry ([.ref P, .int x, .int y]) (n := 3) (Nat.le_of_ble_eq_true rfl)
  rw [lg_entry_eq]
  generalize (lg_sl ([.ref P, .int x, .int y]) ++ List.replicate (3 - (lg_sl ([.ref P, .int x, .int y])).length) Slot.unset).toArray = ls at hl ⊢
  have hl : lv_has ls 3 [(0, .ref P), (1, .int x), (2, .int y)] := hl
  refine lv_aload_n hx hb dX5_checkStop_0 rfl (lv_at hl 0 rfl) ?_
  refine lv_iload_n hx hb dX5_checkStop_1 rfl (lv_at hl 1 rfl) ?_
  refine k_Xv (ci := 5) (q0 := 0) [.int x] [0] ⟨hx, hb, hml, hown, hts⟩ (fun sz => c_X5_checkVehicle l hlT dC dI cI cV P F G T za fa ia w NP NJ NV hNP hNJ hNV ck bg x sz) q_ml_X5_157 q_im_X5_checkVehicle q_se_X5_checkVehicle q_ini_X5 q_co_X5_checkVehicle (n := 1) (by decide +kernel) rfl ⟨rfl, rfl⟩ ⟨Nat.le_of_ble_eq_true rfl, Nat.le_of_ble_eq_true rfl⟩ hP hS hA hK hN hXs hZs rfl rfl rfl rfl hl.1 rfl (Nat.le_of_ble_eq_true rfl) dX5_checkStop_2 ⟨Nat.le_of_ble_eq_true rfl, Nat.le_of_ble_eq_true rfl⟩ (fun E ce q9 H locs hpx hP hS hc1 hc2 hc3 => ?_) (fun H locs hpo hP hS => ?_)
  · exact vx_out (fun x h => (htb x h).elim) hlocks hc1 hc2 hc3 (fun t8 ht9 hW9 => ⟨E, ⟨hpx.1, by unfold stopB; rw [hpx.2]; rfl⟩, rfl, hS.F ht9⟩) hS.2.2 (Nat.le_of_ble_eq_true rfl) (Nat.le_of_ble_eq_true rfl)
  have ho_1 := hpo
  have hP : va_P (dC, dI) cls [(P, .inr (5, [.ref F, .ref G, .ref T, .ref za, .ref (ia 0), .ref (ia 1), .ref (ia 2), .int (nI NV), .int bg])), (G, .inl (cV, 3, .inr (.inr (.inr (.inr (fun k => some (vd k))))))), (vd 0, .inr (4, [.int (vv 0 0), .int (vv 0 1), .int (vv 0 2), .int (vv 0 3), .int (vv 0 4), .int (vv 0 5), .int (vv 0 6), .int (vv 0 7), .ref (ra 0), .ref (xa 0), .ref (ya 0)])), (vd 1, .inr (4, [.int (vv 1 0), .int (vv 1 1), .int (vv 1 2), .int (vv 1 3), .int (vv 1 4), .int (vv 1 5), .int (vv 1 6), .int (vv 1 7), .ref (ra 1), .ref (xa 1), .ref (ya 1)])), (vd 2, .inr (4, [.int (vv 2 0), .int (vv 2 1), .int (vv 2 2), .int (vv 2 3), .int (vv 2 4), .int (vv 2 5), .int (vv 2 6), .int (vv 2 7), .ref (ra 2), .ref (xa 2), .ref (ya 2)])), (ra 0, .inr (2, [.ref (rb 0), .int (nI ((R 0)).length)])), (rb 0, .inl (cI, 18, .inl (rf 0))), (ra 1, .inr (2, [.ref (rb 1), .int (nI ((R 1)).length)])), (rb 1, .inl (cI, 18, .inl (rf 1))), (ra 2, .inr (2, [.ref (rb 2), .int (nI ((R 2)).length)])), (rb 2, .inl (cI, 18, .inl (rf 2)))] H := hP
  rcases inB_3 hNV ho_1 with rfl | rfl | rfl
  · refine lv_iload_n hx hb dX5_checkStop_5 rfl (lv_at hl 2 rfl) ?_
    refine lv_if_lt (tgt := 25) hx hb dX5_checkStop_6 (by decide) (fun c_2 => ?_) (fun c_2 => ?_)
    · exact k_thxW ⟨hx, hb, hml, hown, hts⟩ hlT hXs hZs hS 343 "no such stop" (by decide) hl.1 dX5_checkStop_25 dX5_checkStop_28 dX5_checkStop_29 dX5_checkStop_32 dX5_checkStop_35 htb ⟨by decide, by decide, Nat.le_of_ble_eq_true rfl, Nat.le_of_ble_eq_true rfl⟩ hlocks (fun t8 h0 h1 h2 => ⟨"java/lang/IndexOutOfBoundsException", ⟨rfl, by unfold stopB; rw [ho_1, nI_clamp (n := 0) (by omega)]; simp [inB, c_2]⟩, rfl, ⟨Nat.le_trans hS.1 h1, fun q p1 p2 => (h2 q (Nat.lt_of_lt_of_le p1 hS.1)).trans (hS.2.1 q p1 p2)⟩⟩) hS.2.2 ⟨Nat.le_of_ble_eq_true rfl, Nat.le_of_ble_eq_true rfl⟩
    · refine lv_iload_n hx hb dX5_checkStop_9 rfl (lv_at hl 2 rfl) ?_
      refine lv_aload_n hx hb dX5_checkStop_10 rfl (lv_at hl 0 rfl) ?_
      refine va_get (D := (dC, dI)) (ci := 5) (v := .ref G) (C := RX5) (T := TX5) (N := 9) hx hb hts (fun w h => tb_in (inX5 w h)) hown hK hP 0 rfl rfl 1 (by decide) (hts _ (tb_in q_fl_X5_18)) (fun _ h9 => h9) rfl dX5_checkStop_11 ?_
      refine lv_iload_n hx hb dX5_checkStop_14 rfl (lv_at hl 1 rfl) ?_
      refine va_aldq (D := (dC, dI)) hx hb hK hP 1 1 rfl rfl (n := 3) (vp_in_nI (by omega) (by omega)) dX5_checkStop_15 ?_
      rw [show va_rf ((fun k => some (vd k)) (nI 0).toNatClampNeg) = .ref (vd 0) by rw [nI_clamp (by omega)]; rfl]
      refine va_get (D := (dC, dI)) (ci := 4) (v := .ref (ra 0)) (C := RX4) (T := TX4) (N := 11) hx hb hts (fun w h => tb_in (inX4 w h)) hown hK hP 2 rfl rfl 8 (by decide) (hts _ (tb_in q_fl_X5_160)) (fun _ h9 => h9) rfl dX5_checkStop_16 ?_
      refine va_get (D := (dC, dI)) (ci := 2) (v := .int (nI ((R 0)).length)) (C := RX2) (T := TX2) (N := 2) hx hb hts (fun w h => tb_in (inX2 w h)) hown hK hP 5 rfl rfl 1 (by decide) (hts _ (tb_in q_fl_X5_163)) (fun _ h9 => h9) rfl dX5_checkStop_19 ?_
      refine lv_icmp_lt (tgt := 36) hx hb dX5_checkStop_22 (by decide) (fun c_3 => ?_) (fun c_3 => ?_)
      · refine k_wid (k := 2) (n := 12) (Nat.le_of_ble_eq_true rfl) (Nat.le_of_ble_eq_true rfl) (vx_ret ?_)
        exact W.vret hx hb hr (fun t9 ht9 hW9 => ⟨⟨(), rfl, by unfold stopB; rw [ho_1, nI_clamp (n := 0) (by omega)]; simp [inB, c_2, c_3], trivial⟩, hS.F ht9⟩) hS.2.2 dX5_checkStop_36
      · exact k_thxW ⟨hx, hb, hml, hown, hts⟩ hlT hXs hZs hS 343 "no such stop" (by decide) hl.1 dX5_checkStop_25 dX5_checkStop_28 dX5_checkStop_29 dX5_checkStop_32 dX5_checkStop_35 htb ⟨by decide, by decide, Nat.le_of_ble_eq_true rfl, Nat.le_of_ble_eq_true rfl⟩ hlocks (fun t8 h0 h1 h2 => ⟨"java/lang/IndexOutOfBoundsException", ⟨rfl, by unfold stopB; rw [ho_1, nI_clamp (n := 0) (by omega)]; simp [inB, c_2, c_3]⟩, rfl, ⟨Nat.le_trans hS.1 h1, fun q p1 p2 => (h2 q (Nat.lt_of_lt_of_le p1 hS.1)).trans (hS.2.1 q p1 p2)⟩⟩) hS.2.2 ⟨Nat.le_of_ble_eq_true rfl, Nat.le_of_ble_eq_true rfl⟩
  · refine lv_iload_n hx hb dX5_checkStop_5 rfl (lv_at hl 2 rfl) ?_
    refine lv_if_lt (tgt := 25) hx hb dX5_checkStop_6 (by decide) (fun c_4 => ?_) (fun c_4 => ?_)
    · exact k_thxW ⟨hx, hb, hml, hown, hts⟩ hlT hXs hZs hS 343 "no such stop" (by decide) hl.1 dX5_checkStop_25 dX5_checkStop_28 dX5_checkStop_29 dX5_checkStop_32 dX5_checkStop_35 htb ⟨by decide, by decide, Nat.le_of_ble_eq_true rfl, Nat.le_of_ble_eq_true rfl⟩ hlocks (fun t8 h0 h1 h2 => ⟨"java/lang/IndexOutOfBoundsException", ⟨rfl, by unfold stopB; rw [ho_1, nI_clamp (n := 1) (by omega)]; simp [inB, c_4]⟩, rfl, ⟨Nat.le_trans hS.1 h1, fun q p1 p2 => (h2 q (Nat.lt_of_lt_of_le p1 hS.1)).trans (hS.2.1 q p1 p2)⟩⟩) hS.2.2 ⟨Nat.le_of_ble_eq_true rfl, Nat.le_of_ble_eq_true rfl⟩
    · refine lv_iload_n hx hb dX5_checkStop_9 rfl (lv_at hl 2 rfl) ?_
      refine lv_aload_n hx hb dX5_checkStop_10 rfl (lv_at hl 0 rfl) ?_
      refine va_get (D := (dC, dI)) (ci := 5) (v := .ref G) (C := RX5) (T := TX5) (N := 9) hx hb hts (fun w h => tb_in (inX5 w h)) hown hK hP 0 rfl rfl 1 (by decide) (hts _ (tb_in q_fl_X5_18)) (fun _ h9 => h9) rfl dX5_checkStop_11 ?_
      refine lv_iload_n hx hb dX5_checkStop_14 rfl (lv_at hl 1 rfl) ?_
      refine va_aldq (D := (dC, dI)) hx hb hK hP 1 1 rfl rfl (n := 3) (vp_in_nI (by omega) (by omega)) dX5_checkStop_15 ?_
      rw [show va_rf ((fun k => some (vd k)) (nI 1).toNatClampNeg) = .ref (vd 1) by rw [nI_clamp (by omega)]; rfl]
      refine va_get (D := (dC, dI)) (ci := 4) (v := .ref (ra 1)) (C := RX4) (T := TX4) (N := 11) hx hb hts (fun w h => tb_in (inX4 w h)) hown hK hP 3 rfl rfl 8 (by decide) (hts _ (tb_in q_fl_X5_160)) (fun _ h9 => h9) rfl dX5_checkStop_16 ?_
      refine va_get (D := (dC, dI)) (ci := 2) (v := .int (nI ((R 1)).length)) (C := RX2) (T := TX2) (N := 2) hx hb hts (fun w h => tb_in (inX2 w h)) hown hK hP 7 rfl rfl 1 (by decide) (hts _ (tb_in q_fl_X5_163)) (fun _ h9 => h9) rfl dX5_checkStop_19 ?_
      refine lv_icmp_lt (tgt := 36) hx hb dX5_checkStop_22 (by decide) (fun c_5 => ?_) (fun c_5 => ?_)
      · refine k_wid (k := 2) (n := 12) (Nat.le_of_ble_eq_true rfl) (Nat.le_of_ble_eq_true rfl) (vx_ret ?_)
        exact W.vret hx hb hr (fun t9 ht9 hW9 => ⟨⟨(), rfl, by unfold stopB; rw [ho_1, nI_clamp (n := 1) (by omega)]; simp [inB, c_4, c_5], trivial⟩, hS.F ht9⟩) hS.2.2 dX5_checkStop_36
      · exact k_thxW ⟨hx, hb, hml, hown, hts⟩ hlT hXs hZs hS 343 "no such stop" (by decide) hl.1 dX5_checkStop_25 dX5_checkStop_28 dX5_checkStop_29 dX5_checkStop_32 dX5_checkStop_35 htb ⟨by decide, by decide, Nat.le_of_ble_eq_true rfl, Nat.le_of_ble_eq_true rfl⟩ hlocks (fun t8 h0 h1 h2 => ⟨"java/lang/IndexOutOfBoundsException", ⟨rfl, by unfold stopB; rw [ho_1, nI_clamp (n := 1) (by omega)]; simp [inB, c_4, c_5]⟩, rfl, ⟨Nat.le_trans hS.1 h1, fun q p1 p2 => (h2 q (Nat.lt_of_lt_of_le p1 hS.1)).trans (hS.2.1 q p1 p2)⟩⟩) hS.2.2 ⟨Nat.le_of_ble_eq_true rfl, Nat.le_of_ble_eq_true rfl⟩
  · refine lv_iload_n hx hb dX5_checkStop_5 rfl (lv_at hl 2 rfl) ?_
    refine lv_if_lt (tgt := 25) hx hb dX5_checkStop_6 (by decide) (fun c_6 => ?_) (fun c_6 => ?_)
    · exact k_thxW ⟨hx, hb, hml, hown, hts⟩ hlT hXs hZs hS 343 "no such stop" (by decide) hl.1 dX5_checkStop_25 dX5_checkStop_28 dX5_checkStop_29 dX5_checkStop_32 dX5_checkStop_35 htb ⟨by decide, by decide, Nat.le_of_ble_eq_true rfl, Nat.le_of_ble_eq_true rfl⟩ hlocks (fun t8 h0 h1 h2 => ⟨"java/lang/IndexOutOfBoundsException", ⟨rfl, by unfold stopB; rw [ho_1, nI_clamp (n := 2) (by omega)]; simp [inB, c_6]⟩, rfl, ⟨Nat.le_trans hS.1 h1, fun q p1 p2 => (h2 q (Nat.lt_of_lt_of_le p1 hS.1)).trans (hS.2.1 q p1 p2)⟩⟩) hS.2.2 ⟨Nat.le_of_ble_eq_true rfl, Nat.le_of_ble_eq_true rfl⟩
    · refine lv_iload_n hx hb dX5_checkStop_9 rfl (lv_at hl 2 rfl) ?_
      refine lv_aload_n hx hb dX5_checkStop_10 rfl (lv_at hl 0 rfl) ?_
      refine va_get (D := (dC, dI)) (ci := 5) (v := .ref G) (C := RX5) (T := TX5) (N := 9) hx hb hts (fun w h => tb_in (inX5 w h)) hown hK hP 0 rfl rfl 1 (by decide) (hts _ (tb_in q_fl_X5_18)) (fun _ h9 => h9) rfl dX5_checkStop_11 ?_
      refine lv_iload_n hx hb dX5_checkStop_14 rfl (lv_at hl 1 rfl) ?_
      refine va_aldq (D := (dC, dI)) hx hb hK hP 1 1 rfl rfl (n := 3) (vp_in_nI (by omega) (by omega)) dX5_checkStop_15 ?_
      rw [show va_rf ((fun k => some (vd k)) (nI 2).toNatClampNeg) = .ref (vd 2) by rw [nI_clamp (by omega)]; rfl]
      refine va_get (D := (dC, dI)) (ci := 4) (v := .ref (ra 2)) (C := RX4) (T := TX4) (N := 11) hx hb hts (fun w h => tb_in (inX4 w h)) hown hK hP 4 rfl rfl 8 (by decide) (hts _ (tb_in q_fl_X5_160)) (fun _ h9 => h9) rfl dX5_checkStop_16 ?_
      refine va_get (D := (dC, dI)) (ci := 2) (v := .int (nI ((R 2)).length)) (C := RX2) (T := TX2) (N := 2) hx hb hts (fun w h => tb_in (inX2 w h)) hown hK hP 9 rfl rfl 1 (by decide) (hts _ (tb_in q_fl_X5_163)) (fun _ h9 => h9) rfl dX5_checkStop_19 ?_
      refine lv_icmp_lt (tgt := 36) hx hb dX5_checkStop_22 (by decide) (fun c_7 => ?_) (fun c_7 => ?_)
      · refine k_wid (k := 2) (n := 12) (Nat.le_of_ble_eq_true rfl) (Nat.le_of_ble_eq_true rfl) (vx_ret ?_)
        exact W.vret hx hb hr (fun t9 ht9 hW9 => ⟨⟨(), rfl, by unfold stopB; rw [ho_1, nI_clamp (n := 2) (by omega)]; simp [inB, c_6, c_7], trivial⟩, hS.F ht9⟩) hS.2.2 dX5_checkStop_36
      · exact k_thxW ⟨hx, hb, hml, hown, hts⟩ hlT hXs hZs hS 343 "no such stop" (by decide) hl.1 dX5_checkStop_25 dX5_checkStop_28 dX5_checkStop_29 dX5_checkStop_32 dX5_checkStop_35 htb ⟨by decide, by decide, Nat.le_of_ble_eq_true rfl, Nat.le_of_ble_eq_true rfl⟩ hlocks (fun t8 h0 h1 h2 => ⟨"java/lang/IndexOutOfBoundsException", ⟨rfl, by unfold stopB; rw [ho_1, nI_clamp (n := 2) (by omega)]; simp [inB, c_6, c_7]⟩, rfl, ⟨Nat.le_trans hS.1 h1, fun q p1 p2 => (h2 q (Nat.lt_of_lt_of_le p1 hS.1)).trans (hS.2.1 q p1 p2)⟩⟩) hS.2.2 ⟨Nat.le_of_ble_eq_true rfl, Nat.le_of_ble_eq_true rfl⟩
set_option maxHeartbeats 4000000 in
set_option maxRecDepth 100000 in
theorem c_X5_vehicleOf (l : Launch) (hlT : l.stackTraces = false) (dC : Nat → ClassId) (dI : Nat → Nat → Nat) (cI cV : ClassId) (P F G T za : Nat) (fa ia : Nat → Nat) (w : Nat → Nat → Int32) (NP NJ NV : Nat) (hNP : NP ≤ 12) (hNJ : NJ ≤ 9) (hNV : NV ≤ 3) (ck bg : Int32) (vd ra rb xa ya : Nat → Nat) (vv : Nat → Nat → Int32) (R : Nat → List Int32) (rf : Nat → Nat → Int32) (hR : ∀ k, rw_ok (R k) (rf k)) (x : Int32) (sz : Nat) : vx_Met l yX5_vehicleOf (Cond.code yX5_vehicleOf cX5_vehicleOf 2 (some .int) :: TB) ({ frames := 7, cells := 1, slots := 6, locals := 130 } : Room) (PXr [.ref P, .int x] (dC, dI) [(P, .inr (5, [.ref F, .ref G, .ref T, .ref za, .ref (ia 0), .ref (ia 1), .ref (ia 2), .int (nI NV), .int bg])), (G, .inl (cV, 3, .inr (.inr (.inr (.inr (fun k => some (vd k))))))), (vd 0, .inr (4, [.int (vv 0 0), .int (vv 0 1), .int (vv 0 2), .int (vv 0 3), .int (vv 0 4), .int (vv 0 5), .int (vv 0 6), .int (vv 0 7), .ref (ra 0), .ref (xa 0), .ref (ya 0)])), (vd 1, .inr (4, [.int (vv 1 0), .int (vv 1 1), .int (vv 1 2), .int (vv 1 3), .int (vv 1 4), .int (vv 1 5), .int (vv 1 6), .int (vv 1 7), .ref (ra 1), .ref (xa 1), .ref (ya 1)])), (vd 2, .inr (4, [.int (vv 2 0), .int (vv 2 1), .int (vv 2 2), .int (vv 2 3), .int (vv 2 4), .int (vv 2 5), .int (vv 2 6), .int (vv 2 7), .ref (ra 2), .ref (xa 2), .ref (ya 2)])), (ra 0, .inr (2, [.ref (rb 0), .int (nI ((R 0)).length)])), (rb 0, .inl (cI, 18, .inl (rf 0))), (ra 1, .inr (2, [.ref (rb 1), .int (nI ((R 1)).length)])), (rb 1, .inl (cI, 18, .inl (rf 1))), (ra 2, .inr (2, [.ref (rb 2), .int (nI ((R 2)).length)])), (rb 2, .inl (cI, 18, .inl (rf 2))), (F, .inr (0, [.ref (fa 0), .ref (fa 1), .ref (fa 2), .ref (fa 3), .ref (fa 4), .ref (fa 5), .ref (fa 6), .ref (fa 7), .ref (fa 8), .int (nI NP), .int (nI NJ), .int ck])), (fa 0, .inl (cI, 12, .inl (w 0))), (fa 1, .inl (cI, 12, .inl (w 1))), (fa 2, .inl (cI, 144, .inl (w 2))), (fa 3, .inl (cI, 9, .inl (w 3))), (fa 4, .inl (cI, 18, .inl (w 4))), (fa 5, .inl (cI, 18, .inl (w 5))), (fa 6, .inl (cI, 18, .inl (w 6))), (fa 7, .inl (cI, 18, .inl (w 7))), (fa 8, .inl (cI, 18, .inl (w 8)))] (TY cI cV) sz) (va_Qi (fun r (_ : Unit) => inB NJ x = true ∧ r = carrF NV R x) (fun _ _ => True) (NA sz)) (vx_X (fun E => E = "java/lang/IndexOutOfBoundsException" ∧ inB NJ x = false) (fun E u _ => E = u) (NA sz)) 1 6 (NA sz) := by
  refine vx_ofW (cc := cX5_vehicleOf) (maxL := 2) (ret := (some .int)) (by decide) rfl ?_
  intro p e s m args below meth c s₁ B hml htb hv
  obtain ⟨rfl, hsz, hP, hK, hN, hXs, hZs⟩ := hv
  have hx := B.exec
  have hb := B.bytes
  have hr := B.returns
  have hts := atoms_spec (ws := (Cond.code yX5_vehicleOf cX5_vehicleOf 2 (some .int) :: TB)) B.pre
  have hown : s.vm.findClass RX5 = some m.cls := findClass_of_methodNamed B.named
  have hlocks := B.notSynchronized
  subst hsz
  have hA : ∀ q : Nat, s.heap.size ≤ q → NA s.heap.size q := fun q h => h
  have hS : va_S (NA s.heap.size) s.heap s.heap [] := va_S.rf
  have hl := lv_entry ([.ref P, .int x]) (n := 2) (Nat.le_of_ble_eq_true rfl)
  rw [lg_entry_eq]
  generalize (lg_sl ([.ref P, .int x]) ++ List.replicate (2 - (lg_sl ([.ref P, .int x])).length) Slot.unset).toArray = ls at hl ⊢
  have hl : lv_has ls 2 [(0, .ref P), (1, .int x)] := hl
  refine lv_aload_n hx hb dX5_vehicleOf_0 rfl (lv_at hl 0 rfl) ?_
  refine lv_iload_n hx hb dX5_vehicleOf_1 rfl (lv_at hl 1 rfl) ?_
  refine k_Xv (ci := 5) (q0 := 0) [.int x] [0, 11, 12, 13, 14, 15, 16, 17, 18, 19, 20] ⟨hx, hb, hml, hown, hts⟩ (fun sz => c_X5_checkJob l hlT dC dI cI cV P F G T za fa ia w NP NJ NV hNP hNJ hNV ck bg x sz) q_ml_X5_120 q_im_X5_checkJob q_se_X5_checkJob q_ini_X5 q_co_X5_checkJob (n := 1) (by decide +kernel) rfl ⟨rfl, rfl⟩ ⟨Nat.le_of_ble_eq_true rfl, Nat.le_of_ble_eq_true rfl⟩ hP hS hA hK hN hXs hZs rfl rfl rfl rfl hl.1 rfl (Nat.le_of_ble_eq_true rfl) dX5_vehicleOf_2 ⟨Nat.le_of_ble_eq_true rfl, Nat.le_of_ble_eq_true rfl⟩ (fun E ce q9 H locs hpx hP hS hc1 hc2 hc3 => ?_) (fun H locs hpo hP hS => ?_)
  · exact vx_out (fun x h => (htb x h).elim) hlocks hc1 hc2 hc3 (fun t8 ht9 hW9 => ⟨E, hpx, rfl, hS.F ht9⟩) hS.2.2 (Nat.le_of_ble_eq_true rfl) (Nat.le_of_ble_eq_true rfl)
  have ho_1 := hpo
  have hP : va_P (dC, dI) cls [(P, .inr (5, [.ref F, .ref G, .ref T, .ref za, .ref (ia 0), .ref (ia 1), .ref (ia 2), .int (nI NV), .int bg])), (G, .inl (cV, 3, .inr (.inr (.inr (.inr (fun k => some (vd k))))))), (vd 0, .inr (4, [.int (vv 0 0), .int (vv 0 1), .int (vv 0 2), .int (vv 0 3), .int (vv 0 4), .int (vv 0 5), .int (vv 0 6), .int (vv 0 7), .ref (ra 0), .ref (xa 0), .ref (ya 0)])), (vd 1, .inr (4, [.int (vv 1 0), .int (vv 1 1), .int (vv 1 2), .int (vv 1 3), .int (vv 1 4), .int (vv 1 5), .int (vv 1 6), .int (vv 1 7), .ref (ra 1), .ref (xa 1), .ref (ya 1)])), (vd 2, .inr (4, [.int (vv 2 0), .int (vv 2 1), .int (vv 2 2), .int (vv 2 3), .int (vv 2 4), .int (vv 2 5), .int (vv 2 6), .int (vv 2 7), .ref (ra 2), .ref (xa 2), .ref (ya 2)])), (ra 0, .inr (2, [.ref (rb 0), .int (nI ((R 0)).length)])), (rb 0, .inl (cI, 18, .inl (rf 0))), (ra 1, .inr (2, [.ref (rb 1), .int (nI ((R 1)).length)])), (rb 1, .inl (cI, 18, .inl (rf 1))), (ra 2, .inr (2, [.ref (rb 2), .int (nI ((R 2)).length)])), (rb 2, .inl (cI, 18, .inl (rf 2))), (F, .inr (0, [.ref (fa 0), .ref (fa 1), .ref (fa 2), .ref (fa 3), .ref (fa 4), .ref (fa 5), .ref (fa 6), .ref (fa 7), .ref (fa 8), .int (nI NP), .int (nI NJ), .int ck])), (fa 0, .inl (cI, 12, .inl (w 0))), (fa 1, .inl (cI, 12, .inl (w 1))), (fa 2, .inl (cI, 144, .inl (w 2))), (fa 3, .inl (cI, 9, .inl (w 3))), (fa 4, .inl (cI, 18, .inl (w 4))), (fa 5, .inl (cI, 18, .inl (w 5))), (fa 6, .inl (cI, 18, .inl (w 6))), (fa 7, .inl (cI, 18, .inl (w 7))), (fa 8, .inl (cI, 18, .inl (w 8)))] H := hP
  refine lv_aload_n hx hb dX5_vehicleOf_5 rfl (lv_at hl 0 rfl) ?_
  refine lv_iload_n hx hb dX5_vehicleOf_6 rfl (lv_at hl 1 rfl) ?_
  refine k_Vi (ci := 5) (q0 := 0) [.int x] ⟨hx, hb, hml, hown, hts⟩ (c_X5_carrierOf l dC dI cI cV P F G T za fa ia w NP NJ NV hNP hNJ hNV ck bg vd ra rb xa ya vv R rf hR x) q_ml_X5_194 q_im_X5_carrierOf q_se_X5_carrierOf q_ini_X5 q_co_X5_carrierOf (n := 1) (by decide +kernel) rfl ⟨rfl, rfl⟩ ⟨Nat.le_of_ble_eq_true rfl, Nat.le_of_ble_eq_true rfl⟩ (hP.sub [0, 1, 2, 3, 4, 5, 6, 7, 8, 9, 10] rfl) hK hN rfl rfl rfl hl.1 rfl (Nat.le_of_ble_eq_true rfl) dX5_vehicleOf_7 ⟨Nat.le_of_ble_eq_true rfl, Nat.le_of_ble_eq_true rfl⟩ (fun r_2 hr_2 => ?_)
  subst hr_2
  refine k_wid (k := 1) (n := 6) (Nat.le_of_ble_eq_true rfl) (Nat.le_of_ble_eq_true rfl) (vx_ret ?_)
  exact W.iret (v := carrF NV R x) hx hb hr (fun t9 ht9 hW9 => ⟨⟨_, (), rfl, ⟨ho_1, rfl⟩, trivial⟩, hS.F ht9⟩) hS.2.2 dX5_vehicleOf_10
set_option maxHeartbeats 4000000 in
set_option maxRecDepth 100000 in
theorem c_X5_isSet (l : Launch) (hlT : l.stackTraces = false) (dC : Nat → ClassId) (dI : Nat → Nat → Nat) (cI cV : ClassId) (P F G T za : Nat) (fa ia : Nat → Nat) (w : Nat → Nat → Int32) (NP NJ NV : Nat) (hNP : NP ≤ 12) (hNJ : NJ ≤ 9) (hNV : NV ≤ 3) (ck bg : Int32) (vd ra rb xa ya : Nat → Nat) (vv : Nat → Nat → Int32) (R : Nat → List Int32) (rf : Nat → Nat → Int32) (hR : ∀ k, rw_ok (R k) (rf k)) (x : Int32) (sz : Nat) : vx_Met l yX5_isSet (Cond.code yX5_isSet cX5_isSet 2 (some .boolean) :: TB) ({ frames := 7, cells := 1, slots := 6, locals := 130 } : Room) (PXr [.ref P, .int x] (dC, dI) [(P, .inr (5, [.ref F, .ref G, .ref T, .ref za, .ref (ia 0), .ref (ia 1), .ref (ia 2), .int (nI NV), .int bg])), (G, .inl (cV, 3, .inr (.inr (.inr (.inr (fun k => some (vd k))))))), (vd 0, .inr (4, [.int (vv 0 0), .int (vv 0 1), .int (vv 0 2), .int (vv 0 3), .int (vv 0 4), .int (vv 0 5), .int (vv 0 6), .int (vv 0 7), .ref (ra 0), .ref (xa 0), .ref (ya 0)])), (vd 1, .inr (4, [.int (vv 1 0), .int (vv 1 1), .int (vv 1 2), .int (vv 1 3), .int (vv 1 4), .int (vv 1 5), .int (vv 1 6), .int (vv 1 7), .ref (ra 1), .ref (xa 1), .ref (ya 1)])), (vd 2, .inr (4, [.int (vv 2 0), .int (vv 2 1), .int (vv 2 2), .int (vv 2 3), .int (vv 2 4), .int (vv 2 5), .int (vv 2 6), .int (vv 2 7), .ref (ra 2), .ref (xa 2), .ref (ya 2)])), (ra 0, .inr (2, [.ref (rb 0), .int (nI ((R 0)).length)])), (rb 0, .inl (cI, 18, .inl (rf 0))), (ra 1, .inr (2, [.ref (rb 1), .int (nI ((R 1)).length)])), (rb 1, .inl (cI, 18, .inl (rf 1))), (ra 2, .inr (2, [.ref (rb 2), .int (nI ((R 2)).length)])), (rb 2, .inl (cI, 18, .inl (rf 2))), (F, .inr (0, [.ref (fa 0), .ref (fa 1), .ref (fa 2), .ref (fa 3), .ref (fa 4), .ref (fa 5), .ref (fa 6), .ref (fa 7), .ref (fa 8), .int (nI NP), .int (nI NJ), .int ck])), (fa 0, .inl (cI, 12, .inl (w 0))), (fa 1, .inl (cI, 12, .inl (w 1))), (fa 2, .inl (cI, 144, .inl (w 2))), (fa 3, .inl (cI, 9, .inl (w 3))), (fa 4, .inl (cI, 18, .inl (w 4))), (fa 5, .inl (cI, 18, .inl (w 5))), (fa 6, .inl (cI, 18, .inl (w 6))), (fa 7, .inl (cI, 18, .inl (w 7))), (fa 8, .inl (cI, 18, .inl (w 8)))] (TY cI cV) sz) (va_Qi (fun r (_ : Unit) => inB NJ x = true ∧ r = b01 (boundF NV R vv x)) (fun _ _ => True) (NA sz)) (vx_X (fun E => E = "java/lang/IndexOutOfBoundsException" ∧ inB NJ x = false) (fun E u _ => E = u) (NA sz)) 1 6 (NA sz) := by
  refine vx_ofW (cc := cX5_isSet) (maxL := 2) (ret := (some .boolean)) (by decide) rfl ?_
  intro p e s m args below meth c s₁ B hml htb hv
  obtain ⟨rfl, hsz, hP, hK, hN, hXs, hZs⟩ := hv
  have hx := B.exec
  have hb := B.bytes
  have hr := B.returns
  have hts := atoms_spec (ws := (Cond.code yX5_isSet cX5_isSet 2 (some .boolean) :: TB)) B.pre
  have hown : s.vm.findClass RX5 = some m.cls := findClass_of_methodNamed B.named
  have hlocks := B.notSynchronized
  subst hsz
  have hA : ∀ q : Nat, s.heap.size ≤ q → NA s.heap.size q := fun q h => h
  have hS : va_S (NA s.heap.size) s.heap s.heap [] := va_S.rf
  have hl := lv_entry ([.ref P, .int x]) (n := 2) (Nat.le_of_ble_eq_true rfl)
  rw [lg_entry_eq]
  generalize (lg_sl ([.ref P, .int x]) ++ List.replicate (2 - (lg_sl ([.ref P, .int x])).length) Slot.unset).toArray = ls at hl ⊢
  have hl : lv_has ls 2 [(0, .ref P), (1, .int x)] := hl
  refine lv_aload_n hx hb dX5_isSet_0 rfl (lv_at hl 0 rfl) ?_
  refine lv_iload_n hx hb dX5_isSet_1 rfl (lv_at hl 1 rfl) ?_
  refine k_Xv (ci := 5) (q0 := 0) [.int x] [0, 11, 12, 13, 14, 15, 16, 17, 18, 19, 20] ⟨hx, hb, hml, hown, hts⟩ (fun sz => c_X5_checkJob l hlT dC dI cI cV P F G T za fa ia w NP NJ NV hNP hNJ hNV ck bg x sz) q_ml_X5_120 q_im_X5_checkJob q_se_X5_checkJob q_ini_X5 q_co_X5_checkJob (n := 1) (by decide +kernel) rfl ⟨rfl, rfl⟩ ⟨Nat.le_of_ble_eq_true rfl, Nat.le_of_ble_eq_true rfl⟩ hP hS hA hK hN hXs hZs rfl rfl rfl rfl hl.1 rfl (Nat.le_of_ble_eq_true rfl) dX5_isSet_2 ⟨Nat.le_of_ble_eq_true rfl, Nat.le_of_ble_eq_true rfl⟩ (fun E ce q9 H locs hpx hP hS hc1 hc2 hc3 => ?_) (fun H locs hpo hP hS => ?_)
  · exact vx_out (fun x h => (htb x h).elim) hlocks hc1 hc2 hc3 (fun t8 ht9 hW9 => ⟨E, hpx, rfl, hS.F ht9⟩) hS.2.2 (Nat.le_of_ble_eq_true rfl) (Nat.le_of_ble_eq_true rfl)
  have ho_1 := hpo
  have hP : va_P (dC, dI) cls [(P, .inr (5, [.ref F, .ref G, .ref T, .ref za, .ref (ia 0), .ref (ia 1), .ref (ia 2), .int (nI NV), .int bg])), (G, .inl (cV, 3, .inr (.inr (.inr (.inr (fun k => some (vd k))))))), (vd 0, .inr (4, [.int (vv 0 0), .int (vv 0 1), .int (vv 0 2), .int (vv 0 3), .int (vv 0 4), .int (vv 0 5), .int (vv 0 6), .int (vv 0 7), .ref (ra 0), .ref (xa 0), .ref (ya 0)])), (vd 1, .inr (4, [.int (vv 1 0), .int (vv 1 1), .int (vv 1 2), .int (vv 1 3), .int (vv 1 4), .int (vv 1 5), .int (vv 1 6), .int (vv 1 7), .ref (ra 1), .ref (xa 1), .ref (ya 1)])), (vd 2, .inr (4, [.int (vv 2 0), .int (vv 2 1), .int (vv 2 2), .int (vv 2 3), .int (vv 2 4), .int (vv 2 5), .int (vv 2 6), .int (vv 2 7), .ref (ra 2), .ref (xa 2), .ref (ya 2)])), (ra 0, .inr (2, [.ref (rb 0), .int (nI ((R 0)).length)])), (rb 0, .inl (cI, 18, .inl (rf 0))), (ra 1, .inr (2, [.ref (rb 1), .int (nI ((R 1)).length)])), (rb 1, .inl (cI, 18, .inl (rf 1))), (ra 2, .inr (2, [.ref (rb 2), .int (nI ((R 2)).length)])), (rb 2, .inl (cI, 18, .inl (rf 2))), (F, .inr (0, [.ref (fa 0), .ref (fa 1), .ref (fa 2), .ref (fa 3), .ref (fa 4), .ref (fa 5), .ref (fa 6), .ref (fa 7), .ref (fa 8), .int (nI NP), .int (nI NJ), .int ck])), (fa 0, .inl (cI, 12, .inl (w 0))), (fa 1, .inl (cI, 12, .inl (w 1))), (fa 2, .inl (cI, 144, .inl (w 2))), (fa 3, .inl (cI, 9, .inl (w 3))), (fa 4, .inl (cI, 18, .inl (w 4))), (fa 5, .inl (cI, 18, .inl (w 5))), (fa 6, .inl (cI, 18, .inl (w 6))), (fa 7, .inl (cI, 18, .inl (w 7))), (fa 8, .inl (cI, 18, .inl (w 8)))] H := hP
  refine lv_aload_n hx hb dX5_isSet_5 rfl (lv_at hl 0 rfl) ?_
  refine lv_iload_n hx hb dX5_isSet_6 rfl (lv_at hl 1 rfl) ?_
  refine k_Vi (ci := 5) (q0 := 0) [.int x] ⟨hx, hb, hml, hown, hts⟩ (c_X5_isBound l dC dI cI cV P F G T za fa ia w NP NJ NV hNP hNJ hNV ck bg vd ra rb xa ya vv R rf hR x) q_ml_X5_123 q_im_X5_isBound q_se_X5_isBound q_ini_X5 q_co_X5_isBound (n := 1) (by decide +kernel) rfl ⟨rfl, rfl⟩ ⟨Nat.le_of_ble_eq_true rfl, Nat.le_of_ble_eq_true rfl⟩ (hP.sub [0, 1, 2, 3, 4, 5, 6, 7, 8, 9, 10] rfl) hK hN rfl rfl rfl hl.1 rfl (Nat.le_of_ble_eq_true rfl) dX5_isSet_7 ⟨Nat.le_of_ble_eq_true rfl, Nat.le_of_ble_eq_true rfl⟩ (fun r_2 hr_2 => ?_)
  subst hr_2
  refine k_wid (k := 1) (n := 6) (Nat.le_of_ble_eq_true rfl) (Nat.le_of_ble_eq_true rfl) (vx_ret ?_)
  exact W.zret (v := b01 (boundF NV R vv x)) hx hb hr (b01_nar _) (fun t9 ht9 hW9 => ⟨⟨_, (), rfl, ⟨ho_1, rfl⟩, trivial⟩, hS.F ht9⟩) hS.2.2 dX5_isSet_10
set_option maxHeartbeats 4000000 in
set_option maxRecDepth 100000 in
theorem c_X5_stops (l : Launch) (hlT : l.stackTraces = false) (dC : Nat → ClassId) (dI : Nat → Nat → Nat) (cI cV : ClassId) (P F G T za : Nat) (fa ia : Nat → Nat) (w : Nat → Nat → Int32) (NP NJ NV : Nat) (hNP : NP ≤ 12) (hNJ : NJ ≤ 9) (hNV : NV ≤ 3) (ck bg : Int32) (vd ra rb xa ya : Nat → Nat) (vv : Nat → Nat → Int32) (R : Nat → List Int32) (rf : Nat → Nat → Int32) (hR : ∀ k, rw_ok (R k) (rf k)) (x : Int32) (sz : Nat) : vx_Met l yX5_stops (Cond.code yX5_stops cX5_stops 2 (some .int) :: TB) ({ frames := 7, cells := 1, slots := 6, locals := 130 } : Room) (PXr [.ref P, .int x] (dC, dI) [(P, .inr (5, [.ref F, .ref G, .ref T, .ref za, .ref (ia 0), .ref (ia 1), .ref (ia 2), .int (nI NV), .int bg])), (G, .inl (cV, 3, .inr (.inr (.inr (.inr (fun k => some (vd k))))))), (vd 0, .inr (4, [.int (vv 0 0), .int (vv 0 1), .int (vv 0 2), .int (vv 0 3), .int (vv 0 4), .int (vv 0 5), .int (vv 0 6), .int (vv 0 7), .ref (ra 0), .ref (xa 0), .ref (ya 0)])), (vd 1, .inr (4, [.int (vv 1 0), .int (vv 1 1), .int (vv 1 2), .int (vv 1 3), .int (vv 1 4), .int (vv 1 5), .int (vv 1 6), .int (vv 1 7), .ref (ra 1), .ref (xa 1), .ref (ya 1)])), (vd 2, .inr (4, [.int (vv 2 0), .int (vv 2 1), .int (vv 2 2), .int (vv 2 3), .int (vv 2 4), .int (vv 2 5), .int (vv 2 6), .int (vv 2 7), .ref (ra 2), .ref (xa 2), .ref (ya 2)])), (ra 0, .inr (2, [.ref (rb 0), .int (nI ((R 0)).length)])), (rb 0, .inl (cI, 18, .inl (rf 0))), (ra 1, .inr (2, [.ref (rb 1), .int (nI ((R 1)).length)])), (rb 1, .inl (cI, 18, .inl (rf 1))), (ra 2, .inr (2, [.ref (rb 2), .int (nI ((R 2)).length)])), (rb 2, .inl (cI, 18, .inl (rf 2)))] (TY cI cV) sz) (va_Qi (fun r (_ : Unit) => inB NV x = true ∧ r = nI (R x.toNatClampNeg).length) (fun _ _ => True) (NA sz)) (vx_X (fun E => E = "java/lang/IndexOutOfBoundsException" ∧ inB NV x = false) (fun E u _ => E = u) (NA sz)) 1 6 (NA sz) := by
  refine vx_ofW (cc := cX5_stops) (maxL := 2) (ret := (some .int)) (by decide) rfl ?_
  intro p e s m args below meth c s₁ B hml htb hv
  obtain ⟨rfl, hsz, hP, hK, hN, hXs, hZs⟩ := hv
  have hx := B.exec
  have hb := B.bytes
  have hr := B.returns
  have hts := atoms_spec (ws := (Cond.code yX5_stops cX5_stops 2 (some .int) :: TB)) B.pre
  have hown : s.vm.findClass RX5 = some m.cls := findClass_of_methodNamed B.named
  have hlocks := B.notSynchronized
  subst hsz
  have hA : ∀ q : Nat, s.heap.size ≤ q → NA s.heap.size q := fun q h => h
  have hS : va_S (NA s.heap.size) s.heap s.heap [] := va_S.rf
  have hl := lv_entry ([.ref P, .int x]) (n := 2) (Nat.le_of_ble_eq_true rfl)
  rw [lg_entry_eq]
  generalize (lg_sl ([.ref P, .int x]) ++ List.replicate (2 - (lg_sl ([.ref P, .int x])).length) Slot.unset).toArray = ls at hl ⊢
  have hl : lv_has ls 2 [(0, .ref P), (1, .int x)] := hl
  refine lv_aload_n hx hb dX5_stops_0 rfl (lv_at hl 0 rfl) ?_
  refine lv_iload_n hx hb dX5_stops_1 rfl (lv_at hl 1 rfl) ?_
  refine k_Xv (ci := 5) (q0 := 0) [.int x] [0] ⟨hx, hb, hml, hown, hts⟩ (fun sz => c_X5_checkVehicle l hlT dC dI cI cV P F G T za fa ia w NP NJ NV hNP hNJ hNV ck bg x sz) q_ml_X5_157 q_im_X5_checkVehicle q_se_X5_checkVehicle q_ini_X5 q_co_X5_checkVehicle (n := 1) (by decide +kernel) rfl ⟨rfl, rfl⟩ ⟨Nat.le_of_ble_eq_true rfl, Nat.le_of_ble_eq_true rfl⟩ hP hS hA hK hN hXs hZs rfl rfl rfl rfl hl.1 rfl (Nat.le_of_ble_eq_true rfl) dX5_stops_2 ⟨Nat.le_of_ble_eq_true rfl, Nat.le_of_ble_eq_true rfl⟩ (fun E ce q9 H locs hpx hP hS hc1 hc2 hc3 => ?_) (fun H locs hpo hP hS => ?_)
  · exact vx_out (fun x h => (htb x h).elim) hlocks hc1 hc2 hc3 (fun t8 ht9 hW9 => ⟨E, hpx, rfl, hS.F ht9⟩) hS.2.2 (Nat.le_of_ble_eq_true rfl) (Nat.le_of_ble_eq_true rfl)
  have ho_1 := hpo
  have hP : va_P (dC, dI) cls [(P, .inr (5, [.ref F, .ref G, .ref T, .ref za, .ref (ia 0), .ref (ia 1), .ref (ia 2), .int (nI NV), .int bg])), (G, .inl (cV, 3, .inr (.inr (.inr (.inr (fun k => some (vd k))))))), (vd 0, .inr (4, [.int (vv 0 0), .int (vv 0 1), .int (vv 0 2), .int (vv 0 3), .int (vv 0 4), .int (vv 0 5), .int (vv 0 6), .int (vv 0 7), .ref (ra 0), .ref (xa 0), .ref (ya 0)])), (vd 1, .inr (4, [.int (vv 1 0), .int (vv 1 1), .int (vv 1 2), .int (vv 1 3), .int (vv 1 4), .int (vv 1 5), .int (vv 1 6), .int (vv 1 7), .ref (ra 1), .ref (xa 1), .ref (ya 1)])), (vd 2, .inr (4, [.int (vv 2 0), .int (vv 2 1), .int (vv 2 2), .int (vv 2 3), .int (vv 2 4), .int (vv 2 5), .int (vv 2 6), .int (vv 2 7), .ref (ra 2), .ref (xa 2), .ref (ya 2)])), (ra 0, .inr (2, [.ref (rb 0), .int (nI ((R 0)).length)])), (rb 0, .inl (cI, 18, .inl (rf 0))), (ra 1, .inr (2, [.ref (rb 1), .int (nI ((R 1)).length)])), (rb 1, .inl (cI, 18, .inl (rf 1))), (ra 2, .inr (2, [.ref (rb 2), .int (nI ((R 2)).length)])), (rb 2, .inl (cI, 18, .inl (rf 2)))] H := hP
  rcases inB_3 hNV ho_1 with rfl | rfl | rfl
  · refine lv_aload_n hx hb dX5_stops_5 rfl (lv_at hl 0 rfl) ?_
    refine va_get (D := (dC, dI)) (ci := 5) (v := .ref G) (C := RX5) (T := TX5) (N := 9) hx hb hts (fun w h => tb_in (inX5 w h)) hown hK hP 0 rfl rfl 1 (by decide) (hts _ (tb_in q_fl_X5_18)) (fun _ h9 => h9) rfl dX5_stops_6 ?_
    refine lv_iload_n hx hb dX5_stops_9 rfl (lv_at hl 1 rfl) ?_
    refine va_aldq (D := (dC, dI)) hx hb hK hP 1 1 rfl rfl (n := 3) (vp_in_nI (by omega) (by omega)) dX5_stops_10 ?_
    rw [show va_rf ((fun k => some (vd k)) (nI 0).toNatClampNeg) = .ref (vd 0) by rw [nI_clamp (by omega)]; rfl]
    refine va_get (D := (dC, dI)) (ci := 4) (v := .ref (ra 0)) (C := RX4) (T := TX4) (N := 11) hx hb hts (fun w h => tb_in (inX4 w h)) hown hK hP 2 rfl rfl 8 (by decide) (hts _ (tb_in q_fl_X5_160)) (fun _ h9 => h9) rfl dX5_stops_11 ?_
    refine va_get (D := (dC, dI)) (ci := 2) (v := .int (nI ((R 0)).length)) (C := RX2) (T := TX2) (N := 2) hx hb hts (fun w h => tb_in (inX2 w h)) hown hK hP 5 rfl rfl 1 (by decide) (hts _ (tb_in q_fl_X5_163)) (fun _ h9 => h9) rfl dX5_stops_14 ?_
    refine k_wid (k := 1) (n := 6) (Nat.le_of_ble_eq_true rfl) (Nat.le_of_ble_eq_true rfl) (vx_ret ?_)
    exact W.iret (v := nI ((R 0)).length) hx hb hr (fun t9 ht9 hW9 => ⟨⟨_, (), rfl, ⟨ho_1, by rw [nI_clamp (n := 0) (by omega)]⟩, trivial⟩, hS.F ht9⟩) hS.2.2 dX5_stops_17
  · refine lv_aload_n hx hb dX5_stops_5 rfl (lv_at hl 0 rfl) ?_
    refine va_get (D := (dC, dI)) (ci := 5) (v := .ref G) (C := RX5) (T := TX5) (N := 9) hx hb hts (fun w h => tb_in (inX5 w h)) hown hK hP 0 rfl rfl 1 (by decide) (hts _ (tb_in q_fl_X5_18)) (fun _ h9 => h9) rfl dX5_stops_6 ?_
    refine lv_iload_n hx hb dX5_stops_9 rfl (lv_at hl 1 rfl) ?_
    refine va_aldq (D := (dC, dI)) hx hb hK hP 1 1 rfl rfl (n := 3) (vp_in_nI (by omega) (by omega)) dX5_stops_10 ?_
    rw [show va_rf ((fun k => some (vd k)) (nI 1).toNatClampNeg) = .ref (vd 1) by rw [nI_clamp (by omega)]; rfl]
    refine va_get (D := (dC, dI)) (ci := 4) (v := .ref (ra 1)) (C := RX4) (T := TX4) (N := 11) hx hb hts (fun w h => tb_in (inX4 w h)) hown hK hP 3 rfl rfl 8 (by decide) (hts _ (tb_in q_fl_X5_160)) (fun _ h9 => h9) rfl dX5_stops_11 ?_
    refine va_get (D := (dC, dI)) (ci := 2) (v := .int (nI ((R 1)).length)) (C := RX2) (T := TX2) (N := 2) hx hb hts (fun w h => tb_in (inX2 w h)) hown hK hP 7 rfl rfl 1 (by decide) (hts _ (tb_in q_fl_X5_163)) (fun _ h9 => h9) rfl dX5_stops_14 ?_
    refine k_wid (k := 1) (n := 6) (Nat.le_of_ble_eq_true rfl) (Nat.le_of_ble_eq_true rfl) (vx_ret ?_)
    exact W.iret (v := nI ((R 1)).length) hx hb hr (fun t9 ht9 hW9 => ⟨⟨_, (), rfl, ⟨ho_1, by rw [nI_clamp (n := 1) (by omega)]⟩, trivial⟩, hS.F ht9⟩) hS.2.2 dX5_stops_17
  · refine lv_aload_n hx hb dX5_stops_5 rfl (lv_at hl 0 rfl) ?_
    refine va_get (D := (dC, dI)) (ci := 5) (v := .ref G) (C := RX5) (T := TX5) (N := 9) hx hb hts (fun w h => tb_in (inX5 w h)) hown hK hP 0 rfl rfl 1 (by decide) (hts _ (tb_in q_fl_X5_18)) (fun _ h9 => h9) rfl dX5_stops_6 ?_
    refine lv_iload_n hx hb dX5_stops_9 rfl (lv_at hl 1 rfl) ?_
    refine va_aldq (D := (dC, dI)) hx hb hK hP 1 1 rfl rfl (n := 3) (vp_in_nI (by omega) (by omega)) dX5_stops_10 ?_
    rw [show va_rf ((fun k => some (vd k)) (nI 2).toNatClampNeg) = .ref (vd 2) by rw [nI_clamp (by omega)]; rfl]
    refine va_get (D := (dC, dI)) (ci := 4) (v := .ref (ra 2)) (C := RX4) (T := TX4) (N := 11) hx hb hts (fun w h => tb_in (inX4 w h)) hown hK hP 4 rfl rfl 8 (by decide) (hts _ (tb_in q_fl_X5_160)) (fun _ h9 => h9) rfl dX5_stops_11 ?_
    refine va_get (D := (dC, dI)) (ci := 2) (v := .int (nI ((R 2)).length)) (C := RX2) (T := TX2) (N := 2) hx hb hts (fun w h => tb_in (inX2 w h)) hown hK hP 9 rfl rfl 1 (by decide) (hts _ (tb_in q_fl_X5_163)) (fun _ h9 => h9) rfl dX5_stops_14 ?_
    refine k_wid (k := 1) (n := 6) (Nat.le_of_ble_eq_true rfl) (Nat.le_of_ble_eq_true rfl) (vx_ret ?_)
    exact W.iret (v := nI ((R 2)).length) hx hb hr (fun t9 ht9 hW9 => ⟨⟨_, (), rfl, ⟨ho_1, by rw [nI_clamp (n := 2) (by omega)]⟩, trivial⟩, hS.F ht9⟩) hS.2.2 dX5_stops_17
set_option maxHeartbeats 4000000 in
set_option maxRecDepth 100000 in
theorem c_X5_setStops (l : Launch) (hlT : l.stackTraces = false) (dC : Nat → ClassId) (dI : Nat → Nat → Nat) (cI cV : ClassId) (P F G T za : Nat) (fa ia : Nat → Nat) (w : Nat → Nat → Int32) (NP NJ NV : Nat) (hNP : NP ≤ 12) (hNJ : NJ ≤ 9) (hNV : NV ≤ 3) (ck bg : Int32) (vd ra rb xa ya : Nat → Nat) (vv : Nat → Nat → Int32) (R : Nat → List Int32) (rf : Nat → Nat → Int32) (hR : ∀ k, rw_ok (R k) (rf k)) (x : Int32) (sz : Nat) : vx_Met l yX5_setStops (Cond.code yX5_setStops cX5_setStops 2 (some .int) :: TB) ({ frames := 7, cells := 1, slots := 6, locals := 130 } : Room) (PXr [.ref P, .int x] (dC, dI) [(P, .inr (5, [.ref F, .ref G, .ref T, .ref za, .ref (ia 0), .ref (ia 1), .ref (ia 2), .int (nI NV), .int bg])), (G, .inl (cV, 3, .inr (.inr (.inr (.inr (fun k => some (vd k))))))), (vd 0, .inr (4, [.int (vv 0 0), .int (vv 0 1), .int (vv 0 2), .int (vv 0 3), .int (vv 0 4), .int (vv 0 5), .int (vv 0 6), .int (vv 0 7), .ref (ra 0), .ref (xa 0), .ref (ya 0)])), (vd 1, .inr (4, [.int (vv 1 0), .int (vv 1 1), .int (vv 1 2), .int (vv 1 3), .int (vv 1 4), .int (vv 1 5), .int (vv 1 6), .int (vv 1 7), .ref (ra 1), .ref (xa 1), .ref (ya 1)])), (vd 2, .inr (4, [.int (vv 2 0), .int (vv 2 1), .int (vv 2 2), .int (vv 2 3), .int (vv 2 4), .int (vv 2 5), .int (vv 2 6), .int (vv 2 7), .ref (ra 2), .ref (xa 2), .ref (ya 2)])), (ra 0, .inr (2, [.ref (rb 0), .int (nI ((R 0)).length)])), (rb 0, .inl (cI, 18, .inl (rf 0))), (ra 1, .inr (2, [.ref (rb 1), .int (nI ((R 1)).length)])), (rb 1, .inl (cI, 18, .inl (rf 1))), (ra 2, .inr (2, [.ref (rb 2), .int (nI ((R 2)).length)])), (rb 2, .inl (cI, 18, .inl (rf 2)))] (TY cI cV) sz) (va_Qi (fun r (_ : Unit) => inB NV x = true ∧ r = vv x.toNatClampNeg 6) (fun _ _ => True) (NA sz)) (vx_X (fun E => E = "java/lang/IndexOutOfBoundsException" ∧ inB NV x = false) (fun E u _ => E = u) (NA sz)) 1 6 (NA sz) := by
  refine vx_ofW (cc := cX5_setStops) (maxL := 2) (ret := (some .int)) (by decide) rfl ?_
  intro p e s m args below meth c s₁ B hml htb hv
  obtain ⟨rfl, hsz, hP, hK, hN, hXs, hZs⟩ := hv
  have hx := B.exec
  have hb := B.bytes
  have hr := B.returns
  have hts := atoms_spec (ws := (Cond.code yX5_setStops cX5_setStops 2 (some .int) :: TB)) B.pre
  have hown : s.vm.findClass RX5 = some m.cls := findClass_of_methodNamed B.named
  have hlocks := B.notSynchronized
  subst hsz
  have hA : ∀ q : Nat, s.heap.size ≤ q → NA s.heap.size q := fun q h => h
  have hS : va_S (NA s.heap.size) s.heap s.heap [] := va_S.rf
  have hl := lv_entry ([.ref P, .int x]) (n := 2) (Nat.le_of_ble_eq_true rfl)
  rw [lg_entry_eq]
  generalize (lg_sl ([.ref P, .int x]) ++ List.replicate (2 - (lg_sl ([.ref P, .int x])).length) Slot.unset).toArray = ls at hl ⊢
  have hl : lv_has ls 2 [(0, .ref P), (1, .int x)] := hl
  refine lv_aload_n hx hb dX5_setStops_0 rfl (lv_at hl 0 rfl) ?_
  refine lv_iload_n hx hb dX5_setStops_1 rfl (lv_at hl 1 rfl) ?_
  refine k_Xv (ci := 5) (q0 := 0) [.int x] [0] ⟨hx, hb, hml, hown, hts⟩ (fun sz => c_X5_checkVehicle l hlT dC dI cI cV P F G T za fa ia w NP NJ NV hNP hNJ hNV ck bg x sz) q_ml_X5_157 q_im_X5_checkVehicle q_se_X5_checkVehicle q_ini_X5 q_co_X5_checkVehicle (n := 1) (by decide +kernel) rfl ⟨rfl, rfl⟩ ⟨Nat.le_of_ble_eq_true rfl, Nat.le_of_ble_eq_true rfl⟩ hP hS hA hK hN hXs hZs rfl rfl rfl rfl hl.1 rfl (Nat.le_of_ble_eq_true rfl) dX5_setStops_2 ⟨Nat.le_of_ble_eq_true rfl, Nat.le_of_ble_eq_true rfl⟩ (fun E ce q9 H locs hpx hP hS hc1 hc2 hc3 => ?_) (fun H locs hpo hP hS => ?_)
  · exact vx_out (fun x h => (htb x h).elim) hlocks hc1 hc2 hc3 (fun t8 ht9 hW9 => ⟨E, hpx, rfl, hS.F ht9⟩) hS.2.2 (Nat.le_of_ble_eq_true rfl) (Nat.le_of_ble_eq_true rfl)
  have ho_1 := hpo
  have hP : va_P (dC, dI) cls [(P, .inr (5, [.ref F, .ref G, .ref T, .ref za, .ref (ia 0), .ref (ia 1), .ref (ia 2), .int (nI NV), .int bg])), (G, .inl (cV, 3, .inr (.inr (.inr (.inr (fun k => some (vd k))))))), (vd 0, .inr (4, [.int (vv 0 0), .int (vv 0 1), .int (vv 0 2), .int (vv 0 3), .int (vv 0 4), .int (vv 0 5), .int (vv 0 6), .int (vv 0 7), .ref (ra 0), .ref (xa 0), .ref (ya 0)])), (vd 1, .inr (4, [.int (vv 1 0), .int (vv 1 1), .int (vv 1 2), .int (vv 1 3), .int (vv 1 4), .int (vv 1 5), .int (vv 1 6), .int (vv 1 7), .ref (ra 1), .ref (xa 1), .ref (ya 1)])), (vd 2, .inr (4, [.int (vv 2 0), .int (vv 2 1), .int (vv 2 2), .int (vv 2 3), .int (vv 2 4), .int (vv 2 5), .int (vv 2 6), .int (vv 2 7), .ref (ra 2), .ref (xa 2), .ref (ya 2)])), (ra 0, .inr (2, [.ref (rb 0), .int (nI ((R 0)).length)])), (rb 0, .inl (cI, 18, .inl (rf 0))), (ra 1, .inr (2, [.ref (rb 1), .int (nI ((R 1)).length)])), (rb 1, .inl (cI, 18, .inl (rf 1))), (ra 2, .inr (2, [.ref (rb 2), .int (nI ((R 2)).length)])), (rb 2, .inl (cI, 18, .inl (rf 2)))] H := hP
  rcases inB_3 hNV ho_1 with rfl | rfl | rfl
  · refine lv_aload_n hx hb dX5_setStops_5 rfl (lv_at hl 0 rfl) ?_
    refine va_get (D := (dC, dI)) (ci := 5) (v := .ref G) (C := RX5) (T := TX5) (N := 9) hx hb hts (fun w h => tb_in (inX5 w h)) hown hK hP 0 rfl rfl 1 (by decide) (hts _ (tb_in q_fl_X5_18)) (fun _ h9 => h9) rfl dX5_setStops_6 ?_
    refine lv_iload_n hx hb dX5_setStops_9 rfl (lv_at hl 1 rfl) ?_
    refine va_aldq (D := (dC, dI)) hx hb hK hP 1 1 rfl rfl (n := 3) (vp_in_nI (by omega) (by omega)) dX5_setStops_10 ?_
    rw [show va_rf ((fun k => some (vd k)) (nI 0).toNatClampNeg) = .ref (vd 0) by rw [nI_clamp (by omega)]; rfl]
    refine va_get (D := (dC, dI)) (ci := 4) (v := .int (vv 0 6)) (C := RX4) (T := TX4) (N := 11) hx hb hts (fun w h => tb_in (inX4 w h)) hown hK hP 2 rfl rfl 6 (by decide) (hts _ (tb_in q_fl_X5_179)) (fun _ h9 => h9) rfl dX5_setStops_11 ?_
    refine k_wid (k := 1) (n := 6) (Nat.le_of_ble_eq_true rfl) (Nat.le_of_ble_eq_true rfl) (vx_ret ?_)
    exact W.iret (v := vv 0 6) hx hb hr (fun t9 ht9 hW9 => ⟨⟨_, (), rfl, ⟨ho_1, by rw [nI_clamp (n := 0) (by omega)]⟩, trivial⟩, hS.F ht9⟩) hS.2.2 dX5_setStops_14
  · refine lv_aload_n hx hb dX5_setStops_5 rfl (lv_at hl 0 rfl) ?_
    refine va_get (D := (dC, dI)) (ci := 5) (v := .ref G) (C := RX5) (T := TX5) (N := 9) hx hb hts (fun w h => tb_in (inX5 w h)) hown hK hP 0 rfl rfl 1 (by decide) (hts _ (tb_in q_fl_X5_18)) (fun _ h9 => h9) rfl dX5_setStops_6 ?_
    refine lv_iload_n hx hb dX5_setStops_9 rfl (lv_at hl 1 rfl) ?_
    refine va_aldq (D := (dC, dI)) hx hb hK hP 1 1 rfl rfl (n := 3) (vp_in_nI (by omega) (by omega)) dX5_setStops_10 ?_
    rw [show va_rf ((fun k => some (vd k)) (nI 1).toNatClampNeg) = .ref (vd 1) by rw [nI_clamp (by omega)]; rfl]
    refine va_get (D := (dC, dI)) (ci := 4) (v := .int (vv 1 6)) (C := RX4) (T := TX4) (N := 11) hx hb hts (fun w h => tb_in (inX4 w h)) hown hK hP 3 rfl rfl 6 (by decide) (hts _ (tb_in q_fl_X5_179)) (fun _ h9 => h9) rfl dX5_setStops_11 ?_
    refine k_wid (k := 1) (n := 6) (Nat.le_of_ble_eq_true rfl) (Nat.le_of_ble_eq_true rfl) (vx_ret ?_)
    exact W.iret (v := vv 1 6) hx hb hr (fun t9 ht9 hW9 => ⟨⟨_, (), rfl, ⟨ho_1, by rw [nI_clamp (n := 1) (by omega)]⟩, trivial⟩, hS.F ht9⟩) hS.2.2 dX5_setStops_14
  · refine lv_aload_n hx hb dX5_setStops_5 rfl (lv_at hl 0 rfl) ?_
    refine va_get (D := (dC, dI)) (ci := 5) (v := .ref G) (C := RX5) (T := TX5) (N := 9) hx hb hts (fun w h => tb_in (inX5 w h)) hown hK hP 0 rfl rfl 1 (by decide) (hts _ (tb_in q_fl_X5_18)) (fun _ h9 => h9) rfl dX5_setStops_6 ?_
    refine lv_iload_n hx hb dX5_setStops_9 rfl (lv_at hl 1 rfl) ?_
    refine va_aldq (D := (dC, dI)) hx hb hK hP 1 1 rfl rfl (n := 3) (vp_in_nI (by omega) (by omega)) dX5_setStops_10 ?_
    rw [show va_rf ((fun k => some (vd k)) (nI 2).toNatClampNeg) = .ref (vd 2) by rw [nI_clamp (by omega)]; rfl]
    refine va_get (D := (dC, dI)) (ci := 4) (v := .int (vv 2 6)) (C := RX4) (T := TX4) (N := 11) hx hb hts (fun w h => tb_in (inX4 w h)) hown hK hP 4 rfl rfl 6 (by decide) (hts _ (tb_in q_fl_X5_179)) (fun _ h9 => h9) rfl dX5_setStops_11 ?_
    refine k_wid (k := 1) (n := 6) (Nat.le_of_ble_eq_true rfl) (Nat.le_of_ble_eq_true rfl) (vx_ret ?_)
    exact W.iret (v := vv 2 6) hx hb hr (fun t9 ht9 hW9 => ⟨⟨_, (), rfl, ⟨ho_1, by rw [nI_clamp (n := 2) (by omega)]⟩, trivial⟩, hS.F ht9⟩) hS.2.2 dX5_setStops_14
theorem stopB_1 {NV : Nat} {R : Nat → List Int32} {x y : Int32} (h : stopB NV R x y = true) : inB NV x = true := by
  unfold stopB at h; exact (Bool.and_eq_true _ _ ▸ h).1
set_option maxHeartbeats 4000000 in
set_option maxRecDepth 100000 in
theorem c_X5_jobAt (l : Launch) (hlT : l.stackTraces = false) (dC : Nat → ClassId) (dI : Nat → Nat → Nat) (cI cV : ClassId) (P F G T za : Nat) (fa ia : Nat → Nat) (w : Nat → Nat → Int32) (NP NJ NV : Nat) (hNP : NP ≤ 12) (hNJ : NJ ≤ 9) (hNV : NV ≤ 3) (ck bg : Int32) (vd ra rb xa ya : Nat → Nat) (vv : Nat → Nat → Int32) (R : Nat → List Int32) (rf : Nat → Nat → Int32) (hR : ∀ k, rw_ok (R k) (rf k)) (x y : Int32) (sz : Nat) : vx_Met l yX5_jobAt (Cond.code yX5_jobAt cX5_jobAt 3 (some .int) :: TB) ({ frames := 8, cells := 2, slots := 12, locals := 160 } : Room) (PXr [.ref P, .int x, .int y] (dC, dI) [(P, .inr (5, [.ref F, .ref G, .ref T, .ref za, .ref (ia 0), .ref (ia 1), .ref (ia 2), .int (nI NV), .int bg])), (G, .inl (cV, 3, .inr (.inr (.inr (.inr (fun k => some (vd k))))))), (vd 0, .inr (4, [.int (vv 0 0), .int (vv 0 1), .int (vv 0 2), .int (vv 0 3), .int (vv 0 4), .int (vv 0 5), .int (vv 0 6), .int (vv 0 7), .ref (ra 0), .ref (xa 0), .ref (ya 0)])), (vd 1, .inr (4, [.int (vv 1 0), .int (vv 1 1), .int (vv 1 2), .int (vv 1 3), .int (vv 1 4), .int (vv 1 5), .int (vv 1 6), .int (vv 1 7), .ref (ra 1), .ref (xa 1), .ref (ya 1)])), (vd 2, .inr (4, [.int (vv 2 0), .int (vv 2 1), .int (vv 2 2), .int (vv 2 3), .int (vv 2 4), .int (vv 2 5), .int (vv 2 6), .int (vv 2 7), .ref (ra 2), .ref (xa 2), .ref (ya 2)])), (ra 0, .inr (2, [.ref (rb 0), .int (nI ((R 0)).length)])), (rb 0, .inl (cI, 18, .inl (rf 0))), (ra 1, .inr (2, [.ref (rb 1), .int (nI ((R 1)).length)])), (rb 1, .inl (cI, 18, .inl (rf 1))), (ra 2, .inr (2, [.ref (rb 2), .int (nI ((R 2)).length)])), (rb 2, .inl (cI, 18, .inl (rf 2)))] (TY cI cV) sz) (va_Qi (fun r (_ : Unit) => stopB NV R x y = true ∧ r = jOf (rAt (R x.toNatClampNeg) y)) (fun _ _ => True) (NA sz)) (vx_X (fun E => E = "java/lang/IndexOutOfBoundsException" ∧ stopB NV R x y = false) (fun E u _ => E = u) (NA sz)) 2 12 (NA sz) := by
  refine vx_ofW (cc := cX5_jobAt) (maxL := 3) (ret := (some .int)) (by decide) rfl ?_
  intro p e s m args below meth c s₁ B hml htb hv
  obtain ⟨rfl, hsz, hP, hK, hN, hXs, hZs⟩ := hv
  have hx := B.exec
  have hb := B.bytes
  have hr := B.returns
  have hts := atoms_spec (ws := (Cond.code yX5_jobAt cX5_jobAt 3 (some .int) :: TB)) B.pre
  have hown : s.vm.findClass RX5 = some m.cls := findClass_of_methodNamed B.named
  have hlocks := B.notSynchronized
  subst hsz
  have hA : ∀ q : Nat, s.heap.size ≤ q → NA s.heap.size q := fun q h => h
  have hS : va_S (NA s.heap.size) s.heap s.heap [] := va_S.rf
  have hl := lv_entry ([.ref P, .int x, .int y]) (n := 3) (Nat.le_of_ble_eq_true rfl)
  rw [lg_entry_eq]
  generalize (lg_sl ([.ref P, .int x, .int y]) ++ List.replicate (3 - (lg_sl ([.ref P, .int x, .int y])).length) Slot.unset).toArray = ls at hl ⊢
  have hl : lv_has ls 3 [(0, .ref P), (1, .int x), (2, .int y)] := hl
  refine lv_aload_n hx hb dX5_jobAt_0 rfl (lv_at hl 0 rfl) ?_
  refine lv_iload_n hx hb dX5_jobAt_1 rfl (lv_at hl 1 rfl) ?_
  refine lv_iload_n hx hb dX5_jobAt_2 rfl (lv_at hl 2 rfl) ?_
  refine k_Xv (ci := 5) (q0 := 0) [.int x, .int y] [0, 1, 2, 3, 4, 5, 6, 7, 8, 9, 10] ⟨hx, hb, hml, hown, hts⟩ (fun sz => c_X5_checkStop l hlT dC dI cI cV P F G T za fa ia w NP NJ NV hNP hNJ hNV ck bg vd ra rb xa ya vv R rf hR x y sz) q_ml_X5_250 q_im_X5_checkStop q_se_X5_checkStop q_ini_X5 q_co_X5_checkStop (n := 2) (by decide +kernel) rfl ⟨rfl, rfl⟩ ⟨Nat.le_of_ble_eq_true rfl, Nat.le_of_ble_eq_true rfl⟩ hP hS hA hK hN hXs hZs rfl rfl rfl rfl hl.1 rfl (Nat.le_of_ble_eq_true rfl) dX5_jobAt_3 ⟨Nat.le_of_ble_eq_true rfl, Nat.le_of_ble_eq_true rfl⟩ (fun E ce q9 H locs hpx hP hS hc1 hc2 hc3 => ?_) (fun H locs hpo hP hS => ?_)
  · exact vx_out (fun x h => (htb x h).elim) hlocks hc1 hc2 hc3 (fun t8 ht9 hW9 => ⟨E, hpx, rfl, hS.F ht9⟩) hS.2.2 (Nat.le_of_ble_eq_true rfl) (Nat.le_of_ble_eq_true rfl)
  have ho_1 := hpo
  have hP : va_P (dC, dI) cls [(P, .inr (5, [.ref F, .ref G, .ref T, .ref za, .ref (ia 0), .ref (ia 1), .ref (ia 2), .int (nI NV), .int bg])), (G, .inl (cV, 3, .inr (.inr (.inr (.inr (fun k => some (vd k))))))), (vd 0, .inr (4, [.int (vv 0 0), .int (vv 0 1), .int (vv 0 2), .int (vv 0 3), .int (vv 0 4), .int (vv 0 5), .int (vv 0 6), .int (vv 0 7), .ref (ra 0), .ref (xa 0), .ref (ya 0)])), (vd 1, .inr (4, [.int (vv 1 0), .int (vv 1 1), .int (vv 1 2), .int (vv 1 3), .int (vv 1 4), .int (vv 1 5), .int (vv 1 6), .int (vv 1 7), .ref (ra 1), .ref (xa 1), .ref (ya 1)])), (vd 2, .inr (4, [.int (vv 2 0), .int (vv 2 1), .int (vv 2 2), .int (vv 2 3), .int (vv 2 4), .int (vv 2 5), .int (vv 2 6), .int (vv 2 7), .ref (ra 2), .ref (xa 2), .ref (ya 2)])), (ra 0, .inr (2, [.ref (rb 0), .int (nI ((R 0)).length)])), (rb 0, .inl (cI, 18, .inl (rf 0))), (ra 1, .inr (2, [.ref (rb 1), .int (nI ((R 1)).length)])), (rb 1, .inl (cI, 18, .inl (rf 1))), (ra 2, .inr (2, [.ref (rb 2), .int (nI ((R 2)).length)])), (rb 2, .inl (cI, 18, .inl (rf 2)))] H := hP
  rcases inB_3 hNV (stopB_1 ho_1) with rfl | rfl | rfl
  · refine lv_aload_n hx hb dX5_jobAt_6 rfl (lv_at hl 0 rfl) ?_
    refine va_get (D := (dC, dI)) (ci := 5) (v := .ref G) (C := RX5) (T := TX5) (N := 9) hx hb hts (fun w h => tb_in (inX5 w h)) hown hK hP 0 rfl rfl 1 (by decide) (hts _ (tb_in q_fl_X5_18)) (fun _ h9 => h9) rfl dX5_jobAt_7 ?_
    refine lv_iload_n hx hb dX5_jobAt_10 rfl (lv_at hl 1 rfl) ?_
    refine va_aldq (D := (dC, dI)) hx hb hK hP 1 1 rfl rfl (n := 3) (vp_in_nI (by omega) (by omega)) dX5_jobAt_11 ?_
    rw [show va_rf ((fun k => some (vd k)) (nI 0).toNatClampNeg) = .ref (vd 0) by rw [nI_clamp (by omega)]; rfl]
    refine va_get (D := (dC, dI)) (ci := 4) (v := .ref (ra 0)) (C := RX4) (T := TX4) (N := 11) hx hb hts (fun w h => tb_in (inX4 w h)) hown hK hP 2 rfl rfl 8 (by decide) (hts _ (tb_in q_fl_X5_160)) (fun _ h9 => h9) rfl dX5_jobAt_12 ?_
    refine lv_iload_n hx hb dX5_jobAt_15 rfl (lv_at hl 2 rfl) ?_
    refine k_Vi (ci := 2) (q0 := 0) [.int y] ⟨hx, hb, hml, hown, hts⟩ (c_X2_at l dC dI cI cV (ra 0) (rb 0) (R 0) (rf 0) (hR 0) y) q_ml_X5_253 q_im_X2_at q_se_X2_at q_ini_X2 q_co_X2_at (n := 1) (by decide +kernel) rfl ⟨rfl, rfl⟩ ⟨Nat.le_of_ble_eq_true rfl, Nat.le_of_ble_eq_true rfl⟩ (hP.sub [5, 6] rfl) hK hN rfl rfl rfl hl.1 rfl (Nat.le_of_ble_eq_true rfl) dX5_jobAt_16 ⟨Nat.le_of_ble_eq_true rfl, Nat.le_of_ble_eq_true rfl⟩ (fun r_2 hr_2 => ?_)
    subst hr_2
    refine k_Ti [.int (rAt (R 0) y)] ⟨hx, hb, hml, hown, hts⟩ (c_X5_jobOf l (rAt (R 0) y)) q_ml_X5_256 q_st_X5_jobOf q_ini_X5 q_co_X5_jobOf (n := 1) (by decide +kernel) rfl ⟨rfl, rfl⟩ ⟨Nat.le_of_ble_eq_true rfl, Nat.le_of_ble_eq_true rfl⟩ hl.1 rfl (Nat.le_of_ble_eq_true rfl) dX5_jobAt_19 ⟨Nat.le_of_ble_eq_true rfl, Nat.le_of_ble_eq_true rfl⟩ (fun r_3 hr_3 => ?_)
    subst hr_3
    refine k_wid (k := 2) (n := 12) (Nat.le_of_ble_eq_true rfl) (Nat.le_of_ble_eq_true rfl) (vx_ret ?_)
    exact W.iret (v := jOf (rAt (R 0) y)) hx hb hr (fun t9 ht9 hW9 => ⟨⟨_, (), rfl, ⟨ho_1, by rw [nI_clamp (n := 0) (by omega)]⟩, trivial⟩, hS.F ht9⟩) hS.2.2 dX5_jobAt_22
  · refine lv_aload_n hx hb dX5_jobAt_6 rfl (lv_at hl 0 rfl) ?_
    refine va_get (D := (dC, dI)) (ci := 5) (v := .ref G) (C := RX5) (T := TX5) (N := 9) hx hb hts (fun w h => tb_in (inX5 w h)) hown hK hP 0 rfl rfl 1 (by decide) (hts _ (tb_in q_fl_X5_18)) (fun _ h9 => h9) rfl dX5_jobAt_7 ?_
    refine lv_iload_n hx hb dX5_jobAt_10 rfl (lv_at hl 1 rfl) ?_
    refine va_aldq (D := (dC, dI)) hx hb hK hP 1 1 rfl rfl (n := 3) (vp_in_nI (by omega) (by omega)) dX5_jobAt_11 ?_
    rw [show va_rf ((fun k => some (vd k)) (nI 1).toNatClampNeg) = .ref (vd 1) by rw [nI_clamp (by omega)]; rfl]
    refine va_get (D := (dC, dI)) (ci := 4) (v := .ref (ra 1)) (C := RX4) (T := TX4) (N := 11) hx hb hts (fun w h => tb_in (inX4 w h)) hown hK hP 3 rfl rfl 8 (by decide) (hts _ (tb_in q_fl_X5_160)) (fun _ h9 => h9) rfl dX5_jobAt_12 ?_
    refine lv_iload_n hx hb dX5_jobAt_15 rfl (lv_at hl 2 rfl) ?_
    refine k_Vi (ci := 2) (q0 := 0) [.int y] ⟨hx, hb, hml, hown, hts⟩ (c_X2_at l dC dI cI cV (ra 1) (rb 1) (R 1) (rf 1) (hR 1) y) q_ml_X5_253 q_im_X2_at q_se_X2_at q_ini_X2 q_co_X2_at (n := 1) (by decide +kernel) rfl ⟨rfl, rfl⟩ ⟨Nat.le_of_ble_eq_true rfl, Nat.le_of_ble_eq_true rfl⟩ (hP.sub [7, 8] rfl) hK hN rfl rfl rfl hl.1 rfl (Nat.le_of_ble_eq_true rfl) dX5_jobAt_16 ⟨Nat.le_of_ble_eq_true rfl, Nat.le_of_ble_eq_true rfl⟩ (fun r_4 hr_4 => ?_)
    subst hr_4
    refine k_Ti [.int (rAt (R 1) y)] ⟨hx, hb, hml, hown, hts⟩ (c_X5_jobOf l (rAt (R 1) y)) q_ml_X5_256 q_st_X5_jobOf q_ini_X5 q_co_X5_jobOf (n := 1) (by decide +kernel) rfl ⟨rfl, rfl⟩ ⟨Nat.le_of_ble_eq_true rfl, Nat.le_of_ble_eq_true rfl⟩ hl.1 rfl (Nat.le_of_ble_eq_true rfl) dX5_jobAt_19 ⟨Nat.le_of_ble_eq_true rfl, Nat.le_of_ble_eq_true rfl⟩ (fun r_5 hr_5 => ?_)
    subst hr_5
    refine k_wid (k := 2) (n := 12) (Nat.le_of_ble_eq_true rfl) (Nat.le_of_ble_eq_true rfl) (vx_ret ?_)
    exact W.iret (v := jOf (rAt (R 1) y)) hx hb hr (fun t9 ht9 hW9 => ⟨⟨_, (), rfl, ⟨ho_1, by rw [nI_clamp (n := 1) (by omega)]⟩, trivial⟩, hS.F ht9⟩) hS.2.2 dX5_jobAt_22
  · refine lv_aload_n hx hb dX5_jobAt_6 rfl (lv_at hl 0 rfl) ?_
    refine va_get (D := (dC, dI)) (ci := 5) (v := .ref G) (C := RX5) (T := TX5) (N := 9) hx hb hts (fun w h => tb_in (inX5 w h)) hown hK hP 0 rfl rfl 1 (by decide) (hts _ (tb_in q_fl_X5_18)) (fun _ h9 => h9) rfl dX5_jobAt_7 ?_
    refine lv_iload_n hx hb dX5_jobAt_10 rfl (lv_at hl 1 rfl) ?_
    refine va_aldq (D := (dC, dI)) hx hb hK hP 1 1 rfl rfl (n := 3) (vp_in_nI (by omega) (by omega)) dX5_jobAt_11 ?_
    rw [show va_rf ((fun k => some (vd k)) (nI 2).toNatClampNeg) = .ref (vd 2) by rw [nI_clamp (by omega)]; rfl]
    refine va_get (D := (dC, dI)) (ci := 4) (v := .ref (ra 2)) (C := RX4) (T := TX4) (N := 11) hx hb hts (fun w h => tb_in (inX4 w h)) hown hK hP 4 rfl rfl 8 (by decide) (hts _ (tb_in q_fl_X5_160)) (fun _ h9 => h9) rfl dX5_jobAt_12 ?_
    refine lv_iload_n hx hb dX5_jobAt_15 rfl (lv_at hl 2 rfl) ?_
    refine k_Vi (ci := 2) (q0 := 0) [.int y] ⟨hx, hb, hml, hown, hts⟩ (c_X2_at l dC dI cI cV (ra 2) (rb 2) (R 2) (rf 2) (hR 2) y) q_ml_X5_253 q_im_X2_at q_se_X2_at q_ini_X2 q_co_X2_at (n := 1) (by decide +kernel) rfl ⟨rfl, rfl⟩ ⟨Nat.le_of_ble_eq_true rfl, Nat.le_of_ble_eq_true rfl⟩ (hP.sub [9, 10] rfl) hK hN rfl rfl rfl hl.1 rfl (Nat.le_of_ble_eq_true rfl) dX5_jobAt_16 ⟨Nat.le_of_ble_eq_true rfl, Nat.le_of_ble_eq_true rfl⟩ (fun r_6 hr_6 => ?_)
    subst hr_6
    refine k_Ti [.int (rAt (R 2) y)] ⟨hx, hb, hml, hown, hts⟩ (c_X5_jobOf l (rAt (R 2) y)) q_ml_X5_256 q_st_X5_jobOf q_ini_X5 q_co_X5_jobOf (n := 1) (by decide +kernel) rfl ⟨rfl, rfl⟩ ⟨Nat.le_of_ble_eq_true rfl, Nat.le_of_ble_eq_true rfl⟩ hl.1 rfl (Nat.le_of_ble_eq_true rfl) dX5_jobAt_19 ⟨Nat.le_of_ble_eq_true rfl, Nat.le_of_ble_eq_true rfl⟩ (fun r_7 hr_7 => ?_)
    subst hr_7
    refine k_wid (k := 2) (n := 12) (Nat.le_of_ble_eq_true rfl) (Nat.le_of_ble_eq_true rfl) (vx_ret ?_)
    exact W.iret (v := jOf (rAt (R 2) y)) hx hb hr (fun t9 ht9 hW9 => ⟨⟨_, (), rfl, ⟨ho_1, by rw [nI_clamp (n := 2) (by omega)]⟩, trivial⟩, hS.F ht9⟩) hS.2.2 dX5_jobAt_22
set_option maxHeartbeats 4000000 in
set_option maxRecDepth 100000 in
theorem c_X5_isFetched (l : Launch) (hlT : l.stackTraces = false) (dC : Nat → ClassId) (dI : Nat → Nat → Nat) (cI cV : ClassId) (P F G T za : Nat) (fa ia : Nat → Nat) (w : Nat → Nat → Int32) (NP NJ NV : Nat) (hNP : NP ≤ 12) (hNJ : NJ ≤ 9) (hNV : NV ≤ 3) (ck bg : Int32) (vd ra rb xa ya : Nat → Nat) (vv : Nat → Nat → Int32) (R : Nat → List Int32) (rf : Nat → Nat → Int32) (hR : ∀ k, rw_ok (R k) (rf k)) (x y : Int32) (sz : Nat) : vx_Met l yX5_isFetched (Cond.code yX5_isFetched cX5_isFetched 3 (some .boolean) :: TB) ({ frames := 8, cells := 2, slots := 12, locals := 160 } : Room) (PXr [.ref P, .int x, .int y] (dC, dI) [(P, .inr (5, [.ref F, .ref G, .ref T, .ref za, .ref (ia 0), .ref (ia 1), .ref (ia 2), .int (nI NV), .int bg])), (G, .inl (cV, 3, .inr (.inr (.inr (.inr (fun k => some (vd k))))))), (vd 0, .inr (4, [.int (vv 0 0), .int (vv 0 1), .int (vv 0 2), .int (vv 0 3), .int (vv 0 4), .int (vv 0 5), .int (vv 0 6), .int (vv 0 7), .ref (ra 0), .ref (xa 0), .ref (ya 0)])), (vd 1, .inr (4, [.int (vv 1 0), .int (vv 1 1), .int (vv 1 2), .int (vv 1 3), .int (vv 1 4), .int (vv 1 5), .int (vv 1 6), .int (vv 1 7), .ref (ra 1), .ref (xa 1), .ref (ya 1)])), (vd 2, .inr (4, [.int (vv 2 0), .int (vv 2 1), .int (vv 2 2), .int (vv 2 3), .int (vv 2 4), .int (vv 2 5), .int (vv 2 6), .int (vv 2 7), .ref (ra 2), .ref (xa 2), .ref (ya 2)])), (ra 0, .inr (2, [.ref (rb 0), .int (nI ((R 0)).length)])), (rb 0, .inl (cI, 18, .inl (rf 0))), (ra 1, .inr (2, [.ref (rb 1), .int (nI ((R 1)).length)])), (rb 1, .inl (cI, 18, .inl (rf 1))), (ra 2, .inr (2, [.ref (rb 2), .int (nI ((R 2)).length)])), (rb 2, .inl (cI, 18, .inl (rf 2)))] (TY cI cV) sz) (va_Qi (fun r (_ : Unit) => stopB NV R x y = true ∧ r = b01 (isF (rAt (R x.toNatClampNeg) y))) (fun _ _ => True) (NA sz)) (vx_X (fun E => E = "java/lang/IndexOutOfBoundsException" ∧ stopB NV R x y = false) (fun E u _ => E = u) (NA sz)) 2 12 (NA sz) := by
  refine vx_ofW (cc := cX5_isFetched) (maxL := 3) (ret := (some .boolean)) (by decide) rfl ?_
  intro p e s m args below meth c s₁ B hml htb hv
  obtain ⟨rfl, hsz, hP, hK, hN, hXs, hZs⟩ := hv
  have hx := B.exec
  have hb := B.bytes
  have hr := B.returns
  have hts := atoms_spec (ws := (Cond.code yX5_isFetched cX5_isFetched 3 (some .boolean) :: TB)) B.pre
  have hown : s.vm.findClass RX5 = some m.cls := findClass_of_methodNamed B.named
  have hlocks := B.notSynchronized
  subst hsz
  have hA : ∀ q : Nat, s.heap.size ≤ q → NA s.heap.size q := fun q h => h
  have hS : va_S (NA s.heap.size) s.heap s.heap [] := va_S.rf
  have hl := lv_entry ([.ref P, .int x, .int y]) (n := 3) (Nat.le_of_ble_eq_true rfl)
  rw [lg_entry_eq]
  generalize (lg_sl ([.ref P, .int x, .int y]) ++ List.replicate (3 - (lg_sl ([.ref P, .int x, .int y])).length) Slot.unset).toArray = ls at hl ⊢
  have hl : lv_has ls 3 [(0, .ref P), (1, .int x), (2, .int y)] := hl
  refine lv_aload_n hx hb dX5_isFetched_0 rfl (lv_at hl 0 rfl) ?_
  refine lv_iload_n hx hb dX5_isFetched_1 rfl (lv_at hl 1 rfl) ?_
  refine lv_iload_n hx hb dX5_isFetched_2 rfl (lv_at hl 2 rfl) ?_
  refine k_Xv (ci := 5) (q0 := 0) [.int x, .int y] [0, 1, 2, 3, 4, 5, 6, 7, 8, 9, 10] ⟨hx, hb, hml, hown, hts⟩ (fun sz => c_X5_checkStop l hlT dC dI cI cV P F G T za fa ia w NP NJ NV hNP hNJ hNV ck bg vd ra rb xa ya vv R rf hR x y sz) q_ml_X5_250 q_im_X5_checkStop q_se_X5_checkStop q_ini_X5 q_co_X5_checkStop (n := 2) (by decide +kernel) rfl ⟨rfl, rfl⟩ ⟨Nat.le_of_ble_eq_true rfl, Nat.le_of_ble_eq_true rfl⟩ hP hS hA hK hN hXs hZs rfl rfl rfl rfl hl.1 rfl (Nat.le_of_ble_eq_true rfl) dX5_isFetched_3 ⟨Nat.le_of_ble_eq_true rfl, Nat.le_of_ble_eq_true rfl⟩ (fun E ce q9 H locs hpx hP hS hc1 hc2 hc3 => ?_) (fun H locs hpo hP hS => ?_)
  · exact vx_out (fun x h => (htb x h).elim) hlocks hc1 hc2 hc3 (fun t8 ht9 hW9 => ⟨E, hpx, rfl, hS.F ht9⟩) hS.2.2 (Nat.le_of_ble_eq_true rfl) (Nat.le_of_ble_eq_true rfl)
  have ho_1 := hpo
  have hP : va_P (dC, dI) cls [(P, .inr (5, [.ref F, .ref G, .ref T, .ref za, .ref (ia 0), .ref (ia 1), .ref (ia 2), .int (nI NV), .int bg])), (G, .inl (cV, 3, .inr (.inr (.inr (.inr (fun k => some (vd k))))))), (vd 0, .inr (4, [.int (vv 0 0), .int (vv 0 1), .int (vv 0 2), .int (vv 0 3), .int (vv 0 4), .int (vv 0 5), .int (vv 0 6), .int (vv 0 7), .ref (ra 0), .ref (xa 0), .ref (ya 0)])), (vd 1, .inr (4, [.int (vv 1 0), .int (vv 1 1), .int (vv 1 2), .int (vv 1 3), .int (vv 1 4), .int (vv 1 5), .int (vv 1 6), .int (vv 1 7), .ref (ra 1), .ref (xa 1), .ref (ya 1)])), (vd 2, .inr (4, [.int (vv 2 0), .int (vv 2 1), .int (vv 2 2), .int (vv 2 3), .int (vv 2 4), .int (vv 2 5), .int (vv 2 6), .int (vv 2 7), .ref (ra 2), .ref (xa 2), .ref (ya 2)])), (ra 0, .inr (2, [.ref (rb 0), .int (nI ((R 0)).length)])), (rb 0, .inl (cI, 18, .inl (rf 0))), (ra 1, .inr (2, [.ref (rb 1), .int (nI ((R 1)).length)])), (rb 1, .inl (cI, 18, .inl (rf 1))), (ra 2, .inr (2, [.ref (rb 2), .int (nI ((R 2)).length)])), (rb 2, .inl (cI, 18, .inl (rf 2)))] H := hP
  rcases inB_3 hNV (stopB_1 ho_1) with rfl | rfl | rfl
  · refine lv_aload_n hx hb dX5_isFetched_6 rfl (lv_at hl 0 rfl) ?_
    refine va_get (D := (dC, dI)) (ci := 5) (v := .ref G) (C := RX5) (T := TX5) (N := 9) hx hb hts (fun w h => tb_in (inX5 w h)) hown hK hP 0 rfl rfl 1 (by decide) (hts _ (tb_in q_fl_X5_18)) (fun _ h9 => h9) rfl dX5_isFetched_7 ?_
    refine lv_iload_n hx hb dX5_isFetched_10 rfl (lv_at hl 1 rfl) ?_
    refine va_aldq (D := (dC, dI)) hx hb hK hP 1 1 rfl rfl (n := 3) (vp_in_nI (by omega) (by omega)) dX5_isFetched_11 ?_
    rw [show va_rf ((fun k => some (vd k)) (nI 0).toNatClampNeg) = .ref (vd 0) by rw [nI_clamp (by omega)]; rfl]
    refine va_get (D := (dC, dI)) (ci := 4) (v := .ref (ra 0)) (C := RX4) (T := TX4) (N := 11) hx hb hts (fun w h => tb_in (inX4 w h)) hown hK hP 2 rfl rfl 8 (by decide) (hts _ (tb_in q_fl_X5_160)) (fun _ h9 => h9) rfl dX5_isFetched_12 ?_
    refine lv_iload_n hx hb dX5_isFetched_15 rfl (lv_at hl 2 rfl) ?_
    refine k_Vi (ci := 2) (q0 := 0) [.int y] ⟨hx, hb, hml, hown, hts⟩ (c_X2_at l dC dI cI cV (ra 0) (rb 0) (R 0) (rf 0) (hR 0) y) q_ml_X5_253 q_im_X2_at q_se_X2_at q_ini_X2 q_co_X2_at (n := 1) (by decide +kernel) rfl ⟨rfl, rfl⟩ ⟨Nat.le_of_ble_eq_true rfl, Nat.le_of_ble_eq_true rfl⟩ (hP.sub [5, 6] rfl) hK hN rfl rfl rfl hl.1 rfl (Nat.le_of_ble_eq_true rfl) dX5_isFetched_16 ⟨Nat.le_of_ble_eq_true rfl, Nat.le_of_ble_eq_true rfl⟩ (fun r_2 hr_2 => ?_)
    subst hr_2
    refine k_Ti [.int (rAt (R 0) y)] ⟨hx, hb, hml, hown, hts⟩ (c_X5_isFetch l (rAt (R 0) y)) q_ml_X5_259 q_st_X5_isFetch q_ini_X5 q_co_X5_isFetch (n := 1) (by decide +kernel) rfl ⟨rfl, rfl⟩ ⟨Nat.le_of_ble_eq_true rfl, Nat.le_of_ble_eq_true rfl⟩ hl.1 rfl (Nat.le_of_ble_eq_true rfl) dX5_isFetched_19 ⟨Nat.le_of_ble_eq_true rfl, Nat.le_of_ble_eq_true rfl⟩ (fun r_3 hr_3 => ?_)
    subst hr_3
    refine k_wid (k := 2) (n := 12) (Nat.le_of_ble_eq_true rfl) (Nat.le_of_ble_eq_true rfl) (vx_ret ?_)
    exact W.zret (v := b01 (isF (rAt (R 0) y))) hx hb hr (b01_nar _) (fun t9 ht9 hW9 => ⟨⟨_, (), rfl, ⟨ho_1, by rw [nI_clamp (n := 0) (by omega)]⟩, trivial⟩, hS.F ht9⟩) hS.2.2 dX5_isFetched_22
  · refine lv_aload_n hx hb dX5_isFetched_6 rfl (lv_at hl 0 rfl) ?_
    refine va_get (D := (dC, dI)) (ci := 5) (v := .ref G) (C := RX5) (T := TX5) (N := 9) hx hb hts (fun w h => tb_in (inX5 w h)) hown hK hP 0 rfl rfl 1 (by decide) (hts _ (tb_in q_fl_X5_18)) (fun _ h9 => h9) rfl dX5_isFetched_7 ?_
    refine lv_iload_n hx hb dX5_isFetched_10 rfl (lv_at hl 1 rfl) ?_
    refine va_aldq (D := (dC, dI)) hx hb hK hP 1 1 rfl rfl (n := 3) (vp_in_nI (by omega) (by omega)) dX5_isFetched_11 ?_
    rw [show va_rf ((fun k => some (vd k)) (nI 1).toNatClampNeg) = .ref (vd 1) by rw [nI_clamp (by omega)]; rfl]
    refine va_get (D := (dC, dI)) (ci := 4) (v := .ref (ra 1)) (C := RX4) (T := TX4) (N := 11) hx hb hts (fun w h => tb_in (inX4 w h)) hown hK hP 3 rfl rfl 8 (by decide) (hts _ (tb_in q_fl_X5_160)) (fun _ h9 => h9) rfl dX5_isFetched_12 ?_
    refine lv_iload_n hx hb dX5_isFetched_15 rfl (lv_at hl 2 rfl) ?_
    refine k_Vi (ci := 2) (q0 := 0) [.int y] ⟨hx, hb, hml, hown, hts⟩ (c_X2_at l dC dI cI cV (ra 1) (rb 1) (R 1) (rf 1) (hR 1) y) q_ml_X5_253 q_im_X2_at q_se_X2_at q_ini_X2 q_co_X2_at (n := 1) (by decide +kernel) rfl ⟨rfl, rfl⟩ ⟨Nat.le_of_ble_eq_true rfl, Nat.le_of_ble_eq_true rfl⟩ (hP.sub [7, 8] rfl) hK hN rfl rfl rfl hl.1 rfl (Nat.le_of_ble_eq_true rfl) dX5_isFetched_16 ⟨Nat.le_of_ble_eq_true rfl, Nat.le_of_ble_eq_true rfl⟩ (fun r_4 hr_4 => ?_)
    subst hr_4
    refine k_Ti [.int (rAt (R 1) y)] ⟨hx, hb, hml, hown, hts⟩ (c_X5_isFetch l (rAt (R 1) y)) q_ml_X5_259 q_st_X5_isFetch q_ini_X5 q_co_X5_isFetch (n := 1) (by decide +kernel) rfl ⟨rfl, rfl⟩ ⟨Nat.le_of_ble_eq_true rfl, Nat.le_of_ble_eq_true rfl⟩ hl.1 rfl (Nat.le_of_ble_eq_true rfl) dX5_isFetched_19 ⟨Nat.le_of_ble_eq_true rfl, Nat.le_of_ble_eq_true rfl⟩ (fun r_5 hr_5 => ?_)
    subst hr_5
    refine k_wid (k := 2) (n := 12) (Nat.le_of_ble_eq_true rfl) (Nat.le_of_ble_eq_true rfl) (vx_ret ?_)
    exact W.zret (v := b01 (isF (rAt (R 1) y))) hx hb hr (b01_nar _) (fun t9 ht9 hW9 => ⟨⟨_, (), rfl, ⟨ho_1, by rw [nI_clamp (n := 1) (by omega)]⟩, trivial⟩, hS.F ht9⟩) hS.2.2 dX5_isFetched_22
  · refine lv_aload_n hx hb dX5_isFetched_6 rfl (lv_at hl 0 rfl) ?_
    refine va_get (D := (dC, dI)) (ci := 5) (v := .ref G) (C := RX5) (T := TX5) (N := 9) hx hb hts (fun w h => tb_in (inX5 w h)) hown hK hP 0 rfl rfl 1 (by decide) (hts _ (tb_in q_fl_X5_18)) (fun _ h9 => h9) rfl dX5_isFetched_7 ?_
    refine lv_iload_n hx hb dX5_isFetched_10 rfl (lv_at hl 1 rfl) ?_
    refine va_aldq (D := (dC, dI)) hx hb hK hP 1 1 rfl rfl (n := 3) (vp_in_nI (by omega) (by omega)) dX5_isFetched_11 ?_
    rw [show va_rf ((fun k => some (vd k)) (nI 2).toNatClampNeg) = .ref (vd 2) by rw [nI_clamp (by omega)]; rfl]
    refine va_get (D := (dC, dI)) (ci := 4) (v := .ref (ra 2)) (C := RX4) (T := TX4) (N := 11) hx hb hts (fun w h => tb_in (inX4 w h)) hown hK hP 4 rfl rfl 8 (by decide) (hts _ (tb_in q_fl_X5_160)) (fun _ h9 => h9) rfl dX5_isFetched_12 ?_
    refine lv_iload_n hx hb dX5_isFetched_15 rfl (lv_at hl 2 rfl) ?_
    refine k_Vi (ci := 2) (q0 := 0) [.int y] ⟨hx, hb, hml, hown, hts⟩ (c_X2_at l dC dI cI cV (ra 2) (rb 2) (R 2) (rf 2) (hR 2) y) q_ml_X5_253 q_im_X2_at q_se_X2_at q_ini_X2 q_co_X2_at (n := 1) (by decide +kernel) rfl ⟨rfl, rfl⟩ ⟨Nat.le_of_ble_eq_true rfl, Nat.le_of_ble_eq_true rfl⟩ (hP.sub [9, 10] rfl) hK hN rfl rfl rfl hl.1 rfl (Nat.le_of_ble_eq_true rfl) dX5_isFetched_16 ⟨Nat.le_of_ble_eq_true rfl, Nat.le_of_ble_eq_true rfl⟩ (fun r_6 hr_6 => ?_)
    subst hr_6
    refine k_Ti [.int (rAt (R 2) y)] ⟨hx, hb, hml, hown, hts⟩ (c_X5_isFetch l (rAt (R 2) y)) q_ml_X5_259 q_st_X5_isFetch q_ini_X5 q_co_X5_isFetch (n := 1) (by decide +kernel) rfl ⟨rfl, rfl⟩ ⟨Nat.le_of_ble_eq_true rfl, Nat.le_of_ble_eq_true rfl⟩ hl.1 rfl (Nat.le_of_ble_eq_true rfl) dX5_isFetched_19 ⟨Nat.le_of_ble_eq_true rfl, Nat.le_of_ble_eq_true rfl⟩ (fun r_7 hr_7 => ?_)
    subst hr_7
    refine k_wid (k := 2) (n := 12) (Nat.le_of_ble_eq_true rfl) (Nat.le_of_ble_eq_true rfl) (vx_ret ?_)
    exact W.zret (v := b01 (isF (rAt (R 2) y))) hx hb hr (b01_nar _) (fun t9 ht9 hW9 => ⟨⟨_, (), rfl, ⟨ho_1, by rw [nI_clamp (n := 2) (by omega)]⟩, trivial⟩, hS.F ht9⟩) hS.2.2 dX5_isFetched_22
