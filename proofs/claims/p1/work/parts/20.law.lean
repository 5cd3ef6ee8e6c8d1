set_option maxHeartbeats 4000000 in
set_option maxRecDepth 100000 in
theorem whole_start {p : Program} {e : Env} {s : State} {m : MethodId} {below : List Frame} {meth : Method} {c : Code} (l : Launch) (hflags : l.flags = flags0) {b L : Nat} {xs : Nat → Int32} (hL : L ≤ 7) (C0 : lw_At p s m meth c b L xs) : W p l e room_1 s m #[Value.ref b] below meth c s.heap [] 0 0 (lw_Z below #[Value.ref b] s) (entryFrame m ([Value.ref b] : List Value).toArray 9) := by
  have hlT : l.stackTraces = false := by rw [Launch.stackTraces, hflags]; decide +kernel
  obtain ⟨hx, hb, hr, hml, hown, hts0, hX, hbl, hlocks, hgv⟩ := id C0
  have hts := st_tt hts0
  have hN := st_N hts0
  have hXs := st_X hts0 hgv
  have hZs := st_Z hts0 hgv
  have hown : s.vm.findClass RL = some m.cls := hown
  obtain ⟨A, hAe⟩ : ∃ A, NA s.heap.size = A := ⟨_, rfl⟩
  rw [hAe] at hZs
  have hA : ∀ q : Nat, s.heap.size ≤ q → A q := fun q h => by rw [← hAe]; exact h
  have hbA : ¬ A b := by rw [← hAe]; exact Nat.not_le.mpr hbl
  obtain ⟨dC, dI, cI, cV, cJ, cL, hK⟩ := st_K hts0
  have hS : va_S A s.heap s.heap [] := va_S.rf
  have hP : va_P (dC, dI) cls [] s.heap := va_P_nil
  have hD : va_D A [] := va_D_nil
  have hl := lv_entry ([.ref b]) (n := 9) (Nat.le_of_ble_eq_true rfl)
  rw [lg_entry_eq]
  generalize (lg_sl ([.ref b]) ++ List.replicate (9 - (lg_sl ([.ref b])).length) Slot.unset).toArray = ls at hl ⊢
  have hl : lv_has ls 9 [(0, .ref b)] := hl
  refine va_new (ci := 5) (fs := [.null, .null, .null, .null, .null, .null, .null, .int 0, .int 0]) (C := RX5) (T := TX5) (N := 9) hx hb hts (fun w h => tb_in (inX5 w h)) tyX5 tyX5_ok hown (hts _ (tb_in q_cl_L_8)) (hts _ (tb_in q_in_X5)) (hts _ (tb_in q_ini_X5)) hK hP hD hS hA rfl (fun j hj => by rcases (show j = 0 ∨ j = 1 ∨ j = 2 ∨ j = 3 ∨ j = 4 ∨ j = 5 ∨ j = 6 ∨ j = 7 ∨ j = 8 by omega) with rfl | rfl | rfl | rfl | rfl | rfl | rfl | rfl | rfl <;> rfl) (Nat.le_of_ble_eq_true rfl) (Nat.le_of_ble_eq_true rfl) dL_law_0 (fun q_1 H hP hD hS => ?_)
  have hP : va_P (dC, dI) cls [(q_1, .inr (5, [.null, .null, .null, .null, .null, .null, .null, .int 0, .int 0]))] H := hP
  have hD : va_D A [(q_1, .inr (5, [.null, .null, .null, .null, .null, .null, .null, .int 0, .int 0]))] := hD
  refine lv_dup hx hb dL_law_3 rfl ?_
  refine n_Iv (wc := [(q_1, .inr (5, [.null, .null, .null, .null, .null, .null, .null, .int 0, .int 0]))]) (wr := []) [] [0] [] ⟨hx, hb, hml, hown, hts⟩ (fun sz => c_X5_init l dC dI cI cV cJ cL q_1 sz) q_ml_L_120 q_im_X5_init q_ini_X5 q_co_X5_init rfl (n := 0) (by decide +kernel) rfl ⟨rfl, rfl⟩ ⟨Nat.le_of_ble_eq_true rfl, Nat.le_of_ble_eq_true rfl⟩ hP hD hS hA hK hN rfl rfl (by decide) (by decide) (by decide) hl.1 rfl (Nat.le_of_ble_eq_true rfl) dL_law_4 ⟨Nat.le_of_ble_eq_true rfl, Nat.le_of_ble_eq_true rfl⟩ (fun u_2 H locs hu_2 hP hD hS => ?_)
  have hP : va_P (dC, dI) cls [(q_1, .inr (5, [.ref ((u_2 0)), .ref ((u_2 10)), .ref ((u_2 11)), .ref ((u_2 12)), .ref ((u_2 13)), .ref ((u_2 14)), .ref ((u_2 15)), .int 0, .int 0])), ((u_2 0), .inr (0, [.ref ((u_2 1)), .ref ((u_2 2)), .ref ((u_2 3)), .ref ((u_2 4)), .ref ((u_2 5)), .ref ((u_2 6)), .ref ((u_2 7)), .ref ((u_2 8)), .ref ((u_2 9)), .int 0, .int 0, .int 0])), ((u_2 1), .inl (cI, 12, .inl (fun _ => 0))), ((u_2 2), .inl (cI, 12, .inl (fun _ => 0))), ((u_2 3), .inl (cI, 144, .inl (fun _ => 0))), ((u_2 4), .inl (cI, 9, .inl (fun _ => 0))), ((u_2 5), .inl (cI, 18, .inl (fun _ => 0))), ((u_2 6), .inl (cI, 18, .inl (fun _ => 0))), ((u_2 7), .inl (cI, 18, .inl (fun _ => 0))), ((u_2 8), .inl (cI, 18, .inl (fun _ => 0))), ((u_2 9), .inl (cI, 18, .inl (fun _ => 0))), ((u_2 11), .inr (3, [.int 0, .int 0, .int 0, .int 0, .int 0, .int 0, .int 0, .int 0, .int 0, .int 0])), ((u_2 13), .inr (1, [.int 0, .int 0, .int 0, .int 0, .int 0, .int 0])), ((u_2 14), .inr (1, [.int 0, .int 0, .int 0, .int 0, .int 0, .int 0])), ((u_2 15), .inr (1, [.int 0, .int 0, .int 0, .int 0, .int 0, .int 0]))] H := hP
  have hD : va_D A [(q_1, .inr (5, [.ref ((u_2 0)), .ref ((u_2 10)), .ref ((u_2 11)), .ref ((u_2 12)), .ref ((u_2 13)), .ref ((u_2 14)), .ref ((u_2 15)), .int 0, .int 0])), ((u_2 0), .inr (0, [.ref ((u_2 1)), .ref ((u_2 2)), .ref ((u_2 3)), .ref ((u_2 4)), .ref ((u_2 5)), .ref ((u_2 6)), .ref ((u_2 7)), .ref ((u_2 8)), .ref ((u_2 9)), .int 0, .int 0, .int 0])), ((u_2 1), .inl (cI, 12, .inl (fun _ => 0))), ((u_2 2), .inl (cI, 12, .inl (fun _ => 0))), ((u_2 3), .inl (cI, 144, .inl (fun _ => 0))), ((u_2 4), .inl (cI, 9, .inl (fun _ => 0))), ((u_2 5), .inl (cI, 18, .inl (fun _ => 0))), ((u_2 6), .inl (cI, 18, .inl (fun _ => 0))), ((u_2 7), .inl (cI, 18, .inl (fun _ => 0))), ((u_2 8), .inl (cI, 18, .inl (fun _ => 0))), ((u_2 9), .inl (cI, 18, .inl (fun _ => 0))), ((u_2 11), .inr (3, [.int 0, .int 0, .int 0, .int 0, .int 0, .int 0, .int 0, .int 0, .int 0, .int 0])), ((u_2 13), .inr (1, [.int 0, .int 0, .int 0, .int 0, .int 0, .int 0])), ((u_2 14), .inr (1, [.int 0, .int 0, .int 0, .int 0, .int 0, .int 0])), ((u_2 15), .inr (1, [.int 0, .int 0, .int 0, .int 0, .int 0, .int 0]))] := hD
  refine lv_astore_n (lv' := [(1, .ref q_1), (0, .ref b)]) hx hb dL_law_7 rfl hl (by decide) rfl (fun ls hl => ?_)
  refine va_new (ci := 6) (fs := [.int 0, .int 0, .int 0, .int 0, .int 0, .null, .null, .null, .null, .int 0, .null, .long 0]) (C := RX6) (T := TX6) (N := 12) hx hb hts (fun w h => tb_in (inX6 w h)) tyX6 tyX6_ok hown (hts _ (tb_in q_cl_L_121)) (hts _ (tb_in q_in_X6)) (hts _ (tb_in q_ini_X6)) hK hP hD hS hA rfl (fun j hj => by rcases (show j = 0 ∨ j = 1 ∨ j = 2 ∨ j = 3 ∨ j = 4 ∨ j = 5 ∨ j = 6 ∨ j = 7 ∨ j = 8 ∨ j = 9 ∨ j = 10 ∨ j = 11 by omega) with rfl | rfl | rfl | rfl | rfl | rfl | rfl | rfl | rfl | rfl | rfl | rfl <;> rfl) (Nat.le_of_ble_eq_true rfl) (Nat.le_of_ble_eq_true rfl) dL_law_8 (fun q_3 H hP hD hS => ?_)
  have hP : va_P (dC, dI) cls [(q_1, .inr (5, [.ref ((u_2 0)), .ref ((u_2 10)), .ref ((u_2 11)), .ref ((u_2 12)), .ref ((u_2 13)), .ref ((u_2 14)), .ref ((u_2 15)), .int 0, .int 0])), ((u_2 0), .inr (0, [.ref ((u_2 1)), .ref ((u_2 2)), .ref ((u_2 3)), .ref ((u_2 4)), .ref ((u_2 5)), .ref ((u_2 6)), .ref ((u_2 7)), .ref ((u_2 8)), .ref ((u_2 9)), .int 0, .int 0, .int 0])), ((u_2 1), .inl (cI, 12, .inl (fun _ => 0))), ((u_2 2), .inl (cI, 12, .inl (fun _ => 0))), ((u_2 3), .inl (cI, 144, .inl (fun _ => 0))), ((u_2 4), .inl (cI, 9, .inl (fun _ => 0))), ((u_2 5), .inl (cI, 18, .inl (fun _ => 0))), ((u_2 6), .inl (cI, 18, .inl (fun _ => 0))), ((u_2 7), .inl (cI, 18, .inl (fun _ => 0))), ((u_2 8), .inl (cI, 18, .inl (fun _ => 0))), ((u_2 9), .inl (cI, 18, .inl (fun _ => 0))), ((u_2 11), .inr (3, [.int 0, .int 0, .int 0, .int 0, .int 0, .int 0, .int 0, .int 0, .int 0, .int 0])), ((u_2 13), .inr (1, [.int 0, .int 0, .int 0, .int 0, .int 0, .int 0])), ((u_2 14), .inr (1, [.int 0, .int 0, .int 0, .int 0, .int 0, .int 0])), ((u_2 15), .inr (1, [.int 0, .int 0, .int 0, .int 0, .int 0, .int 0])), (q_3, .inr (6, [.int 0, .int 0, .int 0, .int 0, .int 0, .null, .null, .null, .null, .int 0, .null, .long 0]))] H := hP
  have hD : va_D A [(q_1, .inr (5, [.ref ((u_2 0)), .ref ((u_2 10)), .ref ((u_2 11)), .ref ((u_2 12)), .ref ((u_2 13)), .ref ((u_2 14)), .ref ((u_2 15)), .int 0, .int 0])), ((u_2 0), .inr (0, [.ref ((u_2 1)), .ref ((u_2 2)), .ref ((u_2 3)), .ref ((u_2 4)), .ref ((u_2 5)), .ref ((u_2 6)), .ref ((u_2 7)), .ref ((u_2 8)), .ref ((u_2 9)), .int 0, .int 0, .int 0])), ((u_2 1), .inl (cI, 12, .inl (fun _ => 0))), ((u_2 2), .inl (cI, 12, .inl (fun _ => 0))), ((u_2 3), .inl (cI, 144, .inl (fun _ => 0))), ((u_2 4), .inl (cI, 9, .inl (fun _ => 0))), ((u_2 5), .inl (cI, 18, .inl (fun _ => 0))), ((u_2 6), .inl (cI, 18, .inl (fun _ => 0))), ((u_2 7), .inl (cI, 18, .inl (fun _ => 0))), ((u_2 8), .inl (cI, 18, .inl (fun _ => 0))), ((u_2 9), .inl (cI, 18, .inl (fun _ => 0))), ((u_2 11), .inr (3, [.int 0, .int 0, .int 0, .int 0, .int 0, .int 0, .int 0, .int 0, .int 0, .int 0])), ((u_2 13), .inr (1, [.int 0, .int 0, .int 0, .int 0, .int 0, .int 0])), ((u_2 14), .inr (1, [.int 0, .int 0, .int 0, .int 0, .int 0, .int 0])), ((u_2 15), .inr (1, [.int 0, .int 0, .int 0, .int 0, .int 0, .int 0])), (q_3, .inr (6, [.int 0, .int 0, .int 0, .int 0, .int 0, .null, .null, .null, .null, .int 0, .null, .long 0]))] := hD
  refine lv_dup hx hb dL_law_11 rfl ?_
  refine n_Iv (wc := [(q_3, .inr (6, [.int 0, .int 0, .int 0, .int 0, .int 0, .null, .null, .null, .null, .int 0, .null, .long 0]))]) (wr := [(q_1, .inr (5, [.ref ((u_2 0)), .ref ((u_2 10)), .ref ((u_2 11)), .ref ((u_2 12)), .ref ((u_2 13)), .ref ((u_2 14)), .ref ((u_2 15)), .int 0, .int 0])), ((u_2 0), .inr (0, [.ref ((u_2 1)), .ref ((u_2 2)), .ref ((u_2 3)), .ref ((u_2 4)), .ref ((u_2 5)), .ref ((u_2 6)), .ref ((u_2 7)), .ref ((u_2 8)), .ref ((u_2 9)), .int 0, .int 0, .int 0])), ((u_2 1), .inl (cI, 12, .inl (fun _ => 0))), ((u_2 2), .inl (cI, 12, .inl (fun _ => 0))), ((u_2 3), .inl (cI, 144, .inl (fun _ => 0))), ((u_2 4), .inl (cI, 9, .inl (fun _ => 0))), ((u_2 5), .inl (cI, 18, .inl (fun _ => 0))), ((u_2 6), .inl (cI, 18, .inl (fun _ => 0))), ((u_2 7), .inl (cI, 18, .inl (fun _ => 0))), ((u_2 8), .inl (cI, 18, .inl (fun _ => 0))), ((u_2 9), .inl (cI, 18, .inl (fun _ => 0))), ((u_2 11), .inr (3, [.int 0, .int 0, .int 0, .int 0, .int 0, .int 0, .int 0, .int 0, .int 0, .int 0])), ((u_2 13), .inr (1, [.int 0, .int 0, .int 0, .int 0, .int 0, .int 0])), ((u_2 14), .inr (1, [.int 0, .int 0, .int 0, .int 0, .int 0, .int 0])), ((u_2 15), .inr (1, [.int 0, .int 0, .int 0, .int 0, .int 0, .int 0]))]) [] [15] [0, 1, 2, 3, 4, 5, 6, 7, 8, 9, 10, 11, 12, 13, 14] ⟨hx, hb, hml, hown, hts⟩ (fun sz => c_X6_init l dC dI cI cV cJ cL q_3 sz) q_ml_L_123 q_im_X6_init q_ini_X6 q_co_X6_init rfl (n := 0) (by decide +kernel) rfl ⟨rfl, rfl⟩ ⟨Nat.le_of_ble_eq_true rfl, Nat.le_of_ble_eq_true rfl⟩ hP hD hS hA hK hN rfl rfl (by decide) (by decide) (by decide) hl.1 rfl (Nat.le_of_ble_eq_true rfl) dL_law_12 ⟨Nat.le_of_ble_eq_true rfl, Nat.le_of_ble_eq_true rfl⟩ (fun u_4 H locs hu_4 hP hD hS => ?_)
  have hP : va_P (dC, dI) cls [(q_1, .inr (5, [.ref ((u_2 0)), .ref ((u_2 10)), .ref ((u_2 11)), .ref ((u_2 12)), .ref ((u_2 13)), .ref ((u_2 14)), .ref ((u_2 15)), .int 0, .int 0])), ((u_2 0), .inr (0, [.ref ((u_2 1)), .ref ((u_2 2)), .ref ((u_2 3)), .ref ((u_2 4)), .ref ((u_2 5)), .ref ((u_2 6)), .ref ((u_2 7)), .ref ((u_2 8)), .ref ((u_2 9)), .int 0, .int 0, .int 0])), ((u_2 1), .inl (cI, 12, .inl (fun _ => 0))), ((u_2 2), .inl (cI, 12, .inl (fun _ => 0))), ((u_2 3), .inl (cI, 144, .inl (fun _ => 0))), ((u_2 4), .inl (cI, 9, .inl (fun _ => 0))), ((u_2 5), .inl (cI, 18, .inl (fun _ => 0))), ((u_2 6), .inl (cI, 18, .inl (fun _ => 0))), ((u_2 7), .inl (cI, 18, .inl (fun _ => 0))), ((u_2 8), .inl (cI, 18, .inl (fun _ => 0))), ((u_2 9), .inl (cI, 18, .inl (fun _ => 0))), ((u_2 11), .inr (3, [.int 0, .int 0, .int 0, .int 0, .int 0, .int 0, .int 0, .int 0, .int 0, .int 0])), ((u_2 13), .inr (1, [.int 0, .int 0, .int 0, .int 0, .int 0, .int 0])), ((u_2 14), .inr (1, [.int 0, .int 0, .int 0, .int 0, .int 0, .int 0])), ((u_2 15), .inr (1, [.int 0, .int 0, .int 0, .int 0, .int 0, .int 0])), (q_3, .inr (6, [.int 0, .int 0, .int 0, .int 0, .int 0, .ref ((u_4 0)), .ref ((u_4 1)), .ref ((u_4 2)), .ref ((u_4 3)), .int 0, .null, .long 0])), ((u_4 0), .inl (cJ, 12, .inr (.inr (.inr (.inr (fun _ => none))))))] H := hP
  have hD : va_D A [(q_1, .inr (5, [.ref ((u_2 0)), .ref ((u_2 10)), .ref ((u_2 11)), .ref ((u_2 12)), .ref ((u_2 13)), .ref ((u_2 14)), .ref ((u_2 15)), .int 0, .int 0])), ((u_2 0), .inr (0, [.ref ((u_2 1)), .ref ((u_2 2)), .ref ((u_2 3)), .ref ((u_2 4)), .ref ((u_2 5)), .ref ((u_2 6)), .ref ((u_2 7)), .ref ((u_2 8)), .ref ((u_2 9)), .int 0, .int 0, .int 0])), ((u_2 1), .inl (cI, 12, .inl (fun _ => 0))), ((u_2 2), .inl (cI, 12, .inl (fun _ => 0))), ((u_2 3), .inl (cI, 144, .inl (fun _ => 0))), ((u_2 4), .inl (cI, 9, .inl (fun _ => 0))), ((u_2 5), .inl (cI, 18, .inl (fun _ => 0))), ((u_2 6), .inl (cI, 18, .inl (fun _ => 0))), ((u_2 7), .inl (cI, 18, .inl (fun _ => 0))), ((u_2 8), .inl (cI, 18, .inl (fun _ => 0))), ((u_2 9), .inl (cI, 18, .inl (fun _ => 0))), ((u_2 11), .inr (3, [.int 0, .int 0, .int 0, .int 0, .int 0, .int 0, .int 0, .int 0, .int 0, .int 0])), ((u_2 13), .inr (1, [.int 0, .int 0, .int 0, .int 0, .int 0, .int 0])), ((u_2 14), .inr (1, [.int 0, .int 0, .int 0, .int 0, .int 0, .int 0])), ((u_2 15), .inr (1, [.int 0, .int 0, .int 0, .int 0, .int 0, .int 0])), (q_3, .inr (6, [.int 0, .int 0, .int 0, .int 0, .int 0, .ref ((u_4 0)), .ref ((u_4 1)), .ref ((u_4 2)), .ref ((u_4 3)), .int 0, .null, .long 0])), ((u_4 0), .inl (cJ, 12, .inr (.inr (.inr (.inr (fun _ => none))))))] := hD
  refine lv_astore_n (lv' := [(2, .ref q_3), (1, .ref q_1), (0, .ref b)]) hx hb dL_law_15 rfl hl (by decide) rfl (fun ls hl => ?_)
  refine lv_iconst (v := 1) hx hb dL_law_16 (by decide) ?_
  refine k_newL hx hb (hts _ (tb_in q_ac_long)) hK hP hD hS hA 3 rfl (n := 1) (N' := 1) (by decide) (by decide) (Nat.le_of_ble_eq_true rfl) (Nat.le_of_ble_eq_true rfl) (Nat.le_of_ble_eq_true rfl) dL_law_17 (fun q_5 H hP hD hS => ?_)
  have hP : va_P (dC, dI) cls [(q_1, .inr (5, [.ref ((u_2 0)), .ref ((u_2 10)), .ref ((u_2 11)), .ref ((u_2 12)), .ref ((u_2 13)), .ref ((u_2 14)), .ref ((u_2 15)), .int 0, .int 0])), ((u_2 0), .inr (0, [.ref ((u_2 1)), .ref ((u_2 2)), .ref ((u_2 3)), .ref ((u_2 4)), .ref ((u_2 5)), .ref ((u_2 6)), .ref ((u_2 7)), .ref ((u_2 8)), .ref ((u_2 9)), .int 0, .int 0, .int 0])), ((u_2 1), .inl (cI, 12, .inl (fun _ => 0))), ((u_2 2), .inl (cI, 12, .inl (fun _ => 0))), ((u_2 3), .inl (cI, 144, .inl (fun _ => 0))), ((u_2 4), .inl (cI, 9, .inl (fun _ => 0))), ((u_2 5), .inl (cI, 18, .inl (fun _ => 0))), ((u_2 6), .inl (cI, 18, .inl (fun _ => 0))), ((u_2 7), .inl (cI, 18, .inl (fun _ => 0))), ((u_2 8), .inl (cI, 18, .inl (fun _ => 0))), ((u_2 9), .inl (cI, 18, .inl (fun _ => 0))), ((u_2 11), .inr (3, [.int 0, .int 0, .int 0, .int 0, .int 0, .int 0, .int 0, .int 0, .int 0, .int 0])), ((u_2 13), .inr (1, [.int 0, .int 0, .int 0, .int 0, .int 0, .int 0])), ((u_2 14), .inr (1, [.int 0, .int 0, .int 0, .int 0, .int 0, .int 0])), ((u_2 15), .inr (1, [.int 0, .int 0, .int 0, .int 0, .int 0, .int 0])), (q_3, .inr (6, [.int 0, .int 0, .int 0, .int 0, .int 0, .ref ((u_4 0)), .ref ((u_4 1)), .ref ((u_4 2)), .ref ((u_4 3)), .int 0, .null, .long 0])), ((u_4 0), .inl (cJ, 12, .inr (.inr (.inr (.inr (fun _ => none)))))), (q_5, .inl (cL, 1, .inr (.inl (fun _ => 0))))] H := hP
  have hD : va_D A [(q_1, .inr (5, [.ref ((u_2 0)), .ref ((u_2 10)), .ref ((u_2 11)), .ref ((u_2 12)), .ref ((u_2 13)), .ref ((u_2 14)), .ref ((u_2 15)), .int 0, .int 0])), ((u_2 0), .inr (0, [.ref ((u_2 1)), .ref ((u_2 2)), .ref ((u_2 3)), .ref ((u_2 4)), .ref ((u_2 5)), .ref ((u_2 6)), .ref ((u_2 7)), .ref ((u_2 8)), .ref ((u_2 9)), .int 0, .int 0, .int 0])), ((u_2 1), .inl (cI, 12, .inl (fun _ => 0))), ((u_2 2), .inl (cI, 12, .inl (fun _ => 0))), ((u_2 3), .inl (cI, 144, .inl (fun _ => 0))), ((u_2 4), .inl (cI, 9, .inl (fun _ => 0))), ((u_2 5), .inl (cI, 18, .inl (fun _ => 0))), ((u_2 6), .inl (cI, 18, .inl (fun _ => 0))), ((u_2 7), .inl (cI, 18, .inl (fun _ => 0))), ((u_2 8), .inl (cI, 18, .inl (fun _ => 0))), ((u_2 9), .inl (cI, 18, .inl (fun _ => 0))), ((u_2 11), .inr (3, [.int 0, .int 0, .int 0, .int 0, .int 0, .int 0, .int 0, .int 0, .int 0, .int 0])), ((u_2 13), .inr (1, [.int 0, .int 0, .int 0, .int 0, .int 0, .int 0])), ((u_2 14), .inr (1, [.int 0, .int 0, .int 0, .int 0, .int 0, .int 0])), ((u_2 15), .inr (1, [.int 0, .int 0, .int 0, .int 0, .int 0, .int 0])), (q_3, .inr (6, [.int 0, .int 0, .int 0, .int 0, .int 0, .ref ((u_4 0)), .ref ((u_4 1)), .ref ((u_4 2)), .ref ((u_4 3)), .int 0, .null, .long 0])), ((u_4 0), .inl (cJ, 12, .inr (.inr (.inr (.inr (fun _ => none)))))), (q_5, .inl (cL, 1, .inr (.inl (fun _ => 0))))] := hD
  refine lv_astore_n (lv' := [(3, .ref q_5), (2, .ref q_3), (1, .ref q_1), (0, .ref b)]) hx hb dL_law_19 rfl hl (by decide) rfl (fun ls hl => ?_)
  refine lv_iconst (v := 0) hx hb dL_law_20 (by decide) ?_
  refine lv_istore (lv' := [(4, .int 0), (3, .ref q_5), (2, .ref q_3), (1, .ref q_1), (0, .ref b)]) hx hb dL_law_21 hl (by decide) rfl (fun ls hl => ?_)
  refine lv_iload hx hb dL_law_23 (lv_at hl 0 rfl) ?_
  refine lv_aload_n hx hb dL_law_25 rfl (lv_at hl 4 rfl) ?_
  refine va_slen hx hb hX hbl hbA hS dL_law_26 ?_
  refine lv_bipush (v := 7) hx hb dL_law_27 (by decide) ?_
  refine lv_isub hx hb dL_law_29 ?_
  refine lv_icmp_gt (tgt := 2505) hx hb dL_law_30 (by decide) (fun c_6 => ?_) (fun c_6 => ?_)
  · refine lv_iconst (v := 1) hx hb dL_law_2505 (by decide) ?_
    refine va_forget (fun q hq => by have h9 := hS.2.2 q hq; rw [← hAe] at h9; exact h9) ?_
    refine W.widen (k := 600002) (n := 7302232) (Nat.le_of_ble_eq_true rfl) (Nat.le_of_ble_eq_true rfl) ?_
    exact lw_ret (d0 := s.drawn) (Drawn.sameBut.refl s.drawn lw_cs) hx hb hr hlocks dL_law_2506
  · obtain rfl : L = 7 := by
      rcases (by omega : L = 0 ∨ L = 1 ∨ L = 2 ∨ L = 3 ∨ L = 4 ∨ L = 5 ∨ L = 6 ∨ L = 7) with rfl | rfl | rfl | rfl | rfl | rfl | rfl | rfl
      all_goals first | rfl | exact absurd (by decide) c_6
    refine lv_aload_n hx hb dL_law_33 rfl (lv_at hl 4 rfl) ?_
    refine lv_iload hx hb dL_law_34 (lv_at hl 0 rfl) ?_
    refine va_sld hx hb hX hbl hbA hS (i := 0) (vpd (by decide)) dL_law_36 ?_
    refine k_st1 (y := xs 0) (congrArg xs (by decide)) ?_
    refine lv_bipush (v := 63) hx hb dL_law_37 (by decide) ?_
    refine lv_iand hx hb dL_law_39 ?_
    refine lv_topi (fun k9 ek9 => ?_)
    have hP := hP.sub (ws' := [(q_1, .inr (5, [.ref ((u_2 0)), .ref ((u_2 10)), .ref ((u_2 11)), .ref ((u_2 12)), .ref ((u_2 13)), .ref ((u_2 14)), .ref ((u_2 15)), .int 0, .int 0])), ((u_2 0), .inr (0, [.ref ((u_2 1)), .ref ((u_2 2)), .ref ((u_2 3)), .ref ((u_2 4)), .ref ((u_2 5)), .ref ((u_2 6)), .ref ((u_2 7)), .ref ((u_2 8)), .ref ((u_2 9)), .int 0, .int 0, .int 0])), ((u_2 1), .inl (cI, 12, .inl (fun _ => 0))), ((u_2 2), .inl (cI, 12, .inl (fun _ => 0))), ((u_2 3), .inl (cI, 144, .inl (fun _ => 0))), ((u_2 4), .inl (cI, 9, .inl (fun _ => 0))), ((u_2 5), .inl (cI, 18, .inl (fun _ => 0))), ((u_2 6), .inl (cI, 18, .inl (fun _ => 0))), ((u_2 7), .inl (cI, 18, .inl (fun _ => 0))), ((u_2 8), .inl (cI, 18, .inl (fun _ => 0))), ((u_2 9), .inl (cI, 18, .inl (fun _ => 0))), (q_3, .inr (6, [.int 0, .int 0, .int 0, .int 0, .int 0, .ref ((u_4 0)), .ref ((u_4 1)), .ref ((u_4 2)), .ref ((u_4 3)), .int 0, .null, .long 0])), ((u_4 0), .inl (cJ, 12, .inr (.inr (.inr (.inr (fun _ => none)))))), (q_5, .inl (cL, 1, .inr (.inl (fun _ => 0))))]) [0, 1, 2, 3, 4, 5, 6, 7, 8, 9, 10, 15, 16, 17] rfl
    have hD := hD.sub (ws' := [(q_1, .inr (5, [.ref ((u_2 0)), .ref ((u_2 10)), .ref ((u_2 11)), .ref ((u_2 12)), .ref ((u_2 13)), .ref ((u_2 14)), .ref ((u_2 15)), .int 0, .int 0])), ((u_2 0), .inr (0, [.ref ((u_2 1)), .ref ((u_2 2)), .ref ((u_2 3)), .ref ((u_2 4)), .ref ((u_2 5)), .ref ((u_2 6)), .ref ((u_2 7)), .ref ((u_2 8)), .ref ((u_2 9)), .int 0, .int 0, .int 0])), ((u_2 1), .inl (cI, 12, .inl (fun _ => 0))), ((u_2 2), .inl (cI, 12, .inl (fun _ => 0))), ((u_2 3), .inl (cI, 144, .inl (fun _ => 0))), ((u_2 4), .inl (cI, 9, .inl (fun _ => 0))), ((u_2 5), .inl (cI, 18, .inl (fun _ => 0))), ((u_2 6), .inl (cI, 18, .inl (fun _ => 0))), ((u_2 7), .inl (cI, 18, .inl (fun _ => 0))), ((u_2 8), .inl (cI, 18, .inl (fun _ => 0))), ((u_2 9), .inl (cI, 18, .inl (fun _ => 0))), (q_3, .inr (6, [.int 0, .int 0, .int 0, .int 0, .int 0, .ref ((u_4 0)), .ref ((u_4 1)), .ref ((u_4 2)), .ref ((u_4 3)), .int 0, .null, .long 0])), ((u_4 0), .inl (cJ, 12, .inr (.inr (.inr (.inr (fun _ => none)))))), (q_5, .inl (cL, 1, .inr (.inl (fun _ => 0))))]) [0, 1, 2, 3, 4, 5, 6, 7, 8, 9, 10, 15, 16, 17] (by decide) rfl
    have hl : lv_has ls 9 [(4, .int 0), (3, .ref q_5), (2, .ref q_3), (1, .ref q_1), (0, .ref b)] := lv_sub hl [0, 1, 2, 3, 4] rfl
    rw [← hAe] at hD hS
    by_cases h0 : k9.toInt < 0 ∨ 39 < k9.toInt
    · refine lv_tableOut (tgt := 2499) hx hb dL_law_40 h0 (by decide) ?_
      refine W.widen (k := 100) (n := 2000) (Nat.le_of_ble_eq_true rfl) (Nat.le_of_ble_eq_true rfl) ?_
      exact law_end l hlT C0 hS (lv_sub hl [0, 4] rfl)
    refine W.widen (k := 48) (n := 592) (Nat.le_of_ble_eq_true rfl) (Nat.le_of_ble_eq_true rfl) ?_
    rcases (by omega : k9.toInt = 0 ∨ k9.toInt = 1 ∨ k9.toInt = 2 ∨ k9.toInt = 3 ∨ k9.toInt = 4 ∨ k9.toInt = 5 ∨ k9.toInt = 6 ∨ k9.toInt = 7 ∨ k9.toInt = 8 ∨ k9.toInt = 9 ∨ k9.toInt = 10 ∨ k9.toInt = 11 ∨ k9.toInt = 12 ∨ k9.toInt = 13 ∨ k9.toInt = 14 ∨ k9.toInt = 15 ∨ k9.toInt = 16 ∨ k9.toInt = 17 ∨ k9.toInt = 18 ∨ k9.toInt = 19 ∨ k9.toInt = 20 ∨ k9.toInt = 21 ∨ k9.toInt = 22 ∨ k9.toInt = 23 ∨ k9.toInt = 24 ∨ k9.toInt = 25 ∨ k9.toInt = 26 ∨ k9.toInt = 27 ∨ k9.toInt = 28 ∨ k9.toInt = 29 ∨ k9.toInt = 30 ∨ k9.toInt = 31 ∨ k9.toInt = 32 ∨ k9.toInt = 33 ∨ k9.toInt = 34 ∨ k9.toInt = 35 ∨ k9.toInt = 36 ∨ k9.toInt = 37 ∨ k9.toInt = 38 ∨ k9.toInt = 39) with h1 | h1 | h1 | h1 | h1 | h1 | h1 | h1 | h1 | h1 | h1 | h1 | h1 | h1 | h1 | h1 | h1 | h1 | h1 | h1 | h1 | h1 | h1 | h1 | h1 | h1 | h1 | h1 | h1 | h1 | h1 | h1 | h1 | h1 | h1 | h1 | h1 | h1 | h1 | h1
    · refine lv_tableIn (off := 176) (tgt := 216) hx hb dL_law_40 (by omega) (by omega) (by rw [h1]; decide) (by decide) ?_
      exact law_0 l hlT C0 hK q_1 u_2 q_3 u_4 q_5 hP hD hS hl
    · refine lv_tableIn (off := 244) (tgt := 284) hx hb dL_law_40 (by omega) (by omega) (by rw [h1]; decide) (by decide) ?_
      exact law_1 l hlT C0 hK q_1 u_2 q_3 u_4 q_5 hP hD hS hl
    · refine lv_tableIn (off := 362) (tgt := 402) hx hb dL_law_40 (by omega) (by omega) (by rw [h1]; decide) (by decide) ?_
      exact law_2 l hlT C0 hK q_1 u_2 q_3 u_4 q_5 hP hD hS hl
    · refine lv_tableIn (off := 466) (tgt := 506) hx hb dL_law_40 (by omega) (by omega) (by rw [h1]; decide) (by decide) ?_
      exact law_3 l hlT C0 hK q_1 u_2 q_3 u_4 q_5 hP hD hS hl
    · refine lv_tableIn (off := 581) (tgt := 621) hx hb dL_law_40 (by omega) (by omega) (by rw [h1]; decide) (by decide) ?_
      exact law_4 l hlT C0 hK q_1 u_2 q_3 u_4 q_5 hP hD hS hl
    · refine lv_tableIn (off := 637) (tgt := 677) hx hb dL_law_40 (by omega) (by omega) (by rw [h1]; decide) (by decide) ?_
      exact law_5 l hlT C0 hK q_1 u_2 q_3 u_4 q_5 hP hD hS hl
    · refine lv_tableIn (off := 729) (tgt := 769) hx hb dL_law_40 (by omega) (by omega) (by rw [h1]; decide) (by decide) ?_
      exact law_6 l hlT C0 hK q_1 u_2 q_3 u_4 q_5 hP hD hS hl
    · refine lv_tableIn (off := 785) (tgt := 825) hx hb dL_law_40 (by omega) (by omega) (by rw [h1]; decide) (by decide) ?_
      exact law_7 l hlT C0 hK q_1 u_2 q_3 u_4 q_5 hP hD hS hl
    · refine lv_tableIn (off := 798) (tgt := 838) hx hb dL_law_40 (by omega) (by omega) (by rw [h1]; decide) (by decide) ?_
      exact law_8 l hlT C0 hK q_1 u_2 q_3 u_4 q_5 hP hD hS hl
    · refine lv_tableIn (off := 854) (tgt := 894) hx hb dL_law_40 (by omega) (by omega) (by rw [h1]; decide) (by decide) ?_
      exact law_9 l hlT C0 hK q_1 u_2 q_3 u_4 q_5 hP hD hS hl
    · refine lv_tableIn (off := 910) (tgt := 950) hx hb dL_law_40 (by omega) (by omega) (by rw [h1]; decide) (by decide) ?_
      exact law_10 l hlT C0 hK q_1 u_2 q_3 u_4 q_5 hP hD hS hl
    · refine lv_tableIn (off := 966) (tgt := 1006) hx hb dL_law_40 (by omega) (by omega) (by rw [h1]; decide) (by decide) ?_
      exact law_11 l hlT C0 hK q_1 u_2 q_3 u_4 q_5 hP hD hS hl
    · refine lv_tableIn (off := 1022) (tgt := 1062) hx hb dL_law_40 (by omega) (by omega) (by rw [h1]; decide) (by decide) ?_
      exact law_12 l hlT C0 hK q_1 u_2 q_3 u_4 q_5 hP hD hS hl
    · refine lv_tableIn (off := 1078) (tgt := 1118) hx hb dL_law_40 (by omega) (by omega) (by rw [h1]; decide) (by decide) ?_
      exact law_13 l hlT C0 hK q_1 u_2 q_3 u_4 q_5 hP hD hS hl
    · refine lv_tableIn (off := 1091) (tgt := 1131) hx hb dL_law_40 (by omega) (by omega) (by rw [h1]; decide) (by decide) ?_
      exact law_14 l hlT C0 hK q_1 u_2 q_3 u_4 q_5 hP hD hS hl
    · refine lv_tableIn (off := 1104) (tgt := 1144) hx hb dL_law_40 (by omega) (by omega) (by rw [h1]; decide) (by decide) ?_
      exact law_15 l hlT C0 hK q_1 u_2 q_3 u_4 q_5 hP hD hS hl
    · refine lv_tableIn (off := 1117) (tgt := 1157) hx hb dL_law_40 (by omega) (by omega) (by rw [h1]; decide) (by decide) ?_
      exact law_16 l hlT C0 hK q_1 u_2 q_3 u_4 q_5 hP hD hS hl
    · refine lv_tableIn (off := 1130) (tgt := 1170) hx hb dL_law_40 (by omega) (by omega) (by rw [h1]; decide) (by decide) ?_
      exact law_17 l hlT C0 hK q_1 u_2 q_3 u_4 q_5 hP hD hS hl
    · refine lv_tableIn (off := 1198) (tgt := 1238) hx hb dL_law_40 (by omega) (by omega) (by rw [h1]; decide) (by decide) ?_
      exact law_18 l hlT C0 hK q_1 u_2 q_3 u_4 q_5 hP hD hS hl
    · refine lv_tableIn (off := 1254) (tgt := 1294) hx hb dL_law_40 (by omega) (by omega) (by rw [h1]; decide) (by decide) ?_
      exact law_19 l hlT C0 hK q_1 u_2 q_3 u_4 q_5 hP hD hS hl
    · refine lv_tableIn (off := 1317) (tgt := 1357) hx hb dL_law_40 (by omega) (by omega) (by rw [h1]; decide) (by decide) ?_
      exact law_20 l hlT C0 hK q_1 u_2 q_3 u_4 q_5 hP hD hS hl
    · refine lv_tableIn (off := 1373) (tgt := 1413) hx hb dL_law_40 (by omega) (by omega) (by rw [h1]; decide) (by decide) ?_
      exact law_21 l hlT C0 hK q_1 u_2 q_3 u_4 q_5 hP hD hS hl
    · refine lv_tableIn (off := 1429) (tgt := 1469) hx hb dL_law_40 (by omega) (by omega) (by rw [h1]; decide) (by decide) ?_
      exact law_22 l hlT C0 hK q_1 u_2 q_3 u_4 q_5 hP hD hS hl
    · refine lv_tableIn (off := 1497) (tgt := 1537) hx hb dL_law_40 (by omega) (by omega) (by rw [h1]; decide) (by decide) ?_
      exact law_23 l hlT C0 hK q_1 u_2 q_3 u_4 q_5 hP hD hS hl
    · refine lv_tableIn (off := 1572) (tgt := 1612) hx hb dL_law_40 (by omega) (by omega) (by rw [h1]; decide) (by decide) ?_
      exact law_24 l hlT C0 hK q_1 u_2 q_3 u_4 q_5 hP hD hS hl
    · refine lv_tableIn (off := 1640) (tgt := 1680) hx hb dL_law_40 (by omega) (by omega) (by rw [h1]; decide) (by decide) ?_
      exact law_25 l hlT C0 hK q_1 u_2 q_3 u_4 q_5 hP hD hS hl
    · refine lv_tableIn (off := 1708) (tgt := 1748) hx hb dL_law_40 (by omega) (by omega) (by rw [h1]; decide) (by decide) ?_
      exact law_26 l hlT C0 hK q_1 u_2 q_3 u_4 q_5 hP hD hS hl
    · refine lv_tableIn (off := 1776) (tgt := 1816) hx hb dL_law_40 (by omega) (by omega) (by rw [h1]; decide) (by decide) ?_
      exact law_27 l hlT C0 hK q_1 u_2 q_3 u_4 q_5 hP hD hS hl
    · refine lv_tableIn (off := 1844) (tgt := 1884) hx hb dL_law_40 (by omega) (by omega) (by rw [h1]; decide) (by decide) ?_
      exact law_28 l hlT C0 hK q_1 u_2 q_3 u_4 q_5 hP hD hS hl
    · refine lv_tableIn (off := 1900) (tgt := 1940) hx hb dL_law_40 (by omega) (by omega) (by rw [h1]; decide) (by decide) ?_
      exact law_29 l hlT C0 hK q_1 u_2 q_3 u_4 q_5 hP hD hS hl
    · refine lv_tableIn (off := 1956) (tgt := 1996) hx hb dL_law_40 (by omega) (by omega) (by rw [h1]; decide) (by decide) ?_
      exact law_30 l hlT C0 hK q_1 u_2 q_3 u_4 q_5 hP hD hS hl
    · refine lv_tableIn (off := 2019) (tgt := 2059) hx hb dL_law_40 (by omega) (by omega) (by rw [h1]; decide) (by decide) ?_
      exact law_31 l hlT C0 hK q_1 u_2 q_3 u_4 q_5 hP hD hS hl
    · refine lv_tableIn (off := 2075) (tgt := 2115) hx hb dL_law_40 (by omega) (by omega) (by rw [h1]; decide) (by decide) ?_
      exact law_32 l hlT C0 hK q_1 u_2 q_3 u_4 q_5 hP hD hS hl
    · refine lv_tableIn (off := 2131) (tgt := 2171) hx hb dL_law_40 (by omega) (by omega) (by rw [h1]; decide) (by decide) ?_
      exact law_33 l hlT C0 hK q_1 u_2 q_3 u_4 q_5 hP hD hS hl
    · refine lv_tableIn (off := 2144) (tgt := 2184) hx hb dL_law_40 (by omega) (by omega) (by rw [h1]; decide) (by decide) ?_
      exact law_34 l hlT C0 hK q_1 u_2 q_3 u_4 q_5 hP hD hS hl
    · refine lv_tableIn (off := 2185) (tgt := 2225) hx hb dL_law_40 (by omega) (by omega) (by rw [h1]; decide) (by decide) ?_
      exact law_35 l hlT C0 hK q_1 u_2 q_3 u_4 q_5 hP hD hS hl
    · refine lv_tableIn (off := 2253) (tgt := 2293) hx hb dL_law_40 (by omega) (by omega) (by rw [h1]; decide) (by decide) ?_
      exact law_36 l hlT C0 hK q_1 u_2 q_3 u_4 q_5 hP hD hS hl
    · refine lv_tableIn (off := 2309) (tgt := 2349) hx hb dL_law_40 (by omega) (by omega) (by rw [h1]; decide) (by decide) ?_
      exact law_37 l hlT C0 hK q_1 u_2 q_3 u_4 q_5 hP hD hS hl
    · refine lv_tableIn (off := 2389) (tgt := 2429) hx hb dL_law_40 (by omega) (by omega) (by rw [h1]; decide) (by decide) ?_
      exact law_38 l hlT C0 hK q_1 u_2 q_3 u_4 q_5 hP hD hS hl
    · refine lv_tableIn (off := 2445) (tgt := 2485) hx hb dL_law_40 (by omega) (by omega) (by rw [h1]; decide) (by decide) ?_
      exact law_39 l hlT C0 hK q_1 u_2 q_3 u_4 q_5 hP hD hS hl
