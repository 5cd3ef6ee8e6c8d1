set_option maxHeartbeats 4000000 in
set_option maxRecDepth 100000 in
theorem law_0 {p : Program} {e : Env} {s : State} {m : MethodId} {below : List Frame} {meth : Method} {c : Code} (l : Launch) (hlT : l.stackTraces = false) {b : Nat} {xs : Nat → Int32} (C0 : lw_At p s m meth c b 7 xs) {dC : Nat → ClassId} {dI : Nat → Nat → Nat} {cI cV cJ cL : ClassId} (hK : va_K (dC, dI) cls (TYP cI cV cJ cL) s) (X : Nat) (u : Nat → Nat) (M : Nat) (v : Nat → Nat) (O : Nat) {H : Heap} {locs : List Loc} {ls : Array Slot} (hP : va_P (dC, dI) cls [(X, .inr (5, [.ref ((u 0)), .ref ((u 10)), .ref ((u 11)), .ref ((u 12)), .ref ((u 13)), .ref ((u 14)), .ref ((u 15)), .int 0, .int 0])), ((u 0), .inr (0, [.ref ((u 1)), .ref ((u 2)), .ref ((u 3)), .ref ((u 4)), .ref ((u 5)), .ref ((u 6)), .ref ((u 7)), .ref ((u 8)), .ref ((u 9)), .int 0, .int 0, .int 0])), ((u 1), .inl (cI, 12, .inl (fun _ => 0))), ((u 2), .inl (cI, 12, .inl (fun _ => 0))), ((u 3), .inl (cI, 144, .inl (fun _ => 0))), ((u 4), .inl (cI, 9, .inl (fun _ => 0))), ((u 5), .inl (cI, 18, .inl (fun _ => 0))), ((u 6), .inl (cI, 18, .inl (fun _ => 0))), ((u 7), .inl (cI, 18, .inl (fun _ => 0))), ((u 8), .inl (cI, 18, .inl (fun _ => 0))), ((u 9), .inl (cI, 18, .inl (fun _ => 0))), (M, .inr (6, [.int 0, .int 0, .int 0, .int 0, .int 0, .ref ((v 0)), .ref ((v 1)), .ref ((v 2)), .ref ((v 3)), .int 0, .null, .long 0])), ((v 0), .inl (cJ, 12, .inr (.inr (.inr (.inr (fun _ => none)))))), (O, .inl (cL, 1, .inr (.inl (fun _ => 0))))] H) (hD : va_D (NA s.heap.size) [(X, .inr (5, [.ref ((u 0)), .ref ((u 10)), .ref ((u 11)), .ref ((u 12)), .ref ((u 13)), .ref ((u 14)), .ref ((u 15)), .int 0, .int 0])), ((u 0), .inr (0, [.ref ((u 1)), .ref ((u 2)), .ref ((u 3)), .ref ((u 4)), .ref ((u 5)), .ref ((u 6)), .ref ((u 7)), .ref ((u 8)), .ref ((u 9)), .int 0, .int 0, .int 0])), ((u 1), .inl (cI, 12, .inl (fun _ => 0))), ((u 2), .inl (cI, 12, .inl (fun _ => 0))), ((u 3), .inl (cI, 144, .inl (fun _ => 0))), ((u 4), .inl (cI, 9, .inl (fun _ => 0))), ((u 5), .inl (cI, 18, .inl (fun _ => 0))), ((u 6), .inl (cI, 18, .inl (fun _ => 0))), ((u 7), .inl (cI, 18, .inl (fun _ => 0))), ((u 8), .inl (cI, 18, .inl (fun _ => 0))), ((u 9), .inl (cI, 18, .inl (fun _ => 0))), (M, .inr (6, [.int 0, .int 0, .int 0, .int 0, .int 0, .ref ((v 0)), .ref ((v 1)), .ref ((v 2)), .ref ((v 3)), .int 0, .null, .long 0])), ((v 0), .inl (cJ, 12, .inr (.inr (.inr (.inr (fun _ => none)))))), (O, .inl (cL, 1, .inr (.inl (fun _ => 0))))]) (hS : va_S (NA s.heap.size) s.heap H locs) (hl : lv_has ls 9 [(4, .int 0), (3, .ref O), (2, .ref M), (1, .ref X), (0, .ref b)]) : W p l e room_1 s m #[Value.ref b] below meth c H locs 48 592 (lw_Z below #[Value.ref b] s) (F0 m 216 ls []) := by
  obtain ⟨hx, hb, hr, hml, hown, hts0, hX, hbl, hlocks, hgv⟩ := id C0
  have hts := st_tt hts0
  have hN := st_N hts0
  have hXs := st_X hts0 hgv
  have hZs := st_Z hts0 hgv
  have hown : s.vm.findClass RL = some m.cls := hown
  obtain ⟨A, hAe⟩ : ∃ A, NA s.heap.size = A := ⟨_, rfl⟩
  rw [hAe] at hZs
  have hA : ∀ q : Nat, s.heap.size ≤ q → A q := fun q h => by rw [← hAe]; exact h
  have hbA : ¬ A b := by rw [← hAe]; exact Nat.not_le.mpr hbl
  rw [hAe] at hD hS
  refine lv_aload_n hx hb dL_law_216 rfl (lv_at hl 3 rfl) ?_
  refine lv_aload_n hx hb dL_law_217 rfl (lv_at hl 4 rfl) ?_
  refine lv_iload hx hb dL_law_218 (lv_at hl 0 rfl) ?_
  refine lv_iconst (v := 1) hx hb dL_law_220 (by decide) ?_
  refine lv_iadd hx hb dL_law_221 ?_
  refine k_st1 (y := 1) (by decide) ?_
  refine va_sld hx hb hX hbl hbA hS (i := 1) (vpd (by decide)) dL_law_222 ?_
  refine k_st1 (y := xs 1) (congrArg xs (by decide)) ?_
  refine lv_aload_n hx hb dL_law_223 rfl (lv_at hl 4 rfl) ?_
  refine lv_iload hx hb dL_law_224 (lv_at hl 0 rfl) ?_
  refine lv_iconst (v := 2) hx hb dL_law_226 (by decide) ?_
  refine lv_iadd hx hb dL_law_227 ?_
  refine k_st1 (y := 2) (by decide) ?_
  refine va_sld hx hb hX hbl hbA hS (i := 2) (vpd (by decide)) dL_law_228 ?_
  refine k_st1 (y := xs 2) (congrArg xs (by decide)) ?_
  refine lv_aload_n hx hb dL_law_229 rfl (lv_at hl 1 rfl) ?_
  refine x_Si (wc := [(X, .inr (5, [.ref ((u 0)), .ref ((u 10)), .ref ((u 11)), .ref ((u 12)), .ref ((u 13)), .ref ((u 14)), .ref ((u 15)), .int 0, .int 0])), ((u 0), .inr (0, [.ref ((u 1)), .ref ((u 2)), .ref ((u 3)), .ref ((u 4)), .ref ((u 5)), .ref ((u 6)), .ref ((u 7)), .ref ((u 8)), .ref ((u 9)), .int 0, .int 0, .int 0])), ((u 1), .inl (cI, 12, .inl (fun _ => 0))), ((u 2), .inl (cI, 12, .inl (fun _ => 0))), ((u 3), .inl (cI, 144, .inl (fun _ => 0))), ((u 4), .inl (cI, 9, .inl (fun _ => 0))), ((u 5), .inl (cI, 18, .inl (fun _ => 0))), ((u 6), .inl (cI, 18, .inl (fun _ => 0))), ((u 7), .inl (cI, 18, .inl (fun _ => 0))), ((u 8), .inl (cI, 18, .inl (fun _ => 0))), ((u 9), .inl (cI, 18, .inl (fun _ => 0))), (O, .inl (cL, 1, .inr (.inl (fun _ => 0))))]) (wr := [(M, .inr (6, [.int 0, .int 0, .int 0, .int 0, .int 0, .ref ((v 0)), .ref ((v 1)), .ref ((v 2)), .ref ((v 3)), .int 0, .null, .long 0])), ((v 0), .inl (cJ, 12, .inr (.inr (.inr (.inr (fun _ => none))))))]) [.ref X, .int (xs 1), .int (xs 2), .ref O] [0, 1, 2, 3, 4, 5, 6, 7, 8, 9, 10, 13] [11, 12] ⟨hx, hb, hml, hown, hts⟩ (fun sz => h_addPlace l hlT dC dI cI cV cJ cL X (u 0) (u 10) (u 11) (u 12) (fun i => u (i + 1)) (fun i => u (i + 13)) O (fun _ => 0) (xs 1) (xs 2) sz) q_ml_L_124 q_st_L_addPlace q_ini_L q_cw_L_addPlace (n := 4) (by decide +kernel) rfl ⟨rfl, rfl⟩ ⟨Nat.le_of_ble_eq_true rfl, Nat.le_of_ble_eq_true rfl⟩ hP hD hS hA hK hN hXs hZs rfl rfl (by decide) (by decide) (by decide) hl.1 rfl (Nat.le_of_ble_eq_true rfl) dL_law_230 ⟨Nat.le_of_ble_eq_true rfl, Nat.le_of_ble_eq_true rfl⟩ (fun r_9 g_9 H locs hpo hP hD hS => ?_)
  obtain ⟨hr9, hg9⟩ := hpo
  refine k_st1 (y := b01 (outF (xs 1) 0 60 || outF (xs 2) 0 60)) hr9 ?_
  have hP : va_P (dC, dI) cls [(M, .inr (6, [.int 0, .int 0, .int 0, .int 0, .int 0, .ref ((v 0)), .ref ((v 1)), .ref ((v 2)), .ref ((v 3)), .int 0, .null, .long 0])), ((v 0), .inl (cJ, 12, .inr (.inr (.inr (.inr (fun _ => none)))))), (O, .inl (cL, 1, .inr (.inl g_9)))] H := hP
  have hD : va_D A [(M, .inr (6, [.int 0, .int 0, .int 0, .int 0, .int 0, .ref ((v 0)), .ref ((v 1)), .ref ((v 2)), .ref ((v 3)), .int 0, .null, .long 0])), ((v 0), .inl (cJ, 12, .inr (.inr (.inr (.inr (fun _ => none)))))), (O, .inl (cL, 1, .inr (.inl g_9)))] := hD
  refine lv_istore (lv' := [(5, .int (b01 (outF (xs 1) 0 60 || outF (xs 2) 0 60))), (4, .int 0), (3, .ref O), (2, .ref M), (1, .ref X), (0, .ref b)]) hx hb dL_law_233 hl (by decide) rfl (fun ls hl => ?_)
  refine lv_aload_n hx hb dL_law_235 rfl (lv_at hl 3 rfl) ?_
  refine lv_aload_n hx hb dL_law_236 rfl (lv_at hl 5 rfl) ?_
  refine lv_iload hx hb dL_law_237 (lv_at hl 1 rfl) ?_
  refine lv_iconst (v := 1) hx hb dL_law_239 (by decide) ?_
  refine lv_iadd hx hb dL_law_240 ?_
  refine k_st1 (y := 1) (by decide) ?_
  refine va_sld hx hb hX hbl hbA hS (i := 1) (vpd (by decide)) dL_law_241 ?_
  refine k_st1 (y := xs 1) (congrArg xs (by decide)) ?_
  refine lv_aload_n hx hb dL_law_242 rfl (lv_at hl 5 rfl) ?_
  refine lv_iload hx hb dL_law_243 (lv_at hl 1 rfl) ?_
  refine lv_iconst (v := 2) hx hb dL_law_245 (by decide) ?_
  refine lv_iadd hx hb dL_law_246 ?_
  refine k_st1 (y := 2) (by decide) ?_
  refine va_sld hx hb hX hbl hbA hS (i := 2) (vpd (by decide)) dL_law_247 ?_
  refine k_st1 (y := xs 2) (congrArg xs (by decide)) ?_
  refine n_Vi (ci := 6) (q0 := 0) (wc := [(M, .inr (6, [.int 0, .int 0, .int 0, .int 0, .int 0, .ref ((v 0)), .ref ((v 1)), .ref ((v 2)), .ref ((v 3)), .int 0, .null, .long 0])), ((v 0), .inl (cJ, 12, .inr (.inr (.inr (.inr (fun _ => none))))))]) (wr := [(O, .inl (cL, 1, .inr (.inl g_9)))]) [.int (xs 1), .int (xs 2)] [0, 1] [2] ⟨hx, hb, hml, hown, hts⟩ (fun sz => c_X6_addPlace l dC dI cI cV cJ cL M (v 0) (v 1) (v 2) (v 3) (xs 1) (xs 2) sz) q_ml_L_129 q_im_X6_addPlace q_se_X6_addPlace q_ini_X6 q_co_X6_addPlace (n := 2) (by decide +kernel) rfl ⟨rfl, rfl⟩ ⟨Nat.le_of_ble_eq_true rfl, Nat.le_of_ble_eq_true rfl⟩ hP hD hS hA hK hN rfl rfl (by decide) (by decide) (by decide) rfl rfl rfl hl.1 rfl (Nat.le_of_ble_eq_true rfl) dL_law_248 ⟨Nat.le_of_ble_eq_true rfl, Nat.le_of_ble_eq_true rfl⟩ (fun r_2 u_1 H locs hu_1 hP hD hS => ?_)
  have hP : va_P (dC, dI) cls [(O, .inl (cL, 1, .inr (.inl g_9))), (M, .inr (6, [.int ((u_1).1), .int ((u_1).2.1), .int 0, .int 0, .int ((u_1).2.2.1), .ref ((v 0)), .ref ((v 1)), .ref ((v 2)), .ref ((v 3)), .int 0, (u_1).2.2.2, .long 0]))] H := hP
  have hD : va_D A [(O, .inl (cL, 1, .inr (.inl g_9))), (M, .inr (6, [.int ((u_1).1), .int ((u_1).2.1), .int 0, .int 0, .int ((u_1).2.2.1), .ref ((v 0)), .ref ((v 1)), .ref ((v 2)), .ref ((v 3)), .int 0, (u_1).2.2.2, .long 0]))] := hD
  obtain ⟨hv1, hv2⟩ := hu_1
  refine lv_istore (lv' := [(6, .int r_2), (5, .int (b01 (outF (xs 1) 0 60 || outF (xs 2) 0 60))), (4, .int 0), (3, .ref O), (2, .ref M), (1, .ref X), (0, .ref b)]) hx hb dL_law_251 hl (by decide) rfl (fun ls hl => ?_)
  refine lv_aload_n hx hb dL_law_253 rfl (lv_at hl 4 rfl) ?_
  refine n_Vi (ci := 6) (q0 := 0) (wc := [(M, .inr (6, [.int ((u_1).1), .int ((u_1).2.1), .int 0, .int 0, .int ((u_1).2.2.1), .ref ((v 0)), .ref ((v 1)), .ref ((v 2)), .ref ((v 3)), .int 0, (u_1).2.2.2, .long 0]))]) (wr := [(O, .inl (cL, 1, .inr (.inl g_9)))]) [] [1] [0] ⟨hx, hb, hml, hown, hts⟩ (fun sz => c_X6_thrown l dC dI cI cV cJ cL M (v 0) (v 1) (v 2) (v 3) ((u_1).1) ((u_1).2.2.1) 0 ((u_1).2.2.2) 0 ((u_1).2.1) sz) q_ml_L_130 q_im_X6_thrown q_se_X6_thrown q_ini_X6 q_co_X6_thrown (n := 0) (by decide +kernel) rfl ⟨rfl, rfl⟩ ⟨Nat.le_of_ble_eq_true rfl, Nat.le_of_ble_eq_true rfl⟩ hP hD hS hA hK hN rfl rfl (by decide) (by decide) (by decide) rfl rfl rfl hl.1 rfl (Nat.le_of_ble_eq_true rfl) dL_law_254 ⟨Nat.le_of_ble_eq_true rfl, Nat.le_of_ble_eq_true rfl⟩ (fun r_4 u_3 H locs hu_3 hP hD hS => ?_)
  have hP : va_P (dC, dI) cls [(O, .inl (cL, 1, .inr (.inl g_9)))] H := hP
  have hD : va_D A [(O, .inl (cL, 1, .inr (.inl g_9)))] := hD
  obtain rfl := hu_3
  refine k_st1 (y := b01 (outF (xs 1) 0 60 || outF (xs 2) 0 60)) hv1 ?_
  refine lv_iload hx hb dL_law_257 (lv_at hl 1 rfl) ?_
  refine lv_icmp_eq (tgt := 264) hx hb dL_law_259 (by decide) (fun c_5 => ?_) (fun c_5 => ?_)
  rotate_left
  · exact absurd rfl c_5
  refine lv_iload hx hb dL_law_264 (lv_at hl 1 rfl) ?_
  refine lv_if_ne (tgt := 281) hx hb dL_law_266 (by decide) (fun c_6 => ?_) (fun c_6 => ?_)
  · refine lv_goto (tgt := 2499) hx hb dL_law_281 (by decide) ?_
    refine W.widen (k := 100) (n := 2000) (Nat.le_of_ble_eq_true rfl) (Nat.le_of_ble_eq_true rfl) ?_
    exact law_end l hlT C0 (by rw [hAe]; exact hS) (lv_sub hl [2, 6] rfl)
  · refine lv_aload_n hx hb dL_law_269 rfl (lv_at hl 3 rfl) ?_
    refine lv_iconst (v := 0) hx hb dL_law_270 (by decide) ?_
    refine va_lald (D := (dC, dI)) hx hb hK hP 0 3 rfl rfl (i := 0) (n := 1) (vpd (by decide)) dL_law_271 ?_
    refine k_sl1 (y := 0) (hg9 c_6) ?_
    refine lv_iload hx hb dL_law_272 (lv_at hl 0 rfl) ?_
    refine k_st1 (y := 0) (hv2 c_6) ?_
    refine lv_i2l (v := 0) hx hb dL_law_274 (by decide) ?_
    refine W.lcmp hx hb dL_law_275 ?_
    refine k_st1 (y := 0) (by decide +kernel) ?_
    refine lv_if_eq (tgt := 281) hx hb dL_law_276 (by decide) (fun c_7 => ?_) (fun c_7 => ?_)
    rotate_left
    · first | exact absurd c_7 (by decide) | exact absurd (by decide) c_7
    refine lv_goto (tgt := 2499) hx hb dL_law_281 (by decide) ?_
    refine W.widen (k := 100) (n := 2000) (Nat.le_of_ble_eq_true rfl) (Nat.le_of_ble_eq_true rfl) ?_
    exact law_end l hlT C0 (by rw [hAe]; exact hS) (lv_sub hl [2, 6] rfl)
set_option maxHeartbeats 4000000 in
set_option maxRecDepth 100000 in
theorem law_1 {p : Program} {e : Env} {s : State} {m : MethodId} {below : List Frame} {meth : Method} {c : Code} (l : Launch) (hlT : l.stackTraces = false) {b : Nat} {xs : Nat → Int32} (C0 : lw_At p s m meth c b 7 xs) {dC : Nat → ClassId} {dI : Nat → Nat → Nat} {cI cV cJ cL : ClassId} (hK : va_K (dC, dI) cls (TYP cI cV cJ cL) s) (X : Nat) (u : Nat → Nat) (M : Nat) (v : Nat → Nat) (O : Nat) {H : Heap} {locs : List Loc} {ls : Array Slot} (hP : va_P (dC, dI) cls [(X, .inr (5, [.ref ((u 0)), .ref ((u 10)), .ref ((u 11)), .ref ((u 12)), .ref ((u 13)), .ref ((u 14)), .ref ((u 15)), .int 0, .int 0])), ((u 0), .inr (0, [.ref ((u 1)), .ref ((u 2)), .ref ((u 3)), .ref ((u 4)), .ref ((u 5)), .ref ((u 6)), .ref ((u 7)), .ref ((u 8)), .ref ((u 9)), .int 0, .int 0, .int 0])), ((u 1), .inl (cI, 12, .inl (fun _ => 0))), ((u 2), .inl (cI, 12, .inl (fun _ => 0))), ((u 3), .inl (cI, 144, .inl (fun _ => 0))), ((u 4), .inl (cI, 9, .inl (fun _ => 0))), ((u 5), .inl (cI, 18, .inl (fun _ => 0))), ((u 6), .inl (cI, 18, .inl (fun _ => 0))), ((u 7), .inl (cI, 18, .inl (fun _ => 0))), ((u 8), .inl (cI, 18, .inl (fun _ => 0))), ((u 9), .inl (cI, 18, .inl (fun _ => 0))), (M, .inr (6, [.int 0, .int 0, .int 0, .int 0, .int 0, .ref ((v 0)), .ref ((v 1)), .ref ((v 2)), .ref ((v 3)), .int 0, .null, .long 0])), ((v 0), .inl (cJ, 12, .inr (.inr (.inr (.inr (fun _ => none)))))), (O, .inl (cL, 1, .inr (.inl (fun _ => 0))))] H) (hD : va_D (NA s.heap.size) [(X, .inr (5, [.ref ((u 0)), .ref ((u 10)), .ref ((u 11)), .ref ((u 12)), .ref ((u 13)), .ref ((u 14)), .ref ((u 15)), .int 0, .int 0])), ((u 0), .inr (0, [.ref ((u 1)), .ref ((u 2)), .ref ((u 3)), .ref ((u 4)), .ref ((u 5)), .ref ((u 6)), .ref ((u 7)), .ref ((u 8)), .ref ((u 9)), .int 0, .int 0, .int 0])), ((u 1), .inl (cI, 12, .inl (fun _ => 0))), ((u 2), .inl (cI, 12, .inl (fun _ => 0))), ((u 3), .inl (cI, 144, .inl (fun _ => 0))), ((u 4), .inl (cI, 9, .inl (fun _ => 0))), ((u 5), .inl (cI, 18, .inl (fun _ => 0))), ((u 6), .inl (cI, 18, .inl (fun _ => 0))), ((u 7), .inl (cI, 18, .inl (fun _ => 0))), ((u 8), .inl (cI, 18, .inl (fun _ => 0))), ((u 9), .inl (cI, 18, .inl (fun _ => 0))), (M, .inr (6, [.int 0, .int 0, .int 0, .int 0, .int 0, .ref ((v 0)), .ref ((v 1)), .ref ((v 2)), .ref ((v 3)), .int 0, .null, .long 0])), ((v 0), .inl (cJ, 12, .inr (.inr (.inr (.inr (fun _ => none)))))), (O, .inl (cL, 1, .inr (.inl (fun _ => 0))))]) (hS : va_S (NA s.heap.size) s.heap H locs) (hl : lv_has ls 9 [(4, .int 0), (3, .ref O), (2, .ref M), (1, .ref X), (0, .ref b)]) : W p l e room_1 s m #[Value.ref b] below meth c H locs 48 592 (lw_Z below #[Value.ref b] s) (F0 m 284 ls []) := by
  obtain ⟨hx, hb, hr, hml, hown, hts0, hX, hbl, hlocks, hgv⟩ := id C0
  have hts := st_tt hts0
  have hN := st_N hts0
  have hXs := st_X hts0 hgv
  have hZs := st_Z hts0 hgv
  have hown : s.vm.findClass RL = some m.cls := hown
  obtain ⟨A, hAe⟩ : ∃ A, NA s.heap.size = A := ⟨_, rfl⟩
  rw [hAe] at hZs
  have hA : ∀ q : Nat, s.heap.size ≤ q → A q := fun q h => by rw [← hAe]; exact h
  have hbA : ¬ A b := by rw [← hAe]; exact Nat.not_le.mpr hbl
  rw [hAe] at hD hS
  refine lv_aload_n hx hb dL_law_284 rfl (lv_at hl 3 rfl) ?_
  refine lv_aload_n hx hb dL_law_285 rfl (lv_at hl 4 rfl) ?_
  refine lv_iload hx hb dL_law_286 (lv_at hl 0 rfl) ?_
  refine lv_iconst (v := 1) hx hb dL_law_288 (by decide) ?_
  refine lv_iadd hx hb dL_law_289 ?_
  refine k_st1 (y := 1) (by decide) ?_
  refine va_sld hx hb hX hbl hbA hS (i := 1) (vpd (by decide)) dL_law_290 ?_
  refine k_st1 (y := xs 1) (congrArg xs (by decide)) ?_
  refine lv_aload_n hx hb dL_law_291 rfl (lv_at hl 4 rfl) ?_
  refine lv_iload hx hb dL_law_292 (lv_at hl 0 rfl) ?_
  refine lv_iconst (v := 2) hx hb dL_law_294 (by decide) ?_
  refine lv_iadd hx hb dL_law_295 ?_
  refine k_st1 (y := 2) (by decide) ?_
  refine va_sld hx hb hX hbl hbA hS (i := 2) (vpd (by decide)) dL_law_296 ?_
  refine k_st1 (y := xs 2) (congrArg xs (by decide)) ?_
  refine lv_aload_n hx hb dL_law_297 rfl (lv_at hl 4 rfl) ?_
  refine lv_iload hx hb dL_law_298 (lv_at hl 0 rfl) ?_
  refine lv_iconst (v := 3) hx hb dL_law_300 (by decide) ?_
  refine lv_iadd hx hb dL_law_301 ?_
  refine k_st1 (y := 3) (by decide) ?_
  refine va_sld hx hb hX hbl hbA hS (i := 3) (vpd (by decide)) dL_law_302 ?_
  refine k_st1 (y := xs 3) (congrArg xs (by decide)) ?_
  refine lv_aload_n hx hb dL_law_303 rfl (lv_at hl 4 rfl) ?_
  refine lv_iload hx hb dL_law_304 (lv_at hl 0 rfl) ?_
  refine lv_iconst (v := 4) hx hb dL_law_306 (by decide) ?_
  refine lv_iadd hx hb dL_law_307 ?_
  refine k_st1 (y := 4) (by decide) ?_
  refine va_sld hx hb hX hbl hbA hS (i := 4) (vpd (by decide)) dL_law_308 ?_
  refine k_st1 (y := xs 4) (congrArg xs (by decide)) ?_
  refine lv_aload_n hx hb dL_law_309 rfl (lv_at hl 4 rfl) ?_
  refine lv_iload hx hb dL_law_310 (lv_at hl 0 rfl) ?_
  refine lv_iconst (v := 5) hx hb dL_law_312 (by decide) ?_
  refine lv_iadd hx hb dL_law_313 ?_
  refine k_st1 (y := 5) (by decide) ?_
  refine va_sld hx hb hX hbl hbA hS (i := 5) (vpd (by decide)) dL_law_314 ?_
  refine k_st1 (y := xs 5) (congrArg xs (by decide)) ?_
  refine lv_aload_n hx hb dL_law_315 rfl (lv_at hl 4 rfl) ?_
  refine lv_iload hx hb dL_law_316 (lv_at hl 0 rfl) ?_
  refine lv_bipush (v := 6) hx hb dL_law_318 (by decide) ?_
  refine lv_iadd hx hb dL_law_320 ?_
  refine k_st1 (y := 6) (by decide) ?_
  refine va_sld hx hb hX hbl hbA hS (i := 6) (vpd (by decide)) dL_law_321 ?_
  refine k_st1 (y := xs 6) (congrArg xs (by decide)) ?_
  refine lv_aload_n hx hb dL_law_322 rfl (lv_at hl 1 rfl) ?_
  refine x_Si (wc := [(X, .inr (5, [.ref ((u 0)), .ref ((u 10)), .ref ((u 11)), .ref ((u 12)), .ref ((u 13)), .ref ((u 14)), .ref ((u 15)), .int 0, .int 0])), ((u 0), .inr (0, [.ref ((u 1)), .ref ((u 2)), .ref ((u 3)), .ref ((u 4)), .ref ((u 5)), .ref ((u 6)), .ref ((u 7)), .ref ((u 8)), .ref ((u 9)), .int 0, .int 0, .int 0])), (O, .inl (cL, 1, .inr (.inl (fun _ => 0))))]) (wr := [((u 1), .inl (cI, 12, .inl (fun _ => 0))), ((u 2), .inl (cI, 12, .inl (fun _ => 0))), ((u 3), .inl (cI, 144, .inl (fun _ => 0))), ((u 4), .inl (cI, 9, .inl (fun _ => 0))), ((u 5), .inl (cI, 18, .inl (fun _ => 0))), ((u 6), .inl (cI, 18, .inl (fun _ => 0))), ((u 7), .inl (cI, 18, .inl (fun _ => 0))), ((u 8), .inl (cI, 18, .inl (fun _ => 0))), ((u 9), .inl (cI, 18, .inl (fun _ => 0))), (M, .inr (6, [.int 0, .int 0, .int 0, .int 0, .int 0, .ref ((v 0)), .ref ((v 1)), .ref ((v 2)), .ref ((v 3)), .int 0, .null, .long 0])), ((v 0), .inl (cJ, 12, .inr (.inr (.inr (.inr (fun _ => none))))))]) [.ref X, .int (xs 1), .int (xs 2), .int (xs 3), .int (xs 4), .int (xs 5), .int (xs 6), .ref O] [0, 1, 13] [2, 3, 4, 5, 6, 7, 8, 9, 10, 11, 12] ⟨hx, hb, hml, hown, hts⟩ (fun sz => h_addVehicle l hlT dC dI cI cV cJ cL X (u 0) (u 10) (u 11) (u 12) (fun i => u (i + 1)) (fun i => u (i + 13)) O (fun _ => 0) (xs 1) (xs 2) (xs 3) (xs 4) (xs 5) (xs 6) sz) q_ml_L_134 q_st_L_addVehicle q_ini_L q_cw_L_addVehicle (n := 8) (by decide +kernel) rfl ⟨rfl, rfl⟩ ⟨Nat.le_of_ble_eq_true rfl, Nat.le_of_ble_eq_true rfl⟩ hP hD hS hA hK hN hXs hZs rfl rfl (by decide) (by decide) (by decide) hl.1 rfl (Nat.le_of_ble_eq_true rfl) dL_law_323 ⟨Nat.le_of_ble_eq_true rfl, Nat.le_of_ble_eq_true rfl⟩ (fun r_9 g_9 H locs hpo hP hD hS => ?_)
  obtain ⟨hr9, hg9⟩ := hpo
  refine k_st1 (y := 1) hr9 ?_
  have hP : va_P (dC, dI) cls [((u 1), .inl (cI, 12, .inl (fun _ => 0))), ((u 2), .inl (cI, 12, .inl (fun _ => 0))), ((u 3), .inl (cI, 144, .inl (fun _ => 0))), ((u 4), .inl (cI, 9, .inl (fun _ => 0))), ((u 5), .inl (cI, 18, .inl (fun _ => 0))), ((u 6), .inl (cI, 18, .inl (fun _ => 0))), ((u 7), .inl (cI, 18, .inl (fun _ => 0))), ((u 8), .inl (cI, 18, .inl (fun _ => 0))), ((u 9), .inl (cI, 18, .inl (fun _ => 0))), (M, .inr (6, [.int 0, .int 0, .int 0, .int 0, .int 0, .ref ((v 0)), .ref ((v 1)), .ref ((v 2)), .ref ((v 3)), .int 0, .null, .long 0])), ((v 0), .inl (cJ, 12, .inr (.inr (.inr (.inr (fun _ => none)))))), (O, .inl (cL, 1, .inr (.inl g_9)))] H := hP
  have hD : va_D A [((u 1), .inl (cI, 12, .inl (fun _ => 0))), ((u 2), .inl (cI, 12, .inl (fun _ => 0))), ((u 3), .inl (cI, 144, .inl (fun _ => 0))), ((u 4), .inl (cI, 9, .inl (fun _ => 0))), ((u 5), .inl (cI, 18, .inl (fun _ => 0))), ((u 6), .inl (cI, 18, .inl (fun _ => 0))), ((u 7), .inl (cI, 18, .inl (fun _ => 0))), ((u 8), .inl (cI, 18, .inl (fun _ => 0))), ((u 9), .inl (cI, 18, .inl (fun _ => 0))), (M, .inr (6, [.int 0, .int 0, .int 0, .int 0, .int 0, .ref ((v 0)), .ref ((v 1)), .ref ((v 2)), .ref ((v 3)), .int 0, .null, .long 0])), ((v 0), .inl (cJ, 12, .inr (.inr (.inr (.inr (fun _ => none)))))), (O, .inl (cL, 1, .inr (.inl g_9)))] := hD
  refine lv_istore (lv' := [(5, .int 1), (4, .int 0), (3, .ref O), (2, .ref M), (1, .ref X), (0, .ref b)]) hx hb dL_law_326 hl (by decide) rfl (fun ls hl => ?_)
  refine lv_aload_n hx hb dL_law_328 rfl (lv_at hl 3 rfl) ?_
  refine lv_aload_n hx hb dL_law_329 rfl (lv_at hl 5 rfl) ?_
  refine lv_iload hx hb dL_law_330 (lv_at hl 1 rfl) ?_
  refine lv_iconst (v := 1) hx hb dL_law_332 (by decide) ?_
  refine lv_iadd hx hb dL_law_333 ?_
  refine k_st1 (y := 1) (by decide) ?_
  refine va_sld hx hb hX hbl hbA hS (i := 1) (vpd (by decide)) dL_law_334 ?_
  refine k_st1 (y := xs 1) (congrArg xs (by decide)) ?_
  refine lv_aload_n hx hb dL_law_335 rfl (lv_at hl 5 rfl) ?_
  refine lv_iload hx hb dL_law_336 (lv_at hl 1 rfl) ?_
  refine lv_iconst (v := 2) hx hb dL_law_338 (by decide) ?_
  refine lv_iadd hx hb dL_law_339 ?_
  refine k_st1 (y := 2) (by decide) ?_
  refine va_sld hx hb hX hbl hbA hS (i := 2) (vpd (by decide)) dL_law_340 ?_
  refine k_st1 (y := xs 2) (congrArg xs (by decide)) ?_
  refine lv_aload_n hx hb dL_law_341 rfl (lv_at hl 5 rfl) ?_
  refine lv_iload hx hb dL_law_342 (lv_at hl 1 rfl) ?_
  refine lv_iconst (v := 3) hx hb dL_law_344 (by decide) ?_
  refine lv_iadd hx hb dL_law_345 ?_
  refine k_st1 (y := 3) (by decide) ?_
  refine va_sld hx hb hX hbl hbA hS (i := 3) (vpd (by decide)) dL_law_346 ?_
  refine k_st1 (y := xs 3) (congrArg xs (by decide)) ?_
  refine lv_aload_n hx hb dL_law_347 rfl (lv_at hl 5 rfl) ?_
  refine lv_iload hx hb dL_law_348 (lv_at hl 1 rfl) ?_
  refine lv_iconst (v := 4) hx hb dL_law_350 (by decide) ?_
  refine lv_iadd hx hb dL_law_351 ?_
  refine k_st1 (y := 4) (by decide) ?_
  refine va_sld hx hb hX hbl hbA hS (i := 4) (vpd (by decide)) dL_law_352 ?_
  refine k_st1 (y := xs 4) (congrArg xs (by decide)) ?_
  refine lv_aload_n hx hb dL_law_353 rfl (lv_at hl 5 rfl) ?_
  refine lv_iload hx hb dL_law_354 (lv_at hl 1 rfl) ?_
  refine lv_iconst (v := 5) hx hb dL_law_356 (by decide) ?_
  refine lv_iadd hx hb dL_law_357 ?_
  refine k_st1 (y := 5) (by decide) ?_
  refine va_sld hx hb hX hbl hbA hS (i := 5) (vpd (by decide)) dL_law_358 ?_
  refine k_st1 (y := xs 5) (congrArg xs (by decide)) ?_
  refine lv_aload_n hx hb dL_law_359 rfl (lv_at hl 5 rfl) ?_
  refine lv_iload hx hb dL_law_360 (lv_at hl 1 rfl) ?_
  refine lv_bipush (v := 6) hx hb dL_law_362 (by decide) ?_
  refine lv_iadd hx hb dL_law_364 ?_
  refine k_st1 (y := 6) (by decide) ?_
  refine va_sld hx hb hX hbl hbA hS (i := 6) (vpd (by decide)) dL_law_365 ?_
  refine k_st1 (y := xs 6) (congrArg xs (by decide)) ?_
  refine n_Vi (ci := 6) (q0 := 0) (wc := [(M, .inr (6, [.int 0, .int 0, .int 0, .int 0, .int 0, .ref ((v 0)), .ref ((v 1)), .ref ((v 2)), .ref ((v 3)), .int 0, .null, .long 0]))]) (wr := [((u 1), .inl (cI, 12, .inl (fun _ => 0))), ((u 2), .inl (cI, 12, .inl (fun _ => 0))), ((u 3), .inl (cI, 144, .inl (fun _ => 0))), ((u 4), .inl (cI, 9, .inl (fun _ => 0))), ((u 5), .inl (cI, 18, .inl (fun _ => 0))), ((u 6), .inl (cI, 18, .inl (fun _ => 0))), ((u 7), .inl (cI, 18, .inl (fun _ => 0))), ((u 8), .inl (cI, 18, .inl (fun _ => 0))), ((u 9), .inl (cI, 18, .inl (fun _ => 0))), ((v 0), .inl (cJ, 12, .inr (.inr (.inr (.inr (fun _ => none)))))), (O, .inl (cL, 1, .inr (.inl g_9)))]) [.int (xs 1), .int (xs 2), .int (xs 3), .int (xs 4), .int (xs 5), .int (xs 6)] [9] [0, 1, 2, 3, 4, 5, 6, 7, 8, 10, 11] ⟨hx, hb, hml, hown, hts⟩ (fun sz => c_X6_addVehicle l dC dI cI cV cJ cL M (v 0) (v 1) (v 2) (v 3) (xs 1) (xs 2) (xs 3) (xs 4) (xs 5) (xs 6) sz) q_ml_L_137 q_im_X6_addVehicle q_se_X6_addVehicle q_ini_X6 q_co_X6_addVehicle (n := 6) (by decide +kernel) rfl ⟨rfl, rfl⟩ ⟨Nat.le_of_ble_eq_true rfl, Nat.le_of_ble_eq_true rfl⟩ hP hD hS hA hK hN rfl rfl (by decide) (by decide) (by decide) rfl rfl rfl hl.1 rfl (Nat.le_of_ble_eq_true rfl) dL_law_366 ⟨Nat.le_of_ble_eq_true rfl, Nat.le_of_ble_eq_true rfl⟩ (fun r_2 u_1 H locs hu_1 hP hD hS => ?_)
  have hP : va_P (dC, dI) cls [((u 1), .inl (cI, 12, .inl (fun _ => 0))), ((u 2), .inl (cI, 12, .inl (fun _ => 0))), ((u 3), .inl (cI, 144, .inl (fun _ => 0))), ((u 4), .inl (cI, 9, .inl (fun _ => 0))), ((u 5), .inl (cI, 18, .inl (fun _ => 0))), ((u 6), .inl (cI, 18, .inl (fun _ => 0))), ((u 7), .inl (cI, 18, .inl (fun _ => 0))), ((u 8), .inl (cI, 18, .inl (fun _ => 0))), ((u 9), .inl (cI, 18, .inl (fun _ => 0))), ((v 0), .inl (cJ, 12, .inr (.inr (.inr (.inr (fun _ => none)))))), (O, .inl (cL, 1, .inr (.inl g_9))), (M, .inr (6, [.int ((u_1).1), .int ((u_1).2.1), .int 0, .int 0, .int ((u_1).2.2.1), .ref ((v 0)), .ref ((v 1)), .ref ((v 2)), .ref ((v 3)), .int 0, (u_1).2.2.2, .long 0]))] H := hP
  have hD : va_D A [((u 1), .inl (cI, 12, .inl (fun _ => 0))), ((u 2), .inl (cI, 12, .inl (fun _ => 0))), ((u 3), .inl (cI, 144, .inl (fun _ => 0))), ((u 4), .inl (cI, 9, .inl (fun _ => 0))), ((u 5), .inl (cI, 18, .inl (fun _ => 0))), ((u 6), .inl (cI, 18, .inl (fun _ => 0))), ((u 7), .inl (cI, 18, .inl (fun _ => 0))), ((u 8), .inl (cI, 18, .inl (fun _ => 0))), ((u 9), .inl (cI, 18, .inl (fun _ => 0))), ((v 0), .inl (cJ, 12, .inr (.inr (.inr (.inr (fun _ => none)))))), (O, .inl (cL, 1, .inr (.inl g_9))), (M, .inr (6, [.int ((u_1).1), .int ((u_1).2.1), .int 0, .int 0, .int ((u_1).2.2.1), .ref ((v 0)), .ref ((v 1)), .ref ((v 2)), .ref ((v 3)), .int 0, (u_1).2.2.2, .long 0]))] := hD
  obtain ⟨hv1, hv2⟩ := hu_1
  refine lv_istore (lv' := [(6, .int r_2), (5, .int 1), (4, .int 0), (3, .ref O), (2, .ref M), (1, .ref X), (0, .ref b)]) hx hb dL_law_369 hl (by decide) rfl (fun ls hl => ?_)
  refine lv_aload_n hx hb dL_law_371 rfl (lv_at hl 4 rfl) ?_
  refine n_Vi (ci := 6) (q0 := 0) (wc := [(M, .inr (6, [.int ((u_1).1), .int ((u_1).2.1), .int 0, .int 0, .int ((u_1).2.2.1), .ref ((v 0)), .ref ((v 1)), .ref ((v 2)), .ref ((v 3)), .int 0, (u_1).2.2.2, .long 0]))]) (wr := [((u 1), .inl (cI, 12, .inl (fun _ => 0))), ((u 2), .inl (cI, 12, .inl (fun _ => 0))), ((u 3), .inl (cI, 144, .inl (fun _ => 0))), ((u 4), .inl (cI, 9, .inl (fun _ => 0))), ((u 5), .inl (cI, 18, .inl (fun _ => 0))), ((u 6), .inl (cI, 18, .inl (fun _ => 0))), ((u 7), .inl (cI, 18, .inl (fun _ => 0))), ((u 8), .inl (cI, 18, .inl (fun _ => 0))), ((u 9), .inl (cI, 18, .inl (fun _ => 0))), ((v 0), .inl (cJ, 12, .inr (.inr (.inr (.inr (fun _ => none)))))), (O, .inl (cL, 1, .inr (.inl g_9)))]) [] [11] [0, 1, 2, 3, 4, 5, 6, 7, 8, 9, 10] ⟨hx, hb, hml, hown, hts⟩ (fun sz => c_X6_thrown l dC dI cI cV cJ cL M (v 0) (v 1) (v 2) (v 3) ((u_1).1) ((u_1).2.2.1) 0 ((u_1).2.2.2) 0 ((u_1).2.1) sz) q_ml_L_130 q_im_X6_thrown q_se_X6_thrown q_ini_X6 q_co_X6_thrown (n := 0) (by decide +kernel) rfl ⟨rfl, rfl⟩ ⟨Nat.le_of_ble_eq_true rfl, Nat.le_of_ble_eq_true rfl⟩ hP hD hS hA hK hN rfl rfl (by decide) (by decide) (by decide) rfl rfl rfl hl.1 rfl (Nat.le_of_ble_eq_true rfl) dL_law_372 ⟨Nat.le_of_ble_eq_true rfl, Nat.le_of_ble_eq_true rfl⟩ (fun r_4 u_3 H locs hu_3 hP hD hS => ?_)
  have hP : va_P (dC, dI) cls [((u 1), .inl (cI, 12, .inl (fun _ => 0))), ((u 2), .inl (cI, 12, .inl (fun _ => 0))), ((u 3), .inl (cI, 144, .inl (fun _ => 0))), ((u 4), .inl (cI, 9, .inl (fun _ => 0))), ((u 5), .inl (cI, 18, .inl (fun _ => 0))), ((u 6), .inl (cI, 18, .inl (fun _ => 0))), ((u 7), .inl (cI, 18, .inl (fun _ => 0))), ((u 8), .inl (cI, 18, .inl (fun _ => 0))), ((u 9), .inl (cI, 18, .inl (fun _ => 0))), ((v 0), .inl (cJ, 12, .inr (.inr (.inr (.inr (fun _ => none)))))), (O, .inl (cL, 1, .inr (.inl g_9)))] H := hP
  have hD : va_D A [((u 1), .inl (cI, 12, .inl (fun _ => 0))), ((u 2), .inl (cI, 12, .inl (fun _ => 0))), ((u 3), .inl (cI, 144, .inl (fun _ => 0))), ((u 4), .inl (cI, 9, .inl (fun _ => 0))), ((u 5), .inl (cI, 18, .inl (fun _ => 0))), ((u 6), .inl (cI, 18, .inl (fun _ => 0))), ((u 7), .inl (cI, 18, .inl (fun _ => 0))), ((u 8), .inl (cI, 18, .inl (fun _ => 0))), ((u 9), .inl (cI, 18, .inl (fun _ => 0))), ((v 0), .inl (cJ, 12, .inr (.inr (.inr (.inr (fun _ => none)))))), (O, .inl (cL, 1, .inr (.inl g_9)))] := hD
  obtain rfl := hu_3
  refine k_st1 (y := 1) hv1 ?_
  refine lv_iload hx hb dL_law_375 (lv_at hl 1 rfl) ?_
  refine lv_icmp_eq (tgt := 382) hx hb dL_law_377 (by decide) (fun c_5 => ?_) (fun c_5 => ?_)
  rotate_left
  · first | exact absurd c_5 (by decide) | exact absurd (by decide) c_5
  refine lv_iload hx hb dL_law_382 (lv_at hl 1 rfl) ?_
  refine lv_if_ne (tgt := 399) hx hb dL_law_384 (by decide) (fun c_6 => ?_) (fun c_6 => ?_)
  rotate_left
  · first | exact absurd c_6 (by decide) | exact absurd (by decide) c_6
  refine lv_goto (tgt := 2499) hx hb dL_law_399 (by decide) ?_
  refine W.widen (k := 100) (n := 2000) (Nat.le_of_ble_eq_true rfl) (Nat.le_of_ble_eq_true rfl) ?_
  exact law_end l hlT C0 (by rw [hAe]; exact hS) (lv_sub hl [2, 6] rfl)
set_option maxHeartbeats 4000000 in
set_option maxRecDepth 100000 in
theorem law_2 {p : Program} {e : Env} {s : State} {m : MethodId} {below : List Frame} {meth : Method} {c : Code} (l : Launch) (hlT : l.stackTraces = false) {b : Nat} {xs : Nat → Int32} (C0 : lw_At p s m meth c b 7 xs) {dC : Nat → ClassId} {dI : Nat → Nat → Nat} {cI cV cJ cL : ClassId} (hK : va_K (dC, dI) cls (TYP cI cV cJ cL) s) (X : Nat) (u : Nat → Nat) (M : Nat) (v : Nat → Nat) (O : Nat) {H : Heap} {locs : List Loc} {ls : Array Slot} (hP : va_P (dC, dI) cls [(X, .inr (5, [.ref ((u 0)), .ref ((u 10)), .ref ((u 11)), .ref ((u 12)), .ref ((u 13)), .ref ((u 14)), .ref ((u 15)), .int 0, .int 0])), ((u 0), .inr (0, [.ref ((u 1)), .ref ((u 2)), .ref ((u 3)), .ref ((u 4)), .ref ((u 5)), .ref ((u 6)), .ref ((u 7)), .ref ((u 8)), .ref ((u 9)), .int 0, .int 0, .int 0])), ((u 1), .inl (cI, 12, .inl (fun _ => 0))), ((u 2), .inl (cI, 12, .inl (fun _ => 0))), ((u 3), .inl (cI, 144, .inl (fun _ => 0))), ((u 4), .inl (cI, 9, .inl (fun _ => 0))), ((u 5), .inl (cI, 18, .inl (fun _ => 0))), ((u 6), .inl (cI, 18, .inl (fun _ => 0))), ((u 7), .inl (cI, 18, .inl (fun _ => 0))), ((u 8), .inl (cI, 18, .inl (fun _ => 0))), ((u 9), .inl (cI, 18, .inl (fun _ => 0))), (M, .inr (6, [.int 0, .int 0, .int 0, .int 0, .int 0, .ref ((v 0)), .ref ((v 1)), .ref ((v 2)), .ref ((v 3)), .int 0, .null, .long 0])), ((v 0), .inl (cJ, 12, .inr (.inr (.inr (.inr (fun _ => none)))))), (O, .inl (cL, 1, .inr (.inl (fun _ => 0))))] H) (hD : va_D (NA s.heap.size) [(X, .inr (5, [.ref ((u 0)), .ref ((u 10)), .ref ((u 11)), .ref ((u 12)), .ref ((u 13)), .ref ((u 14)), .ref ((u 15)), .int 0, .int 0])), ((u 0), .inr (0, [.ref ((u 1)), .ref ((u 2)), .ref ((u 3)), .ref ((u 4)), .ref ((u 5)), .ref ((u 6)), .ref ((u 7)), .ref ((u 8)), .ref ((u 9)), .int 0, .int 0, .int 0])), ((u 1), .inl (cI, 12, .inl (fun _ => 0))), ((u 2), .inl (cI, 12, .inl (fun _ => 0))), ((u 3), .inl (cI, 144, .inl (fun _ => 0))), ((u 4), .inl (cI, 9, .inl (fun _ => 0))), ((u 5), .inl (cI, 18, .inl (fun _ => 0))), ((u 6), .inl (cI, 18, .inl (fun _ => 0))), ((u 7), .inl (cI, 18, .inl (fun _ => 0))), ((u 8), .inl (cI, 18, .inl (fun _ => 0))), ((u 9), .inl (cI, 18, .inl (fun _ => 0))), (M, .inr (6, [.int 0, .int 0, .int 0, .int 0, .int 0, .ref ((v 0)), .ref ((v 1)), .ref ((v 2)), .ref ((v 3)), .int 0, .null, .long 0])), ((v 0), .inl (cJ, 12, .inr (.inr (.inr (.inr (fun _ => none)))))), (O, .inl (cL, 1, .inr (.inl (fun _ => 0))))]) (hS : va_S (NA s.heap.size) s.heap H locs) (hl : lv_has ls 9 [(4, .int 0), (3, .ref O), (2, .ref M), (1, .ref X), (0, .ref b)]) : W p l e room_1 s m #[Value.ref b] below meth c H locs 48 592 (lw_Z below #[Value.ref b] s) (F0 m 402 ls []) := by
  obtain ⟨hx, hb, hr, hml, hown, hts0, hX, hbl, hlocks, hgv⟩ := id C0
  have hts := st_tt hts0
  have hN := st_N hts0
  have hXs := st_X hts0 hgv
  have hZs := st_Z hts0 hgv
  have hown : s.vm.findClass RL = some m.cls := hown
  obtain ⟨A, hAe⟩ : ∃ A, NA s.heap.size = A := ⟨_, rfl⟩
  rw [hAe] at hZs
  have hA : ∀ q : Nat, s.heap.size ≤ q → A q := fun q h => by rw [← hAe]; exact h
  have hbA : ¬ A b := by rw [← hAe]; exact Nat.not_le.mpr hbl
  rw [hAe] at hD hS
  refine lv_aload_n hx hb dL_law_402 rfl (lv_at hl 3 rfl) ?_
  refine lv_aload_n hx hb dL_law_403 rfl (lv_at hl 4 rfl) ?_
  refine lv_iload hx hb dL_law_404 (lv_at hl 0 rfl) ?_
  refine lv_iconst (v := 1) hx hb dL_law_406 (by decide) ?_
  refine lv_iadd hx hb dL_law_407 ?_
  refine k_st1 (y := 1) (by decide) ?_
  refine va_sld hx hb hX hbl hbA hS (i := 1) (vpd (by decide)) dL_law_408 ?_
  refine k_st1 (y := xs 1) (congrArg xs (by decide)) ?_
  refine lv_aload_n hx hb dL_law_409 rfl (lv_at hl 4 rfl) ?_
  refine lv_iload hx hb dL_law_410 (lv_at hl 0 rfl) ?_
  refine lv_iconst (v := 2) hx hb dL_law_412 (by decide) ?_
  refine lv_iadd hx hb dL_law_413 ?_
  refine k_st1 (y := 2) (by decide) ?_
  refine va_sld hx hb hX hbl hbA hS (i := 2) (vpd (by decide)) dL_law_414 ?_
  refine k_st1 (y := xs 2) (congrArg xs (by decide)) ?_
  refine lv_aload_n hx hb dL_law_415 rfl (lv_at hl 4 rfl) ?_
  refine lv_iload hx hb dL_law_416 (lv_at hl 0 rfl) ?_
  refine lv_iconst (v := 3) hx hb dL_law_418 (by decide) ?_
  refine lv_iadd hx hb dL_law_419 ?_
  refine k_st1 (y := 3) (by decide) ?_
  refine va_sld hx hb hX hbl hbA hS (i := 3) (vpd (by decide)) dL_law_420 ?_
  refine k_st1 (y := xs 3) (congrArg xs (by decide)) ?_
  refine lv_aload_n hx hb dL_law_421 rfl (lv_at hl 4 rfl) ?_
  refine lv_iload hx hb dL_law_422 (lv_at hl 0 rfl) ?_
  refine lv_iconst (v := 4) hx hb dL_law_424 (by decide) ?_
  refine lv_iadd hx hb dL_law_425 ?_
  refine k_st1 (y := 4) (by decide) ?_
  refine va_sld hx hb hX hbl hbA hS (i := 4) (vpd (by decide)) dL_law_426 ?_
  refine k_st1 (y := xs 4) (congrArg xs (by decide)) ?_
  refine lv_aload_n hx hb dL_law_427 rfl (lv_at hl 4 rfl) ?_
  refine lv_iload hx hb dL_law_428 (lv_at hl 0 rfl) ?_
  refine lv_iconst (v := 5) hx hb dL_law_430 (by decide) ?_
  refine lv_iadd hx hb dL_law_431 ?_
  refine k_st1 (y := 5) (by decide) ?_
  refine va_sld hx hb hX hbl hbA hS (i := 5) (vpd (by decide)) dL_law_432 ?_
  refine k_st1 (y := xs 5) (congrArg xs (by decide)) ?_
  refine lv_aload_n hx hb dL_law_433 rfl (lv_at hl 1 rfl) ?_
  refine x_Si (wc := [(X, .inr (5, [.ref ((u 0)), .ref ((u 10)), .ref ((u 11)), .ref ((u 12)), .ref ((u 13)), .ref ((u 14)), .ref ((u 15)), .int 0, .int 0])), ((u 0), .inr (0, [.ref ((u 1)), .ref ((u 2)), .ref ((u 3)), .ref ((u 4)), .ref ((u 5)), .ref ((u 6)), .ref ((u 7)), .ref ((u 8)), .ref ((u 9)), .int 0, .int 0, .int 0])), (O, .inl (cL, 1, .inr (.inl (fun _ => 0))))]) (wr := [((u 1), .inl (cI, 12, .inl (fun _ => 0))), ((u 2), .inl (cI, 12, .inl (fun _ => 0))), ((u 3), .inl (cI, 144, .inl (fun _ => 0))), ((u 4), .inl (cI, 9, .inl (fun _ => 0))), ((u 5), .inl (cI, 18, .inl (fun _ => 0))), ((u 6), .inl (cI, 18, .inl (fun _ => 0))), ((u 7), .inl (cI, 18, .inl (fun _ => 0))), ((u 8), .inl (cI, 18, .inl (fun _ => 0))), ((u 9), .inl (cI, 18, .inl (fun _ => 0))), (M, .inr (6, [.int 0, .int 0, .int 0, .int 0, .int 0, .ref ((v 0)), .ref ((v 1)), .ref ((v 2)), .ref ((v 3)), .int 0, .null, .long 0])), ((v 0), .inl (cJ, 12, .inr (.inr (.inr (.inr (fun _ => none))))))]) [.ref X, .int (xs 1), .int (xs 2), .int (xs 3), .int (xs 4), .int (xs 5), .ref O] [0, 1, 13] [2, 3, 4, 5, 6, 7, 8, 9, 10, 11, 12] ⟨hx, hb, hml, hown, hts⟩ (fun sz => h_addJob l hlT dC dI cI cV cJ cL X (u 0) (u 10) (u 11) (u 12) (fun i => u (i + 1)) (fun i => u (i + 13)) O (fun _ => 0) (xs 1) (xs 2) (xs 3) (xs 4) (xs 5) sz) q_ml_L_138 q_st_L_addJob q_ini_L q_cw_L_addJob (n := 7) (by decide +kernel) rfl ⟨rfl, rfl⟩ ⟨Nat.le_of_ble_eq_true rfl, Nat.le_of_ble_eq_true rfl⟩ hP hD hS hA hK hN hXs hZs rfl rfl (by decide) (by decide) (by decide) hl.1 rfl (Nat.le_of_ble_eq_true rfl) dL_law_434 ⟨Nat.le_of_ble_eq_true rfl, Nat.le_of_ble_eq_true rfl⟩ (fun r_9 g_9 H locs hpo hP hD hS => ?_)
  obtain ⟨hr9, hg9⟩ := hpo
  refine k_st1 (y := 1) hr9 ?_
  have hP : va_P (dC, dI) cls [((u 1), .inl (cI, 12, .inl (fun _ => 0))), ((u 2), .inl (cI, 12, .inl (fun _ => 0))), ((u 3), .inl (cI, 144, .inl (fun _ => 0))), ((u 4), .inl (cI, 9, .inl (fun _ => 0))), ((u 5), .inl (cI, 18, .inl (fun _ => 0))), ((u 6), .inl (cI, 18, .inl (fun _ => 0))), ((u 7), .inl (cI, 18, .inl (fun _ => 0))), ((u 8), .inl (cI, 18, .inl (fun _ => 0))), ((u 9), .inl (cI, 18, .inl (fun _ => 0))), (M, .inr (6, [.int 0, .int 0, .int 0, .int 0, .int 0, .ref ((v 0)), .ref ((v 1)), .ref ((v 2)), .ref ((v 3)), .int 0, .null, .long 0])), ((v 0), .inl (cJ, 12, .inr (.inr (.inr (.inr (fun _ => none)))))), (O, .inl (cL, 1, .inr (.inl g_9)))] H := hP
  have hD : va_D A [((u 1), .inl (cI, 12, .inl (fun _ => 0))), ((u 2), .inl (cI, 12, .inl (fun _ => 0))), ((u 3), .inl (cI, 144, .inl (fun _ => 0))), ((u 4), .inl (cI, 9, .inl (fun _ => 0))), ((u 5), .inl (cI, 18, .inl (fun _ => 0))), ((u 6), .inl (cI, 18, .inl (fun _ => 0))), ((u 7), .inl (cI, 18, .inl (fun _ => 0))), ((u 8), .inl (cI, 18, .inl (fun _ => 0))), ((u 9), .inl (cI, 18, .inl (fun _ => 0))), (M, .inr (6, [.int 0, .int 0, .int 0, .int 0, .int 0, .ref ((v 0)), .ref ((v 1)), .ref ((v 2)), .ref ((v 3)), .int 0, .null, .long 0])), ((v 0), .inl (cJ, 12, .inr (.inr (.inr (.inr (fun _ => none)))))), (O, .inl (cL, 1, .inr (.inl g_9)))] := hD
  refine lv_istore (lv' := [(5, .int 1), (4, .int 0), (3, .ref O), (2, .ref M), (1, .ref X), (0, .ref b)]) hx hb dL_law_437 hl (by decide) rfl (fun ls hl => ?_)
  refine lv_aload_n hx hb dL_law_439 rfl (lv_at hl 3 rfl) ?_
  refine lv_aload_n hx hb dL_law_440 rfl (lv_at hl 5 rfl) ?_
  refine lv_iload hx hb dL_law_441 (lv_at hl 1 rfl) ?_
  refine lv_iconst (v := 1) hx hb dL_law_443 (by decide) ?_
  refine lv_iadd hx hb dL_law_444 ?_
  refine k_st1 (y := 1) (by decide) ?_
  refine va_sld hx hb hX hbl hbA hS (i := 1) (vpd (by decide)) dL_law_445 ?_
  refine k_st1 (y := xs 1) (congrArg xs (by decide)) ?_
  refine lv_aload_n hx hb dL_law_446 rfl (lv_at hl 5 rfl) ?_
  refine lv_iload hx hb dL_law_447 (lv_at hl 1 rfl) ?_
  refine lv_iconst (v := 2) hx hb dL_law_449 (by decide) ?_
  refine lv_iadd hx hb dL_law_450 ?_
  refine k_st1 (y := 2) (by decide) ?_
  refine va_sld hx hb hX hbl hbA hS (i := 2) (vpd (by decide)) dL_law_451 ?_
  refine k_st1 (y := xs 2) (congrArg xs (by decide)) ?_
  refine lv_aload_n hx hb dL_law_452 rfl (lv_at hl 5 rfl) ?_
  refine lv_iload hx hb dL_law_453 (lv_at hl 1 rfl) ?_
  refine lv_iconst (v := 3) hx hb dL_law_455 (by decide) ?_
  refine lv_iadd hx hb dL_law_456 ?_
  refine k_st1 (y := 3) (by decide) ?_
  refine va_sld hx hb hX hbl hbA hS (i := 3) (vpd (by decide)) dL_law_457 ?_
  refine k_st1 (y := xs 3) (congrArg xs (by decide)) ?_
  refine lv_aload_n hx hb dL_law_458 rfl (lv_at hl 5 rfl) ?_
  refine lv_iload hx hb dL_law_459 (lv_at hl 1 rfl) ?_
  refine lv_iconst (v := 4) hx hb dL_law_461 (by decide) ?_
  refine lv_iadd hx hb dL_law_462 ?_
  refine k_st1 (y := 4) (by decide) ?_
  refine va_sld hx hb hX hbl hbA hS (i := 4) (vpd (by decide)) dL_law_463 ?_
  refine k_st1 (y := xs 4) (congrArg xs (by decide)) ?_
  refine lv_aload_n hx hb dL_law_464 rfl (lv_at hl 5 rfl) ?_
  refine lv_iload hx hb dL_law_465 (lv_at hl 1 rfl) ?_
  refine lv_iconst (v := 5) hx hb dL_law_467 (by decide) ?_
  refine lv_iadd hx hb dL_law_468 ?_
  refine k_st1 (y := 5) (by decide) ?_
  refine va_sld hx hb hX hbl hbA hS (i := 5) (vpd (by decide)) dL_law_469 ?_
  refine k_st1 (y := xs 5) (congrArg xs (by decide)) ?_
  refine n_Vi (ci := 6) (q0 := 0) (wc := [(M, .inr (6, [.int 0, .int 0, .int 0, .int 0, .int 0, .ref ((v 0)), .ref ((v 1)), .ref ((v 2)), .ref ((v 3)), .int 0, .null, .long 0]))]) (wr := [((u 1), .inl (cI, 12, .inl (fun _ => 0))), ((u 2), .inl (cI, 12, .inl (fun _ => 0))), ((u 3), .inl (cI, 144, .inl (fun _ => 0))), ((u 4), .inl (cI, 9, .inl (fun _ => 0))), ((u 5), .inl (cI, 18, .inl (fun _ => 0))), ((u 6), .inl (cI, 18, .inl (fun _ => 0))), ((u 7), .inl (cI, 18, .inl (fun _ => 0))), ((u 8), .inl (cI, 18, .inl (fun _ => 0))), ((u 9), .inl (cI, 18, .inl (fun _ => 0))), ((v 0), .inl (cJ, 12, .inr (.inr (.inr (.inr (fun _ => none)))))), (O, .inl (cL, 1, .inr (.inl g_9)))]) [.int (xs 1), .int (xs 2), .int (xs 3), .int (xs 4), .int (xs 5)] [9] [0, 1, 2, 3, 4, 5, 6, 7, 8, 10, 11] ⟨hx, hb, hml, hown, hts⟩ (fun sz => c_X6_addJob l dC dI cI cV cJ cL M (v 0) (v 1) (v 2) (v 3) (xs 1) (xs 2) (xs 3) (xs 4) (xs 5) sz) q_ml_L_141 q_im_X6_addJob q_se_X6_addJob q_ini_X6 q_co_X6_addJob (n := 5) (by decide +kernel) rfl ⟨rfl, rfl⟩ ⟨Nat.le_of_ble_eq_true rfl, Nat.le_of_ble_eq_true rfl⟩ hP hD hS hA hK hN rfl rfl (by decide) (by decide) (by decide) rfl rfl rfl hl.1 rfl (Nat.le_of_ble_eq_true rfl) dL_law_470 ⟨Nat.le_of_ble_eq_true rfl, Nat.le_of_ble_eq_true rfl⟩ (fun r_2 u_1 H locs hu_1 hP hD hS => ?_)
  have hP : va_P (dC, dI) cls [((u 1), .inl (cI, 12, .inl (fun _ => 0))), ((u 2), .inl (cI, 12, .inl (fun _ => 0))), ((u 3), .inl (cI, 144, .inl (fun _ => 0))), ((u 4), .inl (cI, 9, .inl (fun _ => 0))), ((u 5), .inl (cI, 18, .inl (fun _ => 0))), ((u 6), .inl (cI, 18, .inl (fun _ => 0))), ((u 7), .inl (cI, 18, .inl (fun _ => 0))), ((u 8), .inl (cI, 18, .inl (fun _ => 0))), ((u 9), .inl (cI, 18, .inl (fun _ => 0))), ((v 0), .inl (cJ, 12, .inr (.inr (.inr (.inr (fun _ => none)))))), (O, .inl (cL, 1, .inr (.inl g_9))), (M, .inr (6, [.int ((u_1).1), .int ((u_1).2.1), .int 0, .int 0, .int ((u_1).2.2.1), .ref ((v 0)), .ref ((v 1)), .ref ((v 2)), .ref ((v 3)), .int 0, (u_1).2.2.2, .long 0]))] H := hP
  have hD : va_D A [((u 1), .inl (cI, 12, .inl (fun _ => 0))), ((u 2), .inl (cI, 12, .inl (fun _ => 0))), ((u 3), .inl (cI, 144, .inl (fun _ => 0))), ((u 4), .inl (cI, 9, .inl (fun _ => 0))), ((u 5), .inl (cI, 18, .inl (fun _ => 0))), ((u 6), .inl (cI, 18, .inl (fun _ => 0))), ((u 7), .inl (cI, 18, .inl (fun _ => 0))), ((u 8), .inl (cI, 18, .inl (fun _ => 0))), ((u 9), .inl (cI, 18, .inl (fun _ => 0))), ((v 0), .inl (cJ, 12, .inr (.inr (.inr (.inr (fun _ => none)))))), (O, .inl (cL, 1, .inr (.inl g_9))), (M, .inr (6, [.int ((u_1).1), .int ((u_1).2.1), .int 0, .int 0, .int ((u_1).2.2.1), .ref ((v 0)), .ref ((v 1)), .ref ((v 2)), .ref ((v 3)), .int 0, (u_1).2.2.2, .long 0]))] := hD
  obtain ⟨hv1, hv2⟩ := hu_1
  refine lv_istore (lv' := [(6, .int r_2), (5, .int 1), (4, .int 0), (3, .ref O), (2, .ref M), (1, .ref X), (0, .ref b)]) hx hb dL_law_473 hl (by decide) rfl (fun ls hl => ?_)
  refine lv_aload_n hx hb dL_law_475 rfl (lv_at hl 4 rfl) ?_
  refine n_Vi (ci := 6) (q0 := 0) (wc := [(M, .inr (6, [.int ((u_1).1), .int ((u_1).2.1), .int 0, .int 0, .int ((u_1).2.2.1), .ref ((v 0)), .ref ((v 1)), .ref ((v 2)), .ref ((v 3)), .int 0, (u_1).2.2.2, .long 0]))]) (wr := [((u 1), .inl (cI, 12, .inl (fun _ => 0))), ((u 2), .inl (cI, 12, .inl (fun _ => 0))), ((u 3), .inl (cI, 144, .inl (fun _ => 0))), ((u 4), .inl (cI, 9, .inl (fun _ => 0))), ((u 5), .inl (cI, 18, .inl (fun _ => 0))), ((u 6), .inl (cI, 18, .inl (fun _ => 0))), ((u 7), .inl (cI, 18, .inl (fun _ => 0))), ((u 8), .inl (cI, 18, .inl (fun _ => 0))), ((u 9), .inl (cI, 18, .inl (fun _ => 0))), ((v 0), .inl (cJ, 12, .inr (.inr (.inr (.inr (fun _ => none)))))), (O, .inl (cL, 1, .inr (.inl g_9)))]) [] [11] [0, 1, 2, 3, 4, 5, 6, 7, 8, 9, 10] ⟨hx, hb, hml, hown, hts⟩ (fun sz => c_X6_thrown l dC dI cI cV cJ cL M (v 0) (v 1) (v 2) (v 3) ((u_1).1) ((u_1).2.2.1) 0 ((u_1).2.2.2) 0 ((u_1).2.1) sz) q_ml_L_130 q_im_X6_thrown q_se_X6_thrown q_ini_X6 q_co_X6_thrown (n := 0) (by decide +kernel) rfl ⟨rfl, rfl⟩ ⟨Nat.le_of_ble_eq_true rfl, Nat.le_of_ble_eq_true rfl⟩ hP hD hS hA hK hN rfl rfl (by decide) (by decide) (by decide) rfl rfl rfl hl.1 rfl (Nat.le_of_ble_eq_true rfl) dL_law_476 ⟨Nat.le_of_ble_eq_true rfl, Nat.le_of_ble_eq_true rfl⟩ (fun r_4 u_3 H locs hu_3 hP hD hS => ?_)
  have hP : va_P (dC, dI) cls [((u 1), .inl (cI, 12, .inl (fun _ => 0))), ((u 2), .inl (cI, 12, .inl (fun _ => 0))), ((u 3), .inl (cI, 144, .inl (fun _ => 0))), ((u 4), .inl (cI, 9, .inl (fun _ => 0))), ((u 5), .inl (cI, 18, .inl (fun _ => 0))), ((u 6), .inl (cI, 18, .inl (fun _ => 0))), ((u 7), .inl (cI, 18, .inl (fun _ => 0))), ((u 8), .inl (cI, 18, .inl (fun _ => 0))), ((u 9), .inl (cI, 18, .inl (fun _ => 0))), ((v 0), .inl (cJ, 12, .inr (.inr (.inr (.inr (fun _ => none)))))), (O, .inl (cL, 1, .inr (.inl g_9)))] H := hP
  have hD : va_D A [((u 1), .inl (cI, 12, .inl (fun _ => 0))), ((u 2), .inl (cI, 12, .inl (fun _ => 0))), ((u 3), .inl (cI, 144, .inl (fun _ => 0))), ((u 4), .inl (cI, 9, .inl (fun _ => 0))), ((u 5), .inl (cI, 18, .inl (fun _ => 0))), ((u 6), .inl (cI, 18, .inl (fun _ => 0))), ((u 7), .inl (cI, 18, .inl (fun _ => 0))), ((u 8), .inl (cI, 18, .inl (fun _ => 0))), ((u 9), .inl (cI, 18, .inl (fun _ => 0))), ((v 0), .inl (cJ, 12, .inr (.inr (.inr (.inr (fun _ => none)))))), (O, .inl (cL, 1, .inr (.inl g_9)))] := hD
  obtain rfl := hu_3
  refine k_st1 (y := 1) hv1 ?_
  refine lv_iload hx hb dL_law_479 (lv_at hl 1 rfl) ?_
  refine lv_icmp_eq (tgt := 486) hx hb dL_law_481 (by decide) (fun c_5 => ?_) (fun c_5 => ?_)
  rotate_left
  · first | exact absurd c_5 (by decide) | exact absurd (by decide) c_5
  refine lv_iload hx hb dL_law_486 (lv_at hl 1 rfl) ?_
  refine lv_if_ne (tgt := 503) hx hb dL_law_488 (by decide) (fun c_6 => ?_) (fun c_6 => ?_)
  rotate_left
  · first | exact absurd c_6 (by decide) | exact absurd (by decide) c_6
  refine lv_goto (tgt := 2499) hx hb dL_law_503 (by decide) ?_
  refine W.widen (k := 100) (n := 2000) (Nat.le_of_ble_eq_true rfl) (Nat.le_of_ble_eq_true rfl) ?_
  exact law_end l hlT C0 (by rw [hAe]; exact hS) (lv_sub hl [2, 6] rfl)
set_option maxHeartbeats 4000000 in
set_option maxRecDepth 100000 in
theorem law_3 {p : Program} {e : Env} {s : State} {m : MethodId} {below : List Frame} {meth : Method} {c : Code} (l : Launch) (hlT : l.stackTraces = false) {b : Nat} {xs : Nat → Int32} (C0 : lw_At p s m meth c b 7 xs) {dC : Nat → ClassId} {dI : Nat → Nat → Nat} {cI cV cJ cL : ClassId} (hK : va_K (dC, dI) cls (TYP cI cV cJ cL) s) (X : Nat) (u : Nat → Nat) (M : Nat) (v : Nat → Nat) (O : Nat) {H : Heap} {locs : List Loc} {ls : Array Slot} (hP : va_P (dC, dI) cls [(X, .inr (5, [.ref ((u 0)), .ref ((u 10)), .ref ((u 11)), .ref ((u 12)), .ref ((u 13)), .ref ((u 14)), .ref ((u 15)), .int 0, .int 0])), ((u 0), .inr (0, [.ref ((u 1)), .ref ((u 2)), .ref ((u 3)), .ref ((u 4)), .ref ((u 5)), .ref ((u 6)), .ref ((u 7)), .ref ((u 8)), .ref ((u 9)), .int 0, .int 0, .int 0])), ((u 1), .inl (cI, 12, .inl (fun _ => 0))), ((u 2), .inl (cI, 12, .inl (fun _ => 0))), ((u 3), .inl (cI, 144, .inl (fun _ => 0))), ((u 4), .inl (cI, 9, .inl (fun _ => 0))), ((u 5), .inl (cI, 18, .inl (fun _ => 0))), ((u 6), .inl (cI, 18, .inl (fun _ => 0))), ((u 7), .inl (cI, 18, .inl (fun _ => 0))), ((u 8), .inl (cI, 18, .inl (fun _ => 0))), ((u 9), .inl (cI, 18, .inl (fun _ => 0))), (M, .inr (6, [.int 0, .int 0, .int 0, .int 0, .int 0, .ref ((v 0)), .ref ((v 1)), .ref ((v 2)), .ref ((v 3)), .int 0, .null, .long 0])), ((v 0), .inl (cJ, 12, .inr (.inr (.inr (.inr (fun _ => none)))))), (O, .inl (cL, 1, .inr (.inl (fun _ => 0))))] H) (hD : va_D (NA s.heap.size) [(X, .inr (5, [.ref ((u 0)), .ref ((u 10)), .ref ((u 11)), .ref ((u 12)), .ref ((u 13)), .ref ((u 14)), .ref ((u 15)), .int 0, .int 0])), ((u 0), .inr (0, [.ref ((u 1)), .ref ((u 2)), .ref ((u 3)), .ref ((u 4)), .ref ((u 5)), .ref ((u 6)), .ref ((u 7)), .ref ((u 8)), .ref ((u 9)), .int 0, .int 0, .int 0])), ((u 1), .inl (cI, 12, .inl (fun _ => 0))), ((u 2), .inl (cI, 12, .inl (fun _ => 0))), ((u 3), .inl (cI, 144, .inl (fun _ => 0))), ((u 4), .inl (cI, 9, .inl (fun _ => 0))), ((u 5), .inl (cI, 18, .inl (fun _ => 0))), ((u 6), .inl (cI, 18, .inl (fun _ => 0))), ((u 7), .inl (cI, 18, .inl (fun _ => 0))), ((u 8), .inl (cI, 18, .inl (fun _ => 0))), ((u 9), .inl (cI, 18, .inl (fun _ => 0))), (M, .inr (6, [.int 0, .int 0, .int 0, .int 0, .int 0, .ref ((v 0)), .ref ((v 1)), .ref ((v 2)), .ref ((v 3)), .int 0, .null, .long 0])), ((v 0), .inl (cJ, 12, .inr (.inr (.inr (.inr (fun _ => none)))))), (O, .inl (cL, 1, .inr (.inl (fun _ => 0))))]) (hS : va_S (NA s.heap.size) s.heap H locs) (hl : lv_has ls 9 [(4, .int 0), (3, .ref O), (2, .ref M), (1, .ref X), (0, .ref b)]) : W p l e room_1 s m #[Value.ref b] below meth c H locs 48 592 (lw_Z below #[Value.ref b] s) (F0 m 506 ls []) := by
  obtain ⟨hx, hb, hr, hml, hown, hts0, hX, hbl, hlocks, hgv⟩ := id C0
  have hts := st_tt hts0
  have hN := st_N hts0
  have hXs := st_X hts0 hgv
  have hZs := st_Z hts0 hgv
  have hown : s.vm.findClass RL = some m.cls := hown
  obtain ⟨A, hAe⟩ : ∃ A, NA s.heap.size = A := ⟨_, rfl⟩
  rw [hAe] at hZs
  have hA : ∀ q : Nat, s.heap.size ≤ q → A q := fun q h => by rw [← hAe]; exact h
  have hbA : ¬ A b := by rw [← hAe]; exact Nat.not_le.mpr hbl
  rw [hAe] at hD hS
  refine lv_aload_n hx hb dL_law_506 rfl (lv_at hl 3 rfl) ?_
  refine lv_aload_n hx hb dL_law_507 rfl (lv_at hl 4 rfl) ?_
  refine lv_iload hx hb dL_law_508 (lv_at hl 0 rfl) ?_
  refine lv_iconst (v := 1) hx hb dL_law_510 (by decide) ?_
  refine lv_iadd hx hb dL_law_511 ?_
  refine k_st1 (y := 1) (by decide) ?_
  refine va_sld hx hb hX hbl hbA hS (i := 1) (vpd (by decide)) dL_law_512 ?_
  refine k_st1 (y := xs 1) (congrArg xs (by decide)) ?_
  refine lv_aload_n hx hb dL_law_513 rfl (lv_at hl 4 rfl) ?_
  refine lv_iload hx hb dL_law_514 (lv_at hl 0 rfl) ?_
  refine lv_iconst (v := 2) hx hb dL_law_516 (by decide) ?_
  refine lv_iadd hx hb dL_law_517 ?_
  refine k_st1 (y := 2) (by decide) ?_
  refine va_sld hx hb hX hbl hbA hS (i := 2) (vpd (by decide)) dL_law_518 ?_
  refine k_st1 (y := xs 2) (congrArg xs (by decide)) ?_
  refine lv_if_eq (tgt := 526) hx hb dL_law_519 (by decide) (fun c_1 => ?_) (fun c_1 => ?_)
  · refine lv_iconst (v := 0) hx hb dL_law_526 (by decide) ?_
    refine lv_aload_n hx hb dL_law_527 rfl (lv_at hl 4 rfl) ?_
    refine lv_iload hx hb dL_law_528 (lv_at hl 0 rfl) ?_
    refine lv_iconst (v := 3) hx hb dL_law_530 (by decide) ?_
    refine lv_iadd hx hb dL_law_531 ?_
    refine k_st1 (y := 3) (by decide) ?_
    refine va_sld hx hb hX hbl hbA hS (i := 3) (vpd (by decide)) dL_law_532 ?_
    refine k_st1 (y := xs 3) (congrArg xs (by decide)) ?_
    refine lv_aload_n hx hb dL_law_533 rfl (lv_at hl 4 rfl) ?_
    refine lv_iload hx hb dL_law_534 (lv_at hl 0 rfl) ?_
    refine lv_iconst (v := 4) hx hb dL_law_536 (by decide) ?_
    refine lv_iadd hx hb dL_law_537 ?_
    refine k_st1 (y := 4) (by decide) ?_
    refine va_sld hx hb hX hbl hbA hS (i := 4) (vpd (by decide)) dL_law_538 ?_
    refine k_st1 (y := xs 4) (congrArg xs (by decide)) ?_
    refine lv_aload_n hx hb dL_law_539 rfl (lv_at hl 1 rfl) ?_
    refine x_Si (wc := [(X, .inr (5, [.ref ((u 0)), .ref ((u 10)), .ref ((u 11)), .ref ((u 12)), .ref ((u 13)), .ref ((u 14)), .ref ((u 15)), .int 0, .int 0])), ((u 0), .inr (0, [.ref ((u 1)), .ref ((u 2)), .ref ((u 3)), .ref ((u 4)), .ref ((u 5)), .ref ((u 6)), .ref ((u 7)), .ref ((u 8)), .ref ((u 9)), .int 0, .int 0, .int 0])), (O, .inl (cL, 1, .inr (.inl (fun _ => 0))))]) (wr := [((u 1), .inl (cI, 12, .inl (fun _ => 0))), ((u 2), .inl (cI, 12, .inl (fun _ => 0))), ((u 3), .inl (cI, 144, .inl (fun _ => 0))), ((u 4), .inl (cI, 9, .inl (fun _ => 0))), ((u 5), .inl (cI, 18, .inl (fun _ => 0))), ((u 6), .inl (cI, 18, .inl (fun _ => 0))), ((u 7), .inl (cI, 18, .inl (fun _ => 0))), ((u 8), .inl (cI, 18, .inl (fun _ => 0))), ((u 9), .inl (cI, 18, .inl (fun _ => 0))), (M, .inr (6, [.int 0, .int 0, .int 0, .int 0, .int 0, .ref ((v 0)), .ref ((v 1)), .ref ((v 2)), .ref ((v 3)), .int 0, .null, .long 0])), ((v 0), .inl (cJ, 12, .inr (.inr (.inr (.inr (fun _ => none))))))]) [.ref X, .int (xs 1), .int 0, .int (xs 3), .int (xs 4), .ref O] [0, 1, 13] [2, 3, 4, 5, 6, 7, 8, 9, 10, 11, 12] ⟨hx, hb, hml, hown, hts⟩ (fun sz => h_setHours l hlT dC dI cI cV cJ cL X (u 0) (u 10) (u 11) (u 12) (fun i => u (i + 1)) (fun i => u (i + 13)) O (fun _ => 0) (xs 1) 0 (xs 3) (xs 4) sz) q_ml_L_142 q_st_L_setHours q_ini_L q_cw_L_setHours (n := 6) (by decide +kernel) rfl ⟨rfl, rfl⟩ ⟨Nat.le_of_ble_eq_true rfl, Nat.le_of_ble_eq_true rfl⟩ hP hD hS hA hK hN hXs hZs rfl rfl (by decide) (by decide) (by decide) hl.1 rfl (Nat.le_of_ble_eq_true rfl) dL_law_540 ⟨Nat.le_of_ble_eq_true rfl, Nat.le_of_ble_eq_true rfl⟩ (fun r_9 g_9 H locs hpo hP hD hS => ?_)
    obtain ⟨hr9, hg9⟩ := hpo
    refine k_st1 (y := 1) hr9 ?_
    have hP : va_P (dC, dI) cls [((u 1), .inl (cI, 12, .inl (fun _ => 0))), ((u 2), .inl (cI, 12, .inl (fun _ => 0))), ((u 3), .inl (cI, 144, .inl (fun _ => 0))), ((u 4), .inl (cI, 9, .inl (fun _ => 0))), ((u 5), .inl (cI, 18, .inl (fun _ => 0))), ((u 6), .inl (cI, 18, .inl (fun _ => 0))), ((u 7), .inl (cI, 18, .inl (fun _ => 0))), ((u 8), .inl (cI, 18, .inl (fun _ => 0))), ((u 9), .inl (cI, 18, .inl (fun _ => 0))), (M, .inr (6, [.int 0, .int 0, .int 0, .int 0, .int 0, .ref ((v 0)), .ref ((v 1)), .ref ((v 2)), .ref ((v 3)), .int 0, .null, .long 0])), ((v 0), .inl (cJ, 12, .inr (.inr (.inr (.inr (fun _ => none)))))), (O, .inl (cL, 1, .inr (.inl g_9)))] H := hP
    have hD : va_D A [((u 1), .inl (cI, 12, .inl (fun _ => 0))), ((u 2), .inl (cI, 12, .inl (fun _ => 0))), ((u 3), .inl (cI, 144, .inl (fun _ => 0))), ((u 4), .inl (cI, 9, .inl (fun _ => 0))), ((u 5), .inl (cI, 18, .inl (fun _ => 0))), ((u 6), .inl (cI, 18, .inl (fun _ => 0))), ((u 7), .inl (cI, 18, .inl (fun _ => 0))), ((u 8), .inl (cI, 18, .inl (fun _ => 0))), ((u 9), .inl (cI, 18, .inl (fun _ => 0))), (M, .inr (6, [.int 0, .int 0, .int 0, .int 0, .int 0, .ref ((v 0)), .ref ((v 1)), .ref ((v 2)), .ref ((v 3)), .int 0, .null, .long 0])), ((v 0), .inl (cJ, 12, .inr (.inr (.inr (.inr (fun _ => none)))))), (O, .inl (cL, 1, .inr (.inl g_9)))] := hD
    refine lv_istore (lv' := [(5, .int 1), (4, .int 0), (3, .ref O), (2, .ref M), (1, .ref X), (0, .ref b)]) hx hb dL_law_543 hl (by decide) rfl (fun ls hl => ?_)
    refine lv_aload_n hx hb dL_law_545 rfl (lv_at hl 3 rfl) ?_
    refine lv_aload_n hx hb dL_law_546 rfl (lv_at hl 5 rfl) ?_
    refine lv_iload hx hb dL_law_547 (lv_at hl 1 rfl) ?_
    refine lv_iconst (v := 1) hx hb dL_law_549 (by decide) ?_
    refine lv_iadd hx hb dL_law_550 ?_
    refine k_st1 (y := 1) (by decide) ?_
    refine va_sld hx hb hX hbl hbA hS (i := 1) (vpd (by decide)) dL_law_551 ?_
    refine k_st1 (y := xs 1) (congrArg xs (by decide)) ?_
    refine lv_aload_n hx hb dL_law_552 rfl (lv_at hl 5 rfl) ?_
    refine lv_iload hx hb dL_law_553 (lv_at hl 1 rfl) ?_
    refine lv_iconst (v := 2) hx hb dL_law_555 (by decide) ?_
    refine lv_iadd hx hb dL_law_556 ?_
    refine k_st1 (y := 2) (by decide) ?_
    refine va_sld hx hb hX hbl hbA hS (i := 2) (vpd (by decide)) dL_law_557 ?_
    refine k_st1 (y := xs 2) (congrArg xs (by decide)) ?_
    refine lv_if_eq (tgt := 565) hx hb dL_law_558 (by decide) (fun c_2 => ?_) (fun c_2 => ?_)
    · refine lv_iconst (v := 0) hx hb dL_law_565 (by decide) ?_
      refine lv_aload_n hx hb dL_law_566 rfl (lv_at hl 5 rfl) ?_
      refine lv_iload hx hb dL_law_567 (lv_at hl 1 rfl) ?_
      refine lv_iconst (v := 3) hx hb dL_law_569 (by decide) ?_
      refine lv_iadd hx hb dL_law_570 ?_
      refine k_st1 (y := 3) (by decide) ?_
      refine va_sld hx hb hX hbl hbA hS (i := 3) (vpd (by decide)) dL_law_571 ?_
      refine k_st1 (y := xs 3) (congrArg xs (by decide)) ?_
      refine lv_aload_n hx hb dL_law_572 rfl (lv_at hl 5 rfl) ?_
      refine lv_iload hx hb dL_law_573 (lv_at hl 1 rfl) ?_
      refine lv_iconst (v := 4) hx hb dL_law_575 (by decide) ?_
      refine lv_iadd hx hb dL_law_576 ?_
      refine k_st1 (y := 4) (by decide) ?_
      refine va_sld hx hb hX hbl hbA hS (i := 4) (vpd (by decide)) dL_law_577 ?_
      refine k_st1 (y := xs 4) (congrArg xs (by decide)) ?_
      refine n_Vz (ci := 6) (q0 := 0) (wc := [(M, .inr (6, [.int 0, .int 0, .int 0, .int 0, .int 0, .ref ((v 0)), .ref ((v 1)), .ref ((v 2)), .ref ((v 3)), .int 0, .null, .long 0]))]) (wr := [((u 1), .inl (cI, 12, .inl (fun _ => 0))), ((u 2), .inl (cI, 12, .inl (fun _ => 0))), ((u 3), .inl (cI, 144, .inl (fun _ => 0))), ((u 4), .inl (cI, 9, .inl (fun _ => 0))), ((u 5), .inl (cI, 18, .inl (fun _ => 0))), ((u 6), .inl (cI, 18, .inl (fun _ => 0))), ((u 7), .inl (cI, 18, .inl (fun _ => 0))), ((u 8), .inl (cI, 18, .inl (fun _ => 0))), ((u 9), .inl (cI, 18, .inl (fun _ => 0))), ((v 0), .inl (cJ, 12, .inr (.inr (.inr (.inr (fun _ => none)))))), (O, .inl (cL, 1, .inr (.inl g_9)))]) [.int (xs 1), .int 0, .int (xs 3), .int (xs 4)] [9] [0, 1, 2, 3, 4, 5, 6, 7, 8, 10, 11] ⟨hx, hb, hml, hown, hts⟩ (fun sz => c_X6_setHours l dC dI cI cV cJ cL M (v 0) (v 1) (v 2) (v 3) (xs 1) 0 (xs 3) (xs 4) sz) q_ml_L_145 q_im_X6_setHours q_se_X6_setHours q_ini_X6 q_co_X6_setHours (n := 4) (by decide +kernel) rfl ⟨rfl, rfl⟩ ⟨Nat.le_of_ble_eq_true rfl, Nat.le_of_ble_eq_true rfl⟩ hP hD hS hA hK hN rfl rfl (by decide) (by decide) (by decide) rfl rfl rfl hl.1 rfl (Nat.le_of_ble_eq_true rfl) dL_law_578 ⟨Nat.le_of_ble_eq_true rfl, Nat.le_of_ble_eq_true rfl⟩ (fun r_4 u_3 H locs hu_3 hP hD hS => ?_)
      have hP : va_P (dC, dI) cls [((u 1), .inl (cI, 12, .inl (fun _ => 0))), ((u 2), .inl (cI, 12, .inl (fun _ => 0))), ((u 3), .inl (cI, 144, .inl (fun _ => 0))), ((u 4), .inl (cI, 9, .inl (fun _ => 0))), ((u 5), .inl (cI, 18, .inl (fun _ => 0))), ((u 6), .inl (cI, 18, .inl (fun _ => 0))), ((u 7), .inl (cI, 18, .inl (fun _ => 0))), ((u 8), .inl (cI, 18, .inl (fun _ => 0))), ((u 9), .inl (cI, 18, .inl (fun _ => 0))), ((v 0), .inl (cJ, 12, .inr (.inr (.inr (.inr (fun _ => none)))))), (O, .inl (cL, 1, .inr (.inl g_9))), (M, .inr (6, [.int ((u_3).1), .int ((u_3).2.1), .int 0, .int 0, .int ((u_3).2.2.1), .ref ((v 0)), .ref ((v 1)), .ref ((v 2)), .ref ((v 3)), .int 0, (u_3).2.2.2, .long 0]))] H := hP
      have hD : va_D A [((u 1), .inl (cI, 12, .inl (fun _ => 0))), ((u 2), .inl (cI, 12, .inl (fun _ => 0))), ((u 3), .inl (cI, 144, .inl (fun _ => 0))), ((u 4), .inl (cI, 9, .inl (fun _ => 0))), ((u 5), .inl (cI, 18, .inl (fun _ => 0))), ((u 6), .inl (cI, 18, .inl (fun _ => 0))), ((u 7), .inl (cI, 18, .inl (fun _ => 0))), ((u 8), .inl (cI, 18, .inl (fun _ => 0))), ((u 9), .inl (cI, 18, .inl (fun _ => 0))), ((v 0), .inl (cJ, 12, .inr (.inr (.inr (.inr (fun _ => none)))))), (O, .inl (cL, 1, .inr (.inl g_9))), (M, .inr (6, [.int ((u_3).1), .int ((u_3).2.1), .int 0, .int 0, .int ((u_3).2.2.1), .ref ((v 0)), .ref ((v 1)), .ref ((v 2)), .ref ((v 3)), .int 0, (u_3).2.2.2, .long 0]))] := hD
      obtain ⟨hv1, hv2⟩ := hu_3
      refine lv_istore (lv' := [(6, .int r_4), (5, .int 1), (4, .int 0), (3, .ref O), (2, .ref M), (1, .ref X), (0, .ref b)]) hx hb dL_law_581 hl (by decide) rfl (fun ls hl => ?_)
      refine lv_aload_n hx hb dL_law_583 rfl (lv_at hl 4 rfl) ?_
      refine n_Vi (ci := 6) (q0 := 0) (wc := [(M, .inr (6, [.int ((u_3).1), .int ((u_3).2.1), .int 0, .int 0, .int ((u_3).2.2.1), .ref ((v 0)), .ref ((v 1)), .ref ((v 2)), .ref ((v 3)), .int 0, (u_3).2.2.2, .long 0]))]) (wr := [((u 1), .inl (cI, 12, .inl (fun _ => 0))), ((u 2), .inl (cI, 12, .inl (fun _ => 0))), ((u 3), .inl (cI, 144, .inl (fun _ => 0))), ((u 4), .inl (cI, 9, .inl (fun _ => 0))), ((u 5), .inl (cI, 18, .inl (fun _ => 0))), ((u 6), .inl (cI, 18, .inl (fun _ => 0))), ((u 7), .inl (cI, 18, .inl (fun _ => 0))), ((u 8), .inl (cI, 18, .inl (fun _ => 0))), ((u 9), .inl (cI, 18, .inl (fun _ => 0))), ((v 0), .inl (cJ, 12, .inr (.inr (.inr (.inr (fun _ => none)))))), (O, .inl (cL, 1, .inr (.inl g_9)))]) [] [11] [0, 1, 2, 3, 4, 5, 6, 7, 8, 9, 10] ⟨hx, hb, hml, hown, hts⟩ (fun sz => c_X6_thrown l dC dI cI cV cJ cL M (v 0) (v 1) (v 2) (v 3) ((u_3).1) ((u_3).2.2.1) 0 ((u_3).2.2.2) 0 ((u_3).2.1) sz) q_ml_L_130 q_im_X6_thrown q_se_X6_thrown q_ini_X6 q_co_X6_thrown (n := 0) (by decide +kernel) rfl ⟨rfl, rfl⟩ ⟨Nat.le_of_ble_eq_true rfl, Nat.le_of_ble_eq_true rfl⟩ hP hD hS hA hK hN rfl rfl (by decide) (by decide) (by decide) rfl rfl rfl hl.1 rfl (Nat.le_of_ble_eq_true rfl) dL_law_584 ⟨Nat.le_of_ble_eq_true rfl, Nat.le_of_ble_eq_true rfl⟩ (fun r_6 u_5 H locs hu_5 hP hD hS => ?_)
      have hP : va_P (dC, dI) cls [((u 1), .inl (cI, 12, .inl (fun _ => 0))), ((u 2), .inl (cI, 12, .inl (fun _ => 0))), ((u 3), .inl (cI, 144, .inl (fun _ => 0))), ((u 4), .inl (cI, 9, .inl (fun _ => 0))), ((u 5), .inl (cI, 18, .inl (fun _ => 0))), ((u 6), .inl (cI, 18, .inl (fun _ => 0))), ((u 7), .inl (cI, 18, .inl (fun _ => 0))), ((u 8), .inl (cI, 18, .inl (fun _ => 0))), ((u 9), .inl (cI, 18, .inl (fun _ => 0))), ((v 0), .inl (cJ, 12, .inr (.inr (.inr (.inr (fun _ => none)))))), (O, .inl (cL, 1, .inr (.inl g_9)))] H := hP
      have hD : va_D A [((u 1), .inl (cI, 12, .inl (fun _ => 0))), ((u 2), .inl (cI, 12, .inl (fun _ => 0))), ((u 3), .inl (cI, 144, .inl (fun _ => 0))), ((u 4), .inl (cI, 9, .inl (fun _ => 0))), ((u 5), .inl (cI, 18, .inl (fun _ => 0))), ((u 6), .inl (cI, 18, .inl (fun _ => 0))), ((u 7), .inl (cI, 18, .inl (fun _ => 0))), ((u 8), .inl (cI, 18, .inl (fun _ => 0))), ((u 9), .inl (cI, 18, .inl (fun _ => 0))), ((v 0), .inl (cJ, 12, .inr (.inr (.inr (.inr (fun _ => none)))))), (O, .inl (cL, 1, .inr (.inl g_9)))] := hD
      obtain rfl := hu_5
      refine k_st1 (y := 1) hv1 ?_
      refine lv_iload hx hb dL_law_587 (lv_at hl 1 rfl) ?_
      refine lv_icmp_eq (tgt := 594) hx hb dL_law_589 (by decide) (fun c_7 => ?_) (fun c_7 => ?_)
      rotate_left
      · first | exact absurd c_7 (by decide) | exact absurd (by decide) c_7
      refine lv_iload hx hb dL_law_594 (lv_at hl 1 rfl) ?_
      refine lv_if_ne (tgt := 618) hx hb dL_law_596 (by decide) (fun c_8 => ?_) (fun c_8 => ?_)
      rotate_left
      · first | exact absurd c_8 (by decide) | exact absurd (by decide) c_8
      refine lv_goto (tgt := 2499) hx hb dL_law_618 (by decide) ?_
      refine W.widen (k := 100) (n := 2000) (Nat.le_of_ble_eq_true rfl) (Nat.le_of_ble_eq_true rfl) ?_
      exact law_end l hlT C0 (by rw [hAe]; exact hS) (lv_sub hl [2, 6] rfl)
    · refine lv_iconst (v := 1) hx hb dL_law_561 (by decide) ?_
      refine lv_goto (tgt := 566) hx hb dL_law_562 (by decide) ?_
      refine lv_aload_n hx hb dL_law_566 rfl (lv_at hl 5 rfl) ?_
      refine lv_iload hx hb dL_law_567 (lv_at hl 1 rfl) ?_
      refine lv_iconst (v := 3) hx hb dL_law_569 (by decide) ?_
      refine lv_iadd hx hb dL_law_570 ?_
      refine k_st1 (y := 3) (by decide) ?_
      refine va_sld hx hb hX hbl hbA hS (i := 3) (vpd (by decide)) dL_law_571 ?_
      refine k_st1 (y := xs 3) (congrArg xs (by decide)) ?_
      refine lv_aload_n hx hb dL_law_572 rfl (lv_at hl 5 rfl) ?_
      refine lv_iload hx hb dL_law_573 (lv_at hl 1 rfl) ?_
      refine lv_iconst (v := 4) hx hb dL_law_575 (by decide) ?_
      refine lv_iadd hx hb dL_law_576 ?_
      refine k_st1 (y := 4) (by decide) ?_
      refine va_sld hx hb hX hbl hbA hS (i := 4) (vpd (by decide)) dL_law_577 ?_
      refine k_st1 (y := xs 4) (congrArg xs (by decide)) ?_
      refine n_Vz (ci := 6) (q0 := 0) (wc := [(M, .inr (6, [.int 0, .int 0, .int 0, .int 0, .int 0, .ref ((v 0)), .ref ((v 1)), .ref ((v 2)), .ref ((v 3)), .int 0, .null, .long 0]))]) (wr := [((u 1), .inl (cI, 12, .inl (fun _ => 0))), ((u 2), .inl (cI, 12, .inl (fun _ => 0))), ((u 3), .inl (cI, 144, .inl (fun _ => 0))), ((u 4), .inl (cI, 9, .inl (fun _ => 0))), ((u 5), .inl (cI, 18, .inl (fun _ => 0))), ((u 6), .inl (cI, 18, .inl (fun _ => 0))), ((u 7), .inl (cI, 18, .inl (fun _ => 0))), ((u 8), .inl (cI, 18, .inl (fun _ => 0))), ((u 9), .inl (cI, 18, .inl (fun _ => 0))), ((v 0), .inl (cJ, 12, .inr (.inr (.inr (.inr (fun _ => none)))))), (O, .inl (cL, 1, .inr (.inl g_9)))]) [.int (xs 1), .int 1, .int (xs 3), .int (xs 4)] [9] [0, 1, 2, 3, 4, 5, 6, 7, 8, 10, 11] ⟨hx, hb, hml, hown, hts⟩ (fun sz => c_X6_setHours l dC dI cI cV cJ cL M (v 0) (v 1) (v 2) (v 3) (xs 1) 1 (xs 3) (xs 4) sz) q_ml_L_145 q_im_X6_setHours q_se_X6_setHours q_ini_X6 q_co_X6_setHours (n := 4) (by decide +kernel) rfl ⟨rfl, rfl⟩ ⟨Nat.le_of_ble_eq_true rfl, Nat.le_of_ble_eq_true rfl⟩ hP hD hS hA hK hN rfl rfl (by decide) (by decide) (by decide) rfl rfl rfl hl.1 rfl (Nat.le_of_ble_eq_true rfl) dL_law_578 ⟨Nat.le_of_ble_eq_true rfl, Nat.le_of_ble_eq_true rfl⟩ (fun r_10 u_9 H locs hu_9 hP hD hS => ?_)
      have hP : va_P (dC, dI) cls [((u 1), .inl (cI, 12, .inl (fun _ => 0))), ((u 2), .inl (cI, 12, .inl (fun _ => 0))), ((u 3), .inl (cI, 144, .inl (fun _ => 0))), ((u 4), .inl (cI, 9, .inl (fun _ => 0))), ((u 5), .inl (cI, 18, .inl (fun _ => 0))), ((u 6), .inl (cI, 18, .inl (fun _ => 0))), ((u 7), .inl (cI, 18, .inl (fun _ => 0))), ((u 8), .inl (cI, 18, .inl (fun _ => 0))), ((u 9), .inl (cI, 18, .inl (fun _ => 0))), ((v 0), .inl (cJ, 12, .inr (.inr (.inr (.inr (fun _ => none)))))), (O, .inl (cL, 1, .inr (.inl g_9))), (M, .inr (6, [.int ((u_9).1), .int ((u_9).2.1), .int 0, .int 0, .int ((u_9).2.2.1), .ref ((v 0)), .ref ((v 1)), .ref ((v 2)), .ref ((v 3)), .int 0, (u_9).2.2.2, .long 0]))] H := hP
      have hD : va_D A [((u 1), .inl (cI, 12, .inl (fun _ => 0))), ((u 2), .inl (cI, 12, .inl (fun _ => 0))), ((u 3), .inl (cI, 144, .inl (fun _ => 0))), ((u 4), .inl (cI, 9, .inl (fun _ => 0))), ((u 5), .inl (cI, 18, .inl (fun _ => 0))), ((u 6), .inl (cI, 18, .inl (fun _ => 0))), ((u 7), .inl (cI, 18, .inl (fun _ => 0))), ((u 8), .inl (cI, 18, .inl (fun _ => 0))), ((u 9), .inl (cI, 18, .inl (fun _ => 0))), ((v 0), .inl (cJ, 12, .inr (.inr (.inr (.inr (fun _ => none)))))), (O, .inl (cL, 1, .inr (.inl g_9))), (M, .inr (6, [.int ((u_9).1), .int ((u_9).2.1), .int 0, .int 0, .int ((u_9).2.2.1), .ref ((v 0)), .ref ((v 1)), .ref ((v 2)), .ref ((v 3)), .int 0, (u_9).2.2.2, .long 0]))] := hD
      obtain ⟨hv1, hv2⟩ := hu_9
      refine lv_istore (lv' := [(6, .int r_10), (5, .int 1), (4, .int 0), (3, .ref O), (2, .ref M), (1, .ref X), (0, .ref b)]) hx hb dL_law_581 hl (by decide) rfl (fun ls hl => ?_)
      refine lv_aload_n hx hb dL_law_583 rfl (lv_at hl 4 rfl) ?_
      refine n_Vi (ci := 6) (q0 := 0) (wc := [(M, .inr (6, [.int ((u_9).1), .int ((u_9).2.1), .int 0, .int 0, .int ((u_9).2.2.1), .ref ((v 0)), .ref ((v 1)), .ref ((v 2)), .ref ((v 3)), .int 0, (u_9).2.2.2, .long 0]))]) (wr := [((u 1), .inl (cI, 12, .inl (fun _ => 0))), ((u 2), .inl (cI, 12, .inl (fun _ => 0))), ((u 3), .inl (cI, 144, .inl (fun _ => 0))), ((u 4), .inl (cI, 9, .inl (fun _ => 0))), ((u 5), .inl (cI, 18, .inl (fun _ => 0))), ((u 6), .inl (cI, 18, .inl (fun _ => 0))), ((u 7), .inl (cI, 18, .inl (fun _ => 0))), ((u 8), .inl (cI, 18, .inl (fun _ => 0))), ((u 9), .inl (cI, 18, .inl (fun _ => 0))), ((v 0), .inl (cJ, 12, .inr (.inr (.inr (.inr (fun _ => none)))))), (O, .inl (cL, 1, .inr (.inl g_9)))]) [] [11] [0, 1, 2, 3, 4, 5, 6, 7, 8, 9, 10] ⟨hx, hb, hml, hown, hts⟩ (fun sz => c_X6_thrown l dC dI cI cV cJ cL M (v 0) (v 1) (v 2) (v 3) ((u_9).1) ((u_9).2.2.1) 0 ((u_9).2.2.2) 0 ((u_9).2.1) sz) q_ml_L_130 q_im_X6_thrown q_se_X6_thrown q_ini_X6 q_co_X6_thrown (n := 0) (by decide +kernel) rfl ⟨rfl, rfl⟩ ⟨Nat.le_of_ble_eq_true rfl, Nat.le_of_ble_eq_true rfl⟩ hP hD hS hA hK hN rfl rfl (by decide) (by decide) (by decide) rfl rfl rfl hl.1 rfl (Nat.le_of_ble_eq_true rfl) dL_law_584 ⟨Nat.le_of_ble_eq_true rfl, Nat.le_of_ble_eq_true rfl⟩ (fun r_12 u_11 H locs hu_11 hP hD hS => ?_)
      have hP : va_P (dC, dI) cls [((u 1), .inl (cI, 12, .inl (fun _ => 0))), ((u 2), .inl (cI, 12, .inl (fun _ => 0))), ((u 3), .inl (cI, 144, .inl (fun _ => 0))), ((u 4), .inl (cI, 9, .inl (fun _ => 0))), ((u 5), .inl (cI, 18, .inl (fun _ => 0))), ((u 6), .inl (cI, 18, .inl (fun _ => 0))), ((u 7), .inl (cI, 18, .inl (fun _ => 0))), ((u 8), .inl (cI, 18, .inl (fun _ => 0))), ((u 9), .inl (cI, 18, .inl (fun _ => 0))), ((v 0), .inl (cJ, 12, .inr (.inr (.inr (.inr (fun _ => none)))))), (O, .inl (cL, 1, .inr (.inl g_9)))] H := hP
      have hD : va_D A [((u 1), .inl (cI, 12, .inl (fun _ => 0))), ((u 2), .inl (cI, 12, .inl (fun _ => 0))), ((u 3), .inl (cI, 144, .inl (fun _ => 0))), ((u 4), .inl (cI, 9, .inl (fun _ => 0))), ((u 5), .inl (cI, 18, .inl (fun _ => 0))), ((u 6), .inl (cI, 18, .inl (fun _ => 0))), ((u 7), .inl (cI, 18, .inl (fun _ => 0))), ((u 8), .inl (cI, 18, .inl (fun _ => 0))), ((u 9), .inl (cI, 18, .inl (fun _ => 0))), ((v 0), .inl (cJ, 12, .inr (.inr (.inr (.inr (fun _ => none)))))), (O, .inl (cL, 1, .inr (.inl g_9)))] := hD
      obtain rfl := hu_11
      refine k_st1 (y := 1) hv1 ?_
      refine lv_iload hx hb dL_law_587 (lv_at hl 1 rfl) ?_
      refine lv_icmp_eq (tgt := 594) hx hb dL_law_589 (by decide) (fun c_13 => ?_) (fun c_13 => ?_)
      rotate_left
      · first | exact absurd c_13 (by decide) | exact absurd (by decide) c_13
      refine lv_iload hx hb dL_law_594 (lv_at hl 1 rfl) ?_
      refine lv_if_ne (tgt := 618) hx hb dL_law_596 (by decide) (fun c_14 => ?_) (fun c_14 => ?_)
      rotate_left
      · first | exact absurd c_14 (by decide) | exact absurd (by decide) c_14
      refine lv_goto (tgt := 2499) hx hb dL_law_618 (by decide) ?_
      refine W.widen (k := 100) (n := 2000) (Nat.le_of_ble_eq_true rfl) (Nat.le_of_ble_eq_true rfl) ?_
      exact law_end l hlT C0 (by rw [hAe]; exact hS) (lv_sub hl [2, 6] rfl)
  · refine lv_iconst (v := 1) hx hb dL_law_522 (by decide) ?_
    refine lv_goto (tgt := 527) hx hb dL_law_523 (by decide) ?_
    refine lv_aload_n hx hb dL_law_527 rfl (lv_at hl 4 rfl) ?_
    refine lv_iload hx hb dL_law_528 (lv_at hl 0 rfl) ?_
    refine lv_iconst (v := 3) hx hb dL_law_530 (by decide) ?_
    refine lv_iadd hx hb dL_law_531 ?_
    refine k_st1 (y := 3) (by decide) ?_
    refine va_sld hx hb hX hbl hbA hS (i := 3) (vpd (by decide)) dL_law_532 ?_
    refine k_st1 (y := xs 3) (congrArg xs (by decide)) ?_
    refine lv_aload_n hx hb dL_law_533 rfl (lv_at hl 4 rfl) ?_
    refine lv_iload hx hb dL_law_534 (lv_at hl 0 rfl) ?_
    refine lv_iconst (v := 4) hx hb dL_law_536 (by decide) ?_
    refine lv_iadd hx hb dL_law_537 ?_
    refine k_st1 (y := 4) (by decide) ?_
    refine va_sld hx hb hX hbl hbA hS (i := 4) (vpd (by decide)) dL_law_538 ?_
    refine k_st1 (y := xs 4) (congrArg xs (by decide)) ?_
    refine lv_aload_n hx hb dL_law_539 rfl (lv_at hl 1 rfl) ?_
    refine x_Si (wc := [(X, .inr (5, [.ref ((u 0)), .ref ((u 10)), .ref ((u 11)), .ref ((u 12)), .ref ((u 13)), .ref ((u 14)), .ref ((u 15)), .int 0, .int 0])), ((u 0), .inr (0, [.ref ((u 1)), .ref ((u 2)), .ref ((u 3)), .ref ((u 4)), .ref ((u 5)), .ref ((u 6)), .ref ((u 7)), .ref ((u 8)), .ref ((u 9)), .int 0, .int 0, .int 0])), (O, .inl (cL, 1, .inr (.inl (fun _ => 0))))]) (wr := [((u 1), .inl (cI, 12, .inl (fun _ => 0))), ((u 2), .inl (cI, 12, .inl (fun _ => 0))), ((u 3), .inl (cI, 144, .inl (fun _ => 0))), ((u 4), .inl (cI, 9, .inl (fun _ => 0))), ((u 5), .inl (cI, 18, .inl (fun _ => 0))), ((u 6), .inl (cI, 18, .inl (fun _ => 0))), ((u 7), .inl (cI, 18, .inl (fun _ => 0))), ((u 8), .inl (cI, 18, .inl (fun _ => 0))), ((u 9), .inl (cI, 18, .inl (fun _ => 0))), (M, .inr (6, [.int 0, .int 0, .int 0, .int 0, .int 0, .ref ((v 0)), .ref ((v 1)), .ref ((v 2)), .ref ((v 3)), .int 0, .null, .long 0])), ((v 0), .inl (cJ, 12, .inr (.inr (.inr (.inr (fun _ => none))))))]) [.ref X, .int (xs 1), .int 1, .int (xs 3), .int (xs 4), .ref O] [0, 1, 13] [2, 3, 4, 5, 6, 7, 8, 9, 10, 11, 12] ⟨hx, hb, hml, hown, hts⟩ (fun sz => h_setHours l hlT dC dI cI cV cJ cL X (u 0) (u 10) (u 11) (u 12) (fun i => u (i + 1)) (fun i => u (i + 13)) O (fun _ => 0) (xs 1) 1 (xs 3) (xs 4) sz) q_ml_L_142 q_st_L_setHours q_ini_L q_cw_L_setHours (n := 6) (by decide +kernel) rfl ⟨rfl, rfl⟩ ⟨Nat.le_of_ble_eq_true rfl, Nat.le_of_ble_eq_true rfl⟩ hP hD hS hA hK hN hXs hZs rfl rfl (by decide) (by decide) (by decide) hl.1 rfl (Nat.le_of_ble_eq_true rfl) dL_law_540 ⟨Nat.le_of_ble_eq_true rfl, Nat.le_of_ble_eq_true rfl⟩ (fun r_9 g_9 H locs hpo hP hD hS => ?_)
    obtain ⟨hr9, hg9⟩ := hpo
    refine k_st1 (y := 1) hr9 ?_
    have hP : va_P (dC, dI) cls [((u 1), .inl (cI, 12, .inl (fun _ => 0))), ((u 2), .inl (cI, 12, .inl (fun _ => 0))), ((u 3), .inl (cI, 144, .inl (fun _ => 0))), ((u 4), .inl (cI, 9, .inl (fun _ => 0))), ((u 5), .inl (cI, 18, .inl (fun _ => 0))), ((u 6), .inl (cI, 18, .inl (fun _ => 0))), ((u 7), .inl (cI, 18, .inl (fun _ => 0))), ((u 8), .inl (cI, 18, .inl (fun _ => 0))), ((u 9), .inl (cI, 18, .inl (fun _ => 0))), (M, .inr (6, [.int 0, .int 0, .int 0, .int 0, .int 0, .ref ((v 0)), .ref ((v 1)), .ref ((v 2)), .ref ((v 3)), .int 0, .null, .long 0])), ((v 0), .inl (cJ, 12, .inr (.inr (.inr (.inr (fun _ => none)))))), (O, .inl (cL, 1, .inr (.inl g_9)))] H := hP
    have hD : va_D A [((u 1), .inl (cI, 12, .inl (fun _ => 0))), ((u 2), .inl (cI, 12, .inl (fun _ => 0))), ((u 3), .inl (cI, 144, .inl (fun _ => 0))), ((u 4), .inl (cI, 9, .inl (fun _ => 0))), ((u 5), .inl (cI, 18, .inl (fun _ => 0))), ((u 6), .inl (cI, 18, .inl (fun _ => 0))), ((u 7), .inl (cI, 18, .inl (fun _ => 0))), ((u 8), .inl (cI, 18, .inl (fun _ => 0))), ((u 9), .inl (cI, 18, .inl (fun _ => 0))), (M, .inr (6, [.int 0, .int 0, .int 0, .int 0, .int 0, .ref ((v 0)), .ref ((v 1)), .ref ((v 2)), .ref ((v 3)), .int 0, .null, .long 0])), ((v 0), .inl (cJ, 12, .inr (.inr (.inr (.inr (fun _ => none)))))), (O, .inl (cL, 1, .inr (.inl g_9)))] := hD
    refine lv_istore (lv' := [(5, .int 1), (4, .int 0), (3, .ref O), (2, .ref M), (1, .ref X), (0, .ref b)]) hx hb dL_law_543 hl (by decide) rfl (fun ls hl => ?_)
    refine lv_aload_n hx hb dL_law_545 rfl (lv_at hl 3 rfl) ?_
    refine lv_aload_n hx hb dL_law_546 rfl (lv_at hl 5 rfl) ?_
    refine lv_iload hx hb dL_law_547 (lv_at hl 1 rfl) ?_
    refine lv_iconst (v := 1) hx hb dL_law_549 (by decide) ?_
    refine lv_iadd hx hb dL_law_550 ?_
    refine k_st1 (y := 1) (by decide) ?_
    refine va_sld hx hb hX hbl hbA hS (i := 1) (vpd (by decide)) dL_law_551 ?_
    refine k_st1 (y := xs 1) (congrArg xs (by decide)) ?_
    refine lv_aload_n hx hb dL_law_552 rfl (lv_at hl 5 rfl) ?_
    refine lv_iload hx hb dL_law_553 (lv_at hl 1 rfl) ?_
    refine lv_iconst (v := 2) hx hb dL_law_555 (by decide) ?_
    refine lv_iadd hx hb dL_law_556 ?_
    refine k_st1 (y := 2) (by decide) ?_
    refine va_sld hx hb hX hbl hbA hS (i := 2) (vpd (by decide)) dL_law_557 ?_
    refine k_st1 (y := xs 2) (congrArg xs (by decide)) ?_
    refine lv_if_eq (tgt := 565) hx hb dL_law_558 (by decide) (fun c_15 => ?_) (fun c_15 => ?_)
    · refine lv_iconst (v := 0) hx hb dL_law_565 (by decide) ?_
      refine lv_aload_n hx hb dL_law_566 rfl (lv_at hl 5 rfl) ?_
      refine lv_iload hx hb dL_law_567 (lv_at hl 1 rfl) ?_
      refine lv_iconst (v := 3) hx hb dL_law_569 (by decide) ?_
      refine lv_iadd hx hb dL_law_570 ?_
      refine k_st1 (y := 3) (by decide) ?_
      refine va_sld hx hb hX hbl hbA hS (i := 3) (vpd (by decide)) dL_law_571 ?_
      refine k_st1 (y := xs 3) (congrArg xs (by decide)) ?_
      refine lv_aload_n hx hb dL_law_572 rfl (lv_at hl 5 rfl) ?_
      refine lv_iload hx hb dL_law_573 (lv_at hl 1 rfl) ?_
      refine lv_iconst (v := 4) hx hb dL_law_575 (by decide) ?_
      refine lv_iadd hx hb dL_law_576 ?_
      refine k_st1 (y := 4) (by decide) ?_
      refine va_sld hx hb hX hbl hbA hS (i := 4) (vpd (by decide)) dL_law_577 ?_
      refine k_st1 (y := xs 4) (congrArg xs (by decide)) ?_
      refine n_Vz (ci := 6) (q0 := 0) (wc := [(M, .inr (6, [.int 0, .int 0, .int 0, .int 0, .int 0, .ref ((v 0)), .ref ((v 1)), .ref ((v 2)), .ref ((v 3)), .int 0, .null, .long 0]))]) (wr := [((u 1), .inl (cI, 12, .inl (fun _ => 0))), ((u 2), .inl (cI, 12, .inl (fun _ => 0))), ((u 3), .inl (cI, 144, .inl (fun _ => 0))), ((u 4), .inl (cI, 9, .inl (fun _ => 0))), ((u 5), .inl (cI, 18, .inl (fun _ => 0))), ((u 6), .inl (cI, 18, .inl (fun _ => 0))), ((u 7), .inl (cI, 18, .inl (fun _ => 0))), ((u 8), .inl (cI, 18, .inl (fun _ => 0))), ((u 9), .inl (cI, 18, .inl (fun _ => 0))), ((v 0), .inl (cJ, 12, .inr (.inr (.inr (.inr (fun _ => none)))))), (O, .inl (cL, 1, .inr (.inl g_9)))]) [.int (xs 1), .int 0, .int (xs 3), .int (xs 4)] [9] [0, 1, 2, 3, 4, 5, 6, 7, 8, 10, 11] ⟨hx, hb, hml, hown, hts⟩ (fun sz => c_X6_setHours l dC dI cI cV cJ cL M (v 0) (v 1) (v 2) (v 3) (xs 1) 0 (xs 3) (xs 4) sz) q_ml_L_145 q_im_X6_setHours q_se_X6_setHours q_ini_X6 q_co_X6_setHours (n := 4) (by decide +kernel) rfl ⟨rfl, rfl⟩ ⟨Nat.le_of_ble_eq_true rfl, Nat.le_of_ble_eq_true rfl⟩ hP hD hS hA hK hN rfl rfl (by decide) (by decide) (by decide) rfl rfl rfl hl.1 rfl (Nat.le_of_ble_eq_true rfl) dL_law_578 ⟨Nat.le_of_ble_eq_true rfl, Nat.le_of_ble_eq_true rfl⟩ (fun r_17 u_16 H locs hu_16 hP hD hS => ?_)
      have hP : va_P (dC, dI) cls [((u 1), .inl (cI, 12, .inl (fun _ => 0))), ((u 2), .inl (cI, 12, .inl (fun _ => 0))), ((u 3), .inl (cI, 144, .inl (fun _ => 0))), ((u 4), .inl (cI, 9, .inl (fun _ => 0))), ((u 5), .inl (cI, 18, .inl (fun _ => 0))), ((u 6), .inl (cI, 18, .inl (fun _ => 0))), ((u 7), .inl (cI, 18, .inl (fun _ => 0))), ((u 8), .inl (cI, 18, .inl (fun _ => 0))), ((u 9), .inl (cI, 18, .inl (fun _ => 0))), ((v 0), .inl (cJ, 12, .inr (.inr (.inr (.inr (fun _ => none)))))), (O, .inl (cL, 1, .inr (.inl g_9))), (M, .inr (6, [.int ((u_16).1), .int ((u_16).2.1), .int 0, .int 0, .int ((u_16).2.2.1), .ref ((v 0)), .ref ((v 1)), .ref ((v 2)), .ref ((v 3)), .int 0, (u_16).2.2.2, .long 0]))] H := hP
      have hD : va_D A [((u 1), .inl (cI, 12, .inl (fun _ => 0))), ((u 2), .inl (cI, 12, .inl (fun _ => 0))), ((u 3), .inl (cI, 144, .inl (fun _ => 0))), ((u 4), .inl (cI, 9, .inl (fun _ => 0))), ((u 5), .inl (cI, 18, .inl (fun _ => 0))), ((u 6), .inl (cI, 18, .inl (fun _ => 0))), ((u 7), .inl (cI, 18, .inl (fun _ => 0))), ((u 8), .inl (cI, 18, .inl (fun _ => 0))), ((u 9), .inl (cI, 18, .inl (fun _ => 0))), ((v 0), .inl (cJ, 12, .inr (.inr (.inr (.inr (fun _ => none)))))), (O, .inl (cL, 1, .inr (.inl g_9))), (M, .inr (6, [.int ((u_16).1), .int ((u_16).2.1), .int 0, .int 0, .int ((u_16).2.2.1), .ref ((v 0)), .ref ((v 1)), .ref ((v 2)), .ref ((v 3)), .int 0, (u_16).2.2.2, .long 0]))] := hD
      obtain ⟨hv1, hv2⟩ := hu_16
      refine lv_istore (lv' := [(6, .int r_17), (5, .int 1), (4, .int 0), (3, .ref O), (2, .ref M), (1, .ref X), (0, .ref b)]) hx hb dL_law_581 hl (by decide) rfl (fun ls hl => ?_)
      refine lv_aload_n hx hb dL_law_583 rfl (lv_at hl 4 rfl) ?_
      refine n_Vi (ci := 6) (q0 := 0) (wc := [(M, .inr (6, [.int ((u_16).1), .int ((u_16).2.1), .int 0, .int 0, .int ((u_16).2.2.1), .ref ((v 0)), .ref ((v 1)), .ref ((v 2)), .ref ((v 3)), .int 0, (u_16).2.2.2, .long 0]))]) (wr := [((u 1), .inl (cI, 12, .inl (fun _ => 0))), ((u 2), .inl (cI, 12, .inl (fun _ => 0))), ((u 3), .inl (cI, 144, .inl (fun _ => 0))), ((u 4), .inl (cI, 9, .inl (fun _ => 0))), ((u 5), .inl (cI, 18, .inl (fun _ => 0))), ((u 6), .inl (cI, 18, .inl (fun _ => 0))), ((u 7), .inl (cI, 18, .inl (fun _ => 0))), ((u 8), .inl (cI, 18, .inl (fun _ => 0))), ((u 9), .inl (cI, 18, .inl (fun _ => 0))), ((v 0), .inl (cJ, 12, .inr (.inr (.inr (.inr (fun _ => none)))))), (O, .inl (cL, 1, .inr (.inl g_9)))]) [] [11] [0, 1, 2, 3, 4, 5, 6, 7, 8, 9, 10] ⟨hx, hb, hml, hown, hts⟩ (fun sz => c_X6_thrown l dC dI cI cV cJ cL M (v 0) (v 1) (v 2) (v 3) ((u_16).1) ((u_16).2.2.1) 0 ((u_16).2.2.2) 0 ((u_16).2.1) sz) q_ml_L_130 q_im_X6_thrown q_se_X6_thrown q_ini_X6 q_co_X6_thrown (n := 0) (by decide +kernel) rfl ⟨rfl, rfl⟩ ⟨Nat.le_of_ble_eq_true rfl, Nat.le_of_ble_eq_true rfl⟩ hP hD hS hA hK hN rfl rfl (by decide) (by decide) (by decide) rfl rfl rfl hl.1 rfl (Nat.le_of_ble_eq_true rfl) dL_law_584 ⟨Nat.le_of_ble_eq_true rfl, Nat.le_of_ble_eq_true rfl⟩ (fun r_19 u_18 H locs hu_18 hP hD hS => ?_)
      have hP : va_P (dC, dI) cls [((u 1), .inl (cI, 12, .inl (fun _ => 0))), ((u 2), .inl (cI, 12, .inl (fun _ => 0))), ((u 3), .inl (cI, 144, .inl (fun _ => 0))), ((u 4), .inl (cI, 9, .inl (fun _ => 0))), ((u 5), .inl (cI, 18, .inl (fun _ => 0))), ((u 6), .inl (cI, 18, .inl (fun _ => 0))), ((u 7), .inl (cI, 18, .inl (fun _ => 0))), ((u 8), .inl (cI, 18, .inl (fun _ => 0))), ((u 9), .inl (cI, 18, .inl (fun _ => 0))), ((v 0), .inl (cJ, 12, .inr (.inr (.inr (.inr (fun _ => none)))))), (O, .inl (cL, 1, .inr (.inl g_9)))] H := hP
      have hD : va_D A [((u 1), .inl (cI, 12, .inl (fun _ => 0))), ((u 2), .inl (cI, 12, .inl (fun _ => 0))), ((u 3), .inl (cI, 144, .inl (fun _ => 0))), ((u 4), .inl (cI, 9, .inl (fun _ => 0))), ((u 5), .inl (cI, 18, .inl (fun _ => 0))), ((u 6), .inl (cI, 18, .inl (fun _ => 0))), ((u 7), .inl (cI, 18, .inl (fun _ => 0))), ((u 8), .inl (cI, 18, .inl (fun _ => 0))), ((u 9), .inl (cI, 18, .inl (fun _ => 0))), ((v 0), .inl (cJ, 12, .inr (.inr (.inr (.inr (fun _ => none)))))), (O, .inl (cL, 1, .inr (.inl g_9)))] := hD
      obtain rfl := hu_18
      refine k_st1 (y := 1) hv1 ?_
      refine lv_iload hx hb dL_law_587 (lv_at hl 1 rfl) ?_
      refine lv_icmp_eq (tgt := 594) hx hb dL_law_589 (by decide) (fun c_20 => ?_) (fun c_20 => ?_)
      rotate_left
      · first | exact absurd c_20 (by decide) | exact absurd (by decide) c_20
      refine lv_iload hx hb dL_law_594 (lv_at hl 1 rfl) ?_
      refine lv_if_ne (tgt := 618) hx hb dL_law_596 (by decide) (fun c_21 => ?_) (fun c_21 => ?_)
      rotate_left
      · first | exact absurd c_21 (by decide) | exact absurd (by decide) c_21
      refine lv_goto (tgt := 2499) hx hb dL_law_618 (by decide) ?_
      refine W.widen (k := 100) (n := 2000) (Nat.le_of_ble_eq_true rfl) (Nat.le_of_ble_eq_true rfl) ?_
      exact law_end l hlT C0 (by rw [hAe]; exact hS) (lv_sub hl [2, 6] rfl)
    · refine lv_iconst (v := 1) hx hb dL_law_561 (by decide) ?_
      refine lv_goto (tgt := 566) hx hb dL_law_562 (by decide) ?_
      refine lv_aload_n hx hb dL_law_566 rfl (lv_at hl 5 rfl) ?_
      refine lv_iload hx hb dL_law_567 (lv_at hl 1 rfl) ?_
      refine lv_iconst (v := 3) hx hb dL_law_569 (by decide) ?_
      refine lv_iadd hx hb dL_law_570 ?_
      refine k_st1 (y := 3) (by decide) ?_
      refine va_sld hx hb hX hbl hbA hS (i := 3) (vpd (by decide)) dL_law_571 ?_
      refine k_st1 (y := xs 3) (congrArg xs (by decide)) ?_
      refine lv_aload_n hx hb dL_law_572 rfl (lv_at hl 5 rfl) ?_
      refine lv_iload hx hb dL_law_573 (lv_at hl 1 rfl) ?_
      refine lv_iconst (v := 4) hx hb dL_law_575 (by decide) ?_
      refine lv_iadd hx hb dL_law_576 ?_
      refine k_st1 (y := 4) (by decide) ?_
      refine va_sld hx hb hX hbl hbA hS (i := 4) (vpd (by decide)) dL_law_577 ?_
      refine k_st1 (y := xs 4) (congrArg xs (by decide)) ?_
      refine n_Vz (ci := 6) (q0 := 0) (wc := [(M, .inr (6, [.int 0, .int 0, .int 0, .int 0, .int 0, .ref ((v 0)), .ref ((v 1)), .ref ((v 2)), .ref ((v 3)), .int 0, .null, .long 0]))]) (wr := [((u 1), .inl (cI, 12, .inl (fun _ => 0))), ((u 2), .inl (cI, 12, .inl (fun _ => 0))), ((u 3), .inl (cI, 144, .inl (fun _ => 0))), ((u 4), .inl (cI, 9, .inl (fun _ => 0))), ((u 5), .inl (cI, 18, .inl (fun _ => 0))), ((u 6), .inl (cI, 18, .inl (fun _ => 0))), ((u 7), .inl (cI, 18, .inl (fun _ => 0))), ((u 8), .inl (cI, 18, .inl (fun _ => 0))), ((u 9), .inl (cI, 18, .inl (fun _ => 0))), ((v 0), .inl (cJ, 12, .inr (.inr (.inr (.inr (fun _ => none)))))), (O, .inl (cL, 1, .inr (.inl g_9)))]) [.int (xs 1), .int 1, .int (xs 3), .int (xs 4)] [9] [0, 1, 2, 3, 4, 5, 6, 7, 8, 10, 11] ⟨hx, hb, hml, hown, hts⟩ (fun sz => c_X6_setHours l dC dI cI cV cJ cL M (v 0) (v 1) (v 2) (v 3) (xs 1) 1 (xs 3) (xs 4) sz) q_ml_L_145 q_im_X6_setHours q_se_X6_setHours q_ini_X6 q_co_X6_setHours (n := 4) (by decide +kernel) rfl ⟨rfl, rfl⟩ ⟨Nat.le_of_ble_eq_true rfl, Nat.le_of_ble_eq_true rfl⟩ hP hD hS hA hK hN rfl rfl (by decide) (by decide) (by decide) rfl rfl rfl hl.1 rfl (Nat.le_of_ble_eq_true rfl) dL_law_578 ⟨Nat.le_of_ble_eq_true rfl, Nat.le_of_ble_eq_true rfl⟩ (fun r_23 u_22 H locs hu_22 hP hD hS => ?_)
      have hP : va_P (dC, dI) cls [((u 1), .inl (cI, 12, .inl (fun _ => 0))), ((u 2), .inl (cI, 12, .inl (fun _ => 0))), ((u 3), .inl (cI, 144, .inl (fun _ => 0))), ((u 4), .inl (cI, 9, .inl (fun _ => 0))), ((u 5), .inl (cI, 18, .inl (fun _ => 0))), ((u 6), .inl (cI, 18, .inl (fun _ => 0))), ((u 7), .inl (cI, 18, .inl (fun _ => 0))), ((u 8), .inl (cI, 18, .inl (fun _ => 0))), ((u 9), .inl (cI, 18, .inl (fun _ => 0))), ((v 0), .inl (cJ, 12, .inr (.inr (.inr (.inr (fun _ => none)))))), (O, .inl (cL, 1, .inr (.inl g_9))), (M, .inr (6, [.int ((u_22).1), .int ((u_22).2.1), .int 0, .int 0, .int ((u_22).2.2.1), .ref ((v 0)), .ref ((v 1)), .ref ((v 2)), .ref ((v 3)), .int 0, (u_22).2.2.2, .long 0]))] H := hP
      have hD : va_D A [((u 1), .inl (cI, 12, .inl (fun _ => 0))), ((u 2), .inl (cI, 12, .inl (fun _ => 0))), ((u 3), .inl (cI, 144, .inl (fun _ => 0))), ((u 4), .inl (cI, 9, .inl (fun _ => 0))), ((u 5), .inl (cI, 18, .inl (fun _ => 0))), ((u 6), .inl (cI, 18, .inl (fun _ => 0))), ((u 7), .inl (cI, 18, .inl (fun _ => 0))), ((u 8), .inl (cI, 18, .inl (fun _ => 0))), ((u 9), .inl (cI, 18, .inl (fun _ => 0))), ((v 0), .inl (cJ, 12, .inr (.inr (.inr (.inr (fun _ => none)))))), (O, .inl (cL, 1, .inr (.inl g_9))), (M, .inr (6, [.int ((u_22).1), .int ((u_22).2.1), .int 0, .int 0, .int ((u_22).2.2.1), .ref ((v 0)), .ref ((v 1)), .ref ((v 2)), .ref ((v 3)), .int 0, (u_22).2.2.2, .long 0]))] := hD
      obtain ⟨hv1, hv2⟩ := hu_22
      refine lv_istore (lv' := [(6, .int r_23), (5, .int 1), (4, .int 0), (3, .ref O), (2, .ref M), (1, .ref X), (0, .ref b)]) hx hb dL_law_581 hl (by decide) rfl (fun ls hl => ?_)
      refine lv_aload_n hx hb dL_law_583 rfl (lv_at hl 4 rfl) ?_
      refine n_Vi (ci := 6) (q0 := 0) (wc := [(M, .inr (6, [.int ((u_22).1), .int ((u_22).2.1), .int 0, .int 0, .int ((u_22).2.2.1), .ref ((v 0)), .ref ((v 1)), .ref ((v 2)), .ref ((v 3)), .int 0, (u_22).2.2.2, .long 0]))]) (wr := [((u 1), .inl (cI, 12, .inl (fun _ => 0))), ((u 2), .inl (cI, 12, .inl (fun _ => 0))), ((u 3), .inl (cI, 144, .inl (fun _ => 0))), ((u 4), .inl (cI, 9, .inl (fun _ => 0))), ((u 5), .inl (cI, 18, .inl (fun _ => 0))), ((u 6), .inl (cI, 18, .inl (fun _ => 0))), ((u 7), .inl (cI, 18, .inl (fun _ => 0))), ((u 8), .inl (cI, 18, .inl (fun _ => 0))), ((u 9), .inl (cI, 18, .inl (fun _ => 0))), ((v 0), .inl (cJ, 12, .inr (.inr (.inr (.inr (fun _ => none)))))), (O, .inl (cL, 1, .inr (.inl g_9)))]) [] [11] [0, 1, 2, 3, 4, 5, 6, 7, 8, 9, 10] ⟨hx, hb, hml, hown, hts⟩ (fun sz => c_X6_thrown l dC dI cI cV cJ cL M (v 0) (v 1) (v 2) (v 3) ((u_22).1) ((u_22).2.2.1) 0 ((u_22).2.2.2) 0 ((u_22).2.1) sz) q_ml_L_130 q_im_X6_thrown q_se_X6_thrown q_ini_X6 q_co_X6_thrown (n := 0) (by decide +kernel) rfl ⟨rfl, rfl⟩ ⟨Nat.le_of_ble_eq_true rfl, Nat.le_of_ble_eq_true rfl⟩ hP hD hS hA hK hN rfl rfl (by decide) (by decide) (by decide) rfl rfl rfl hl.1 rfl (Nat.le_of_ble_eq_true rfl) dL_law_584 ⟨Nat.le_of_ble_eq_true rfl, Nat.le_of_ble_eq_true rfl⟩ (fun r_25 u_24 H locs hu_24 hP hD hS => ?_)
      have hP : va_P (dC, dI) cls [((u 1), .inl (cI, 12, .inl (fun _ => 0))), ((u 2), .inl (cI, 12, .inl (fun _ => 0))), ((u 3), .inl (cI, 144, .inl (fun _ => 0))), ((u 4), .inl (cI, 9, .inl (fun _ => 0))), ((u 5), .inl (cI, 18, .inl (fun _ => 0))), ((u 6), .inl (cI, 18, .inl (fun _ => 0))), ((u 7), .inl (cI, 18, .inl (fun _ => 0))), ((u 8), .inl (cI, 18, .inl (fun _ => 0))), ((u 9), .inl (cI, 18, .inl (fun _ => 0))), ((v 0), .inl (cJ, 12, .inr (.inr (.inr (.inr (fun _ => none)))))), (O, .inl (cL, 1, .inr (.inl g_9)))] H := hP
      have hD : va_D A [((u 1), .inl (cI, 12, .inl (fun _ => 0))), ((u 2), .inl (cI, 12, .inl (fun _ => 0))), ((u 3), .inl (cI, 144, .inl (fun _ => 0))), ((u 4), .inl (cI, 9, .inl (fun _ => 0))), ((u 5), .inl (cI, 18, .inl (fun _ => 0))), ((u 6), .inl (cI, 18, .inl (fun _ => 0))), ((u 7), .inl (cI, 18, .inl (fun _ => 0))), ((u 8), .inl (cI, 18, .inl (fun _ => 0))), ((u 9), .inl (cI, 18, .inl (fun _ => 0))), ((v 0), .inl (cJ, 12, .inr (.inr (.inr (.inr (fun _ => none)))))), (O, .inl (cL, 1, .inr (.inl g_9)))] := hD
      obtain rfl := hu_24
      refine k_st1 (y := 1) hv1 ?_
      refine lv_iload hx hb dL_law_587 (lv_at hl 1 rfl) ?_
      refine lv_icmp_eq (tgt := 594) hx hb dL_law_589 (by decide) (fun c_26 => ?_) (fun c_26 => ?_)
      rotate_left
      · first | exact absurd c_26 (by decide) | exact absurd (by decide) c_26
      refine lv_iload hx hb dL_law_594 (lv_at hl 1 rfl) ?_
      refine lv_if_ne (tgt := 618) hx hb dL_law_596 (by decide) (fun c_27 => ?_) (fun c_27 => ?_)
      rotate_left
      · first | exact absurd c_27 (by decide) | exact absurd (by decide) c_27
      refine lv_goto (tgt := 2499) hx hb dL_law_618 (by decide) ?_
      refine W.widen (k := 100) (n := 2000) (Nat.le_of_ble_eq_true rfl) (Nat.le_of_ble_eq_true rfl) ?_
      exact law_end l hlT C0 (by rw [hAe]; exact hS) (lv_sub hl [2, 6] rfl)
set_option maxHeartbeats 4000000 in
set_option maxRecDepth 100000 in
theorem law_4 {p : Program} {e : Env} {s : State} {m : MethodId} {below : List Frame} {meth : Method} {c : Code} (l : Launch) (hlT : l.stackTraces = false) {b : Nat} {xs : Nat → Int32} (C0 : lw_At p s m meth c b 7 xs) {dC : Nat → ClassId} {dI : Nat → Nat → Nat} {cI cV cJ cL : ClassId} (hK : va_K (dC, dI) cls (TYP cI cV cJ cL) s) (X : Nat) (u : Nat → Nat) (M : Nat) (v : Nat → Nat) (O : Nat) {H : Heap} {locs : List Loc} {ls : Array Slot} (hP : va_P (dC, dI) cls [(X, .inr (5, [.ref ((u 0)), .ref ((u 10)), .ref ((u 11)), .ref ((u 12)), .ref ((u 13)), .ref ((u 14)), .ref ((u 15)), .int 0, .int 0])), ((u 0), .inr (0, [.ref ((u 1)), .ref ((u 2)), .ref ((u 3)), .ref ((u 4)), .ref ((u 5)), .ref ((u 6)), .ref ((u 7)), .ref ((u 8)), .ref ((u 9)), .int 0, .int 0, .int 0])), ((u 1), .inl (cI, 12, .inl (fun _ => 0))), ((u 2), .inl (cI, 12, .inl (fun _ => 0))), ((u 3), .inl (cI, 144, .inl (fun _ => 0))), ((u 4), .inl (cI, 9, .inl (fun _ => 0))), ((u 5), .inl (cI, 18, .inl (fun _ => 0))), ((u 6), .inl (cI, 18, .inl (fun _ => 0))), ((u 7), .inl (cI, 18, .inl (fun _ => 0))), ((u 8), .inl (cI, 18, .inl (fun _ => 0))), ((u 9), .inl (cI, 18, .inl (fun _ => 0))), (M, .inr (6, [.int 0, .int 0, .int 0, .int 0, .int 0, .ref ((v 0)), .ref ((v 1)), .ref ((v 2)), .ref ((v 3)), .int 0, .null, .long 0])), ((v 0), .inl (cJ, 12, .inr (.inr (.inr (.inr (fun _ => none)))))), (O, .inl (cL, 1, .inr (.inl (fun _ => 0))))] H) (hD : va_D (NA s.heap.size) [(X, .inr (5, [.ref ((u 0)), .ref ((u 10)), .ref ((u 11)), .ref ((u 12)), .ref ((u 13)), .ref ((u 14)), .ref ((u 15)), .int 0, .int 0])), ((u 0), .inr (0, [.ref ((u 1)), .ref ((u 2)), .ref ((u 3)), .ref ((u 4)), .ref ((u 5)), .ref ((u 6)), .ref ((u 7)), .ref ((u 8)), .ref ((u 9)), .int 0, .int 0, .int 0])), ((u 1), .inl (cI, 12, .inl (fun _ => 0))), ((u 2), .inl (cI, 12, .inl (fun _ => 0))), ((u 3), .inl (cI, 144, .inl (fun _ => 0))), ((u 4), .inl (cI, 9, .inl (fun _ => 0))), ((u 5), .inl (cI, 18, .inl (fun _ => 0))), ((u 6), .inl (cI, 18, .inl (fun _ => 0))), ((u 7), .inl (cI, 18, .inl (fun _ => 0))), ((u 8), .inl (cI, 18, .inl (fun _ => 0))), ((u 9), .inl (cI, 18, .inl (fun _ => 0))), (M, .inr (6, [.int 0, .int 0, .int 0, .int 0, .int 0, .ref ((v 0)), .ref ((v 1)), .ref ((v 2)), .ref ((v 3)), .int 0, .null, .long 0])), ((v 0), .inl (cJ, 12, .inr (.inr (.inr (.inr (fun _ => none)))))), (O, .inl (cL, 1, .inr (.inl (fun _ => 0))))]) (hS : va_S (NA s.heap.size) s.heap H locs) (hl : lv_has ls 9 [(4, .int 0), (3, .ref O), (2, .ref M), (1, .ref X), (0, .ref b)]) : W p l e room_1 s m #[Value.ref b] below meth c H locs 48 592 (lw_Z below #[Value.ref b] s) (F0 m 621 ls []) := by
  obtain ⟨hx, hb, hr, hml, hown, hts0, hX, hbl, hlocks, hgv⟩ := id C0
  have hts := st_tt hts0
  have hN := st_N hts0
  have hXs := st_X hts0 hgv
  have hZs := st_Z hts0 hgv
  have hown : s.vm.findClass RL = some m.cls := hown
  obtain ⟨A, hAe⟩ : ∃ A, NA s.heap.size = A := ⟨_, rfl⟩
  rw [hAe] at hZs
  have hA : ∀ q : Nat, s.heap.size ≤ q → A q := fun q h => by rw [← hAe]; exact h
  have hbA : ¬ A b := by rw [← hAe]; exact Nat.not_le.mpr hbl
  rw [hAe] at hD hS
  refine lv_aload_n hx hb dL_law_621 rfl (lv_at hl 3 rfl) ?_
  refine lv_aload_n hx hb dL_law_622 rfl (lv_at hl 4 rfl) ?_
  refine lv_iload hx hb dL_law_623 (lv_at hl 0 rfl) ?_
  refine lv_iconst (v := 1) hx hb dL_law_625 (by decide) ?_
  refine lv_iadd hx hb dL_law_626 ?_
  refine k_st1 (y := 1) (by decide) ?_
  refine va_sld hx hb hX hbl hbA hS (i := 1) (vpd (by decide)) dL_law_627 ?_
  refine k_st1 (y := xs 1) (congrArg xs (by decide)) ?_
  refine lv_aload_n hx hb dL_law_628 rfl (lv_at hl 1 rfl) ?_
  refine x_Si (wc := [(X, .inr (5, [.ref ((u 0)), .ref ((u 10)), .ref ((u 11)), .ref ((u 12)), .ref ((u 13)), .ref ((u 14)), .ref ((u 15)), .int 0, .int 0])), ((u 0), .inr (0, [.ref ((u 1)), .ref ((u 2)), .ref ((u 3)), .ref ((u 4)), .ref ((u 5)), .ref ((u 6)), .ref ((u 7)), .ref ((u 8)), .ref ((u 9)), .int 0, .int 0, .int 0])), (O, .inl (cL, 1, .inr (.inl (fun _ => 0))))]) (wr := [((u 1), .inl (cI, 12, .inl (fun _ => 0))), ((u 2), .inl (cI, 12, .inl (fun _ => 0))), ((u 3), .inl (cI, 144, .inl (fun _ => 0))), ((u 4), .inl (cI, 9, .inl (fun _ => 0))), ((u 5), .inl (cI, 18, .inl (fun _ => 0))), ((u 6), .inl (cI, 18, .inl (fun _ => 0))), ((u 7), .inl (cI, 18, .inl (fun _ => 0))), ((u 8), .inl (cI, 18, .inl (fun _ => 0))), ((u 9), .inl (cI, 18, .inl (fun _ => 0))), (M, .inr (6, [.int 0, .int 0, .int 0, .int 0, .int 0, .ref ((v 0)), .ref ((v 1)), .ref ((v 2)), .ref ((v 3)), .int 0, .null, .long 0])), ((v 0), .inl (cJ, 12, .inr (.inr (.inr (.inr (fun _ => none))))))]) [.ref X, .int (xs 1), .ref O] [0, 1, 13] [2, 3, 4, 5, 6, 7, 8, 9, 10, 11, 12] ⟨hx, hb, hml, hown, hts⟩ (fun sz => h_insert l hlT dC dI cI cV cJ cL X (u 0) (u 10) (u 11) (u 12) (fun i => u (i + 1)) (fun i => u (i + 13)) O (fun _ => 0) (xs 1) sz) q_ml_L_146 q_st_L_insert q_ini_L q_cw_L_insert (n := 3) (by decide +kernel) rfl ⟨rfl, rfl⟩ ⟨Nat.le_of_ble_eq_true rfl, Nat.le_of_ble_eq_true rfl⟩ hP hD hS hA hK hN hXs hZs rfl rfl (by decide) (by decide) (by decide) hl.1 rfl (Nat.le_of_ble_eq_true rfl) dL_law_629 ⟨Nat.le_of_ble_eq_true rfl, Nat.le_of_ble_eq_true rfl⟩ (fun r_9 g_9 H locs hpo hP hD hS => ?_)
  obtain ⟨hr9, hg9⟩ := hpo
  refine k_st1 (y := 1) hr9 ?_
  have hP : va_P (dC, dI) cls [((u 1), .inl (cI, 12, .inl (fun _ => 0))), ((u 2), .inl (cI, 12, .inl (fun _ => 0))), ((u 3), .inl (cI, 144, .inl (fun _ => 0))), ((u 4), .inl (cI, 9, .inl (fun _ => 0))), ((u 5), .inl (cI, 18, .inl (fun _ => 0))), ((u 6), .inl (cI, 18, .inl (fun _ => 0))), ((u 7), .inl (cI, 18, .inl (fun _ => 0))), ((u 8), .inl (cI, 18, .inl (fun _ => 0))), ((u 9), .inl (cI, 18, .inl (fun _ => 0))), (M, .inr (6, [.int 0, .int 0, .int 0, .int 0, .int 0, .ref ((v 0)), .ref ((v 1)), .ref ((v 2)), .ref ((v 3)), .int 0, .null, .long 0])), ((v 0), .inl (cJ, 12, .inr (.inr (.inr (.inr (fun _ => none)))))), (O, .inl (cL, 1, .inr (.inl g_9)))] H := hP
  have hD : va_D A [((u 1), .inl (cI, 12, .inl (fun _ => 0))), ((u 2), .inl (cI, 12, .inl (fun _ => 0))), ((u 3), .inl (cI, 144, .inl (fun _ => 0))), ((u 4), .inl (cI, 9, .inl (fun _ => 0))), ((u 5), .inl (cI, 18, .inl (fun _ => 0))), ((u 6), .inl (cI, 18, .inl (fun _ => 0))), ((u 7), .inl (cI, 18, .inl (fun _ => 0))), ((u 8), .inl (cI, 18, .inl (fun _ => 0))), ((u 9), .inl (cI, 18, .inl (fun _ => 0))), (M, .inr (6, [.int 0, .int 0, .int 0, .int 0, .int 0, .ref ((v 0)), .ref ((v 1)), .ref ((v 2)), .ref ((v 3)), .int 0, .null, .long 0])), ((v 0), .inl (cJ, 12, .inr (.inr (.inr (.inr (fun _ => none)))))), (O, .inl (cL, 1, .inr (.inl g_9)))] := hD
  refine lv_istore (lv' := [(5, .int 1), (4, .int 0), (3, .ref O), (2, .ref M), (1, .ref X), (0, .ref b)]) hx hb dL_law_632 hl (by decide) rfl (fun ls hl => ?_)
  refine lv_aload_n hx hb dL_law_634 rfl (lv_at hl 3 rfl) ?_
  refine lv_aload_n hx hb dL_law_635 rfl (lv_at hl 5 rfl) ?_
  refine lv_iload hx hb dL_law_636 (lv_at hl 1 rfl) ?_
  refine lv_iconst (v := 1) hx hb dL_law_638 (by decide) ?_
  refine lv_iadd hx hb dL_law_639 ?_
  refine k_st1 (y := 1) (by decide) ?_
  refine va_sld hx hb hX hbl hbA hS (i := 1) (vpd (by decide)) dL_law_640 ?_
  refine k_st1 (y := xs 1) (congrArg xs (by decide)) ?_
  refine n_Vi (ci := 6) (q0 := 0) (wc := [(M, .inr (6, [.int 0, .int 0, .int 0, .int 0, .int 0, .ref ((v 0)), .ref ((v 1)), .ref ((v 2)), .ref ((v 3)), .int 0, .null, .long 0]))]) (wr := [((u 1), .inl (cI, 12, .inl (fun _ => 0))), ((u 2), .inl (cI, 12, .inl (fun _ => 0))), ((u 3), .inl (cI, 144, .inl (fun _ => 0))), ((u 4), .inl (cI, 9, .inl (fun _ => 0))), ((u 5), .inl (cI, 18, .inl (fun _ => 0))), ((u 6), .inl (cI, 18, .inl (fun _ => 0))), ((u 7), .inl (cI, 18, .inl (fun _ => 0))), ((u 8), .inl (cI, 18, .inl (fun _ => 0))), ((u 9), .inl (cI, 18, .inl (fun _ => 0))), ((v 0), .inl (cJ, 12, .inr (.inr (.inr (.inr (fun _ => none)))))), (O, .inl (cL, 1, .inr (.inl g_9)))]) [.int (xs 1)] [9] [0, 1, 2, 3, 4, 5, 6, 7, 8, 10, 11] ⟨hx, hb, hml, hown, hts⟩ (fun sz => c_X6_insert l dC dI cI cV cJ cL M (v 0) (v 1) (v 2) (v 3) (xs 1) sz) q_ml_L_149 q_im_X6_insert q_se_X6_insert q_ini_X6 q_co_X6_insert (n := 1) (by decide +kernel) rfl ⟨rfl, rfl⟩ ⟨Nat.le_of_ble_eq_true rfl, Nat.le_of_ble_eq_true rfl⟩ hP hD hS hA hK hN rfl rfl (by decide) (by decide) (by decide) rfl rfl rfl hl.1 rfl (Nat.le_of_ble_eq_true rfl) dL_law_641 ⟨Nat.le_of_ble_eq_true rfl, Nat.le_of_ble_eq_true rfl⟩ (fun r_2 u_1 H locs hu_1 hP hD hS => ?_)
  have hP : va_P (dC, dI) cls [((u 1), .inl (cI, 12, .inl (fun _ => 0))), ((u 2), .inl (cI, 12, .inl (fun _ => 0))), ((u 3), .inl (cI, 144, .inl (fun _ => 0))), ((u 4), .inl (cI, 9, .inl (fun _ => 0))), ((u 5), .inl (cI, 18, .inl (fun _ => 0))), ((u 6), .inl (cI, 18, .inl (fun _ => 0))), ((u 7), .inl (cI, 18, .inl (fun _ => 0))), ((u 8), .inl (cI, 18, .inl (fun _ => 0))), ((u 9), .inl (cI, 18, .inl (fun _ => 0))), ((v 0), .inl (cJ, 12, .inr (.inr (.inr (.inr (fun _ => none)))))), (O, .inl (cL, 1, .inr (.inl g_9))), (M, .inr (6, [.int ((u_1).1), .int ((u_1).2.1), .int 0, .int 0, .int ((u_1).2.2.1), .ref ((v 0)), .ref ((v 1)), .ref ((v 2)), .ref ((v 3)), .int 0, (u_1).2.2.2, .long 0]))] H := hP
  have hD : va_D A [((u 1), .inl (cI, 12, .inl (fun _ => 0))), ((u 2), .inl (cI, 12, .inl (fun _ => 0))), ((u 3), .inl (cI, 144, .inl (fun _ => 0))), ((u 4), .inl (cI, 9, .inl (fun _ => 0))), ((u 5), .inl (cI, 18, .inl (fun _ => 0))), ((u 6), .inl (cI, 18, .inl (fun _ => 0))), ((u 7), .inl (cI, 18, .inl (fun _ => 0))), ((u 8), .inl (cI, 18, .inl (fun _ => 0))), ((u 9), .inl (cI, 18, .inl (fun _ => 0))), ((v 0), .inl (cJ, 12, .inr (.inr (.inr (.inr (fun _ => none)))))), (O, .inl (cL, 1, .inr (.inl g_9))), (M, .inr (6, [.int ((u_1).1), .int ((u_1).2.1), .int 0, .int 0, .int ((u_1).2.2.1), .ref ((v 0)), .ref ((v 1)), .ref ((v 2)), .ref ((v 3)), .int 0, (u_1).2.2.2, .long 0]))] := hD
  obtain ⟨hv1, hv2⟩ := hu_1
  refine lv_istore (lv' := [(6, .int r_2), (5, .int 1), (4, .int 0), (3, .ref O), (2, .ref M), (1, .ref X), (0, .ref b)]) hx hb dL_law_644 hl (by decide) rfl (fun ls hl => ?_)
  refine lv_aload_n hx hb dL_law_646 rfl (lv_at hl 4 rfl) ?_
  refine n_Vi (ci := 6) (q0 := 0) (wc := [(M, .inr (6, [.int ((u_1).1), .int ((u_1).2.1), .int 0, .int 0, .int ((u_1).2.2.1), .ref ((v 0)), .ref ((v 1)), .ref ((v 2)), .ref ((v 3)), .int 0, (u_1).2.2.2, .long 0]))]) (wr := [((u 1), .inl (cI, 12, .inl (fun _ => 0))), ((u 2), .inl (cI, 12, .inl (fun _ => 0))), ((u 3), .inl (cI, 144, .inl (fun _ => 0))), ((u 4), .inl (cI, 9, .inl (fun _ => 0))), ((u 5), .inl (cI, 18, .inl (fun _ => 0))), ((u 6), .inl (cI, 18, .inl (fun _ => 0))), ((u 7), .inl (cI, 18, .inl (fun _ => 0))), ((u 8), .inl (cI, 18, .inl (fun _ => 0))), ((u 9), .inl (cI, 18, .inl (fun _ => 0))), ((v 0), .inl (cJ, 12, .inr (.inr (.inr (.inr (fun _ => none)))))), (O, .inl (cL, 1, .inr (.inl g_9)))]) [] [11] [0, 1, 2, 3, 4, 5, 6, 7, 8, 9, 10] ⟨hx, hb, hml, hown, hts⟩ (fun sz => c_X6_thrown l dC dI cI cV cJ cL M (v 0) (v 1) (v 2) (v 3) ((u_1).1) ((u_1).2.2.1) 0 ((u_1).2.2.2) 0 ((u_1).2.1) sz) q_ml_L_130 q_im_X6_thrown q_se_X6_thrown q_ini_X6 q_co_X6_thrown (n := 0) (by decide +kernel) rfl ⟨rfl, rfl⟩ ⟨Nat.le_of_ble_eq_true rfl, Nat.le_of_ble_eq_true rfl⟩ hP hD hS hA hK hN rfl rfl (by decide) (by decide) (by decide) rfl rfl rfl hl.1 rfl (Nat.le_of_ble_eq_true rfl) dL_law_647 ⟨Nat.le_of_ble_eq_true rfl, Nat.le_of_ble_eq_true rfl⟩ (fun r_4 u_3 H locs hu_3 hP hD hS => ?_)
  have hP : va_P (dC, dI) cls [((u 1), .inl (cI, 12, .inl (fun _ => 0))), ((u 2), .inl (cI, 12, .inl (fun _ => 0))), ((u 3), .inl (cI, 144, .inl (fun _ => 0))), ((u 4), .inl (cI, 9, .inl (fun _ => 0))), ((u 5), .inl (cI, 18, .inl (fun _ => 0))), ((u 6), .inl (cI, 18, .inl (fun _ => 0))), ((u 7), .inl (cI, 18, .inl (fun _ => 0))), ((u 8), .inl (cI, 18, .inl (fun _ => 0))), ((u 9), .inl (cI, 18, .inl (fun _ => 0))), ((v 0), .inl (cJ, 12, .inr (.inr (.inr (.inr (fun _ => none)))))), (O, .inl (cL, 1, .inr (.inl g_9)))] H := hP
  have hD : va_D A [((u 1), .inl (cI, 12, .inl (fun _ => 0))), ((u 2), .inl (cI, 12, .inl (fun _ => 0))), ((u 3), .inl (cI, 144, .inl (fun _ => 0))), ((u 4), .inl (cI, 9, .inl (fun _ => 0))), ((u 5), .inl (cI, 18, .inl (fun _ => 0))), ((u 6), .inl (cI, 18, .inl (fun _ => 0))), ((u 7), .inl (cI, 18, .inl (fun _ => 0))), ((u 8), .inl (cI, 18, .inl (fun _ => 0))), ((u 9), .inl (cI, 18, .inl (fun _ => 0))), ((v 0), .inl (cJ, 12, .inr (.inr (.inr (.inr (fun _ => none)))))), (O, .inl (cL, 1, .inr (.inl g_9)))] := hD
  obtain rfl := hu_3
  refine k_st1 (y := 1) hv1 ?_
  refine lv_iload hx hb dL_law_650 (lv_at hl 1 rfl) ?_
  refine lv_icmp_eq (tgt := 657) hx hb dL_law_652 (by decide) (fun c_5 => ?_) (fun c_5 => ?_)
  rotate_left
  · first | exact absurd c_5 (by decide) | exact absurd (by decide) c_5
  refine lv_iload hx hb dL_law_657 (lv_at hl 1 rfl) ?_
  refine lv_if_ne (tgt := 674) hx hb dL_law_659 (by decide) (fun c_6 => ?_) (fun c_6 => ?_)
  rotate_left
  · first | exact absurd c_6 (by decide) | exact absurd (by decide) c_6
  refine lv_goto (tgt := 2499) hx hb dL_law_674 (by decide) ?_
  refine W.widen (k := 100) (n := 2000) (Nat.le_of_ble_eq_true rfl) (Nat.le_of_ble_eq_true rfl) ?_
  exact law_end l hlT C0 (by rw [hAe]; exact hS) (lv_sub hl [2, 6] rfl)
set_option maxHeartbeats 4000000 in
set_option maxRecDepth 100000 in
theorem law_5 {p : Program} {e : Env} {s : State} {m : MethodId} {below : List Frame} {meth : Method} {c : Code} (l : Launch) (hlT : l.stackTraces = false) {b : Nat} {xs : Nat → Int32} (C0 : lw_At p s m meth c b 7 xs) {dC : Nat → ClassId} {dI : Nat → Nat → Nat} {cI cV cJ cL : ClassId} (hK : va_K (dC, dI) cls (TYP cI cV cJ cL) s) (X : Nat) (u : Nat → Nat) (M : Nat) (v : Nat → Nat) (O : Nat) {H : Heap} {locs : List Loc} {ls : Array Slot} (hP : va_P (dC, dI) cls [(X, .inr (5, [.ref ((u 0)), .ref ((u 10)), .ref ((u 11)), .ref ((u 12)), .ref ((u 13)), .ref ((u 14)), .ref ((u 15)), .int 0, .int 0])), ((u 0), .inr (0, [.ref ((u 1)), .ref ((u 2)), .ref ((u 3)), .ref ((u 4)), .ref ((u 5)), .ref ((u 6)), .ref ((u 7)), .ref ((u 8)), .ref ((u 9)), .int 0, .int 0, .int 0])), ((u 1), .inl (cI, 12, .inl (fun _ => 0))), ((u 2), .inl (cI, 12, .inl (fun _ => 0))), ((u 3), .inl (cI, 144, .inl (fun _ => 0))), ((u 4), .inl (cI, 9, .inl (fun _ => 0))), ((u 5), .inl (cI, 18, .inl (fun _ => 0))), ((u 6), .inl (cI, 18, .inl (fun _ => 0))), ((u 7), .inl (cI, 18, .inl (fun _ => 0))), ((u 8), .inl (cI, 18, .inl (fun _ => 0))), ((u 9), .inl (cI, 18, .inl (fun _ => 0))), (M, .inr (6, [.int 0, .int 0, .int 0, .int 0, .int 0, .ref ((v 0)), .ref ((v 1)), .ref ((v 2)), .ref ((v 3)), .int 0, .null, .long 0])), ((v 0), .inl (cJ, 12, .inr (.inr (.inr (.inr (fun _ => none)))))), (O, .inl (cL, 1, .inr (.inl (fun _ => 0))))] H) (hD : va_D (NA s.heap.size) [(X, .inr (5, [.ref ((u 0)), .ref ((u 10)), .ref ((u 11)), .ref ((u 12)), .ref ((u 13)), .ref ((u 14)), .ref ((u 15)), .int 0, .int 0])), ((u 0), .inr (0, [.ref ((u 1)), .ref ((u 2)), .ref ((u 3)), .ref ((u 4)), .ref ((u 5)), .ref ((u 6)), .ref ((u 7)), .ref ((u 8)), .ref ((u 9)), .int 0, .int 0, .int 0])), ((u 1), .inl (cI, 12, .inl (fun _ => 0))), ((u 2), .inl (cI, 12, .inl (fun _ => 0))), ((u 3), .inl (cI, 144, .inl (fun _ => 0))), ((u 4), .inl (cI, 9, .inl (fun _ => 0))), ((u 5), .inl (cI, 18, .inl (fun _ => 0))), ((u 6), .inl (cI, 18, .inl (fun _ => 0))), ((u 7), .inl (cI, 18, .inl (fun _ => 0))), ((u 8), .inl (cI, 18, .inl (fun _ => 0))), ((u 9), .inl (cI, 18, .inl (fun _ => 0))), (M, .inr (6, [.int 0, .int 0, .int 0, .int 0, .int 0, .ref ((v 0)), .ref ((v 1)), .ref ((v 2)), .ref ((v 3)), .int 0, .null, .long 0])), ((v 0), .inl (cJ, 12, .inr (.inr (.inr (.inr (fun _ => none)))))), (O, .inl (cL, 1, .inr (.inl (fun _ => 0))))]) (hS : va_S (NA s.heap.size) s.heap H locs) (hl : lv_has ls 9 [(4, .int 0), (3, .ref O), (2, .ref M), (1, .ref X), (0, .ref b)]) : W p l e room_1 s m #[Value.ref b] below meth c H locs 48 592 (lw_Z below #[Value.ref b] s) (F0 m 677 ls []) := by
  obtain ⟨hx, hb, hr, hml, hown, hts0, hX, hbl, hlocks, hgv⟩ := id C0
  have hts := st_tt hts0
  have hN := st_N hts0
  have hXs := st_X hts0 hgv
  have hZs := st_Z hts0 hgv
  have hown : s.vm.findClass RL = some m.cls := hown
  obtain ⟨A, hAe⟩ : ∃ A, NA s.heap.size = A := ⟨_, rfl⟩
  rw [hAe] at hZs
  have hA : ∀ q : Nat, s.heap.size ≤ q → A q := fun q h => by rw [← hAe]; exact h
  have hbA : ¬ A b := by rw [← hAe]; exact Nat.not_le.mpr hbl
  rw [hAe] at hD hS
  refine lv_aload_n hx hb dL_law_677 rfl (lv_at hl 3 rfl) ?_
  refine lv_aload_n hx hb dL_law_678 rfl (lv_at hl 4 rfl) ?_
  refine lv_iload hx hb dL_law_679 (lv_at hl 0 rfl) ?_
  refine lv_iconst (v := 1) hx hb dL_law_681 (by decide) ?_
  refine lv_iadd hx hb dL_law_682 ?_
  refine k_st1 (y := 1) (by decide) ?_
  refine va_sld hx hb hX hbl hbA hS (i := 1) (vpd (by decide)) dL_law_683 ?_
  refine k_st1 (y := xs 1) (congrArg xs (by decide)) ?_
  refine lv_aload_n hx hb dL_law_684 rfl (lv_at hl 4 rfl) ?_
  refine lv_iload hx hb dL_law_685 (lv_at hl 0 rfl) ?_
  refine lv_iconst (v := 2) hx hb dL_law_687 (by decide) ?_
  refine lv_iadd hx hb dL_law_688 ?_
  refine k_st1 (y := 2) (by decide) ?_
  refine va_sld hx hb hX hbl hbA hS (i := 2) (vpd (by decide)) dL_law_689 ?_
  refine k_st1 (y := xs 2) (congrArg xs (by decide)) ?_
  refine lv_aload_n hx hb dL_law_690 rfl (lv_at hl 4 rfl) ?_
  refine lv_iload hx hb dL_law_691 (lv_at hl 0 rfl) ?_
  refine lv_iconst (v := 3) hx hb dL_law_693 (by decide) ?_
  refine lv_iadd hx hb dL_law_694 ?_
  refine k_st1 (y := 3) (by decide) ?_
  refine va_sld hx hb hX hbl hbA hS (i := 3) (vpd (by decide)) dL_law_695 ?_
  refine k_st1 (y := xs 3) (congrArg xs (by decide)) ?_
  refine lv_aload_n hx hb dL_law_696 rfl (lv_at hl 4 rfl) ?_
  refine lv_iload hx hb dL_law_697 (lv_at hl 0 rfl) ?_
  refine lv_iconst (v := 4) hx hb dL_law_699 (by decide) ?_
  refine lv_iadd hx hb dL_law_700 ?_
  refine k_st1 (y := 4) (by decide) ?_
  refine va_sld hx hb hX hbl hbA hS (i := 4) (vpd (by decide)) dL_law_701 ?_
  refine k_st1 (y := xs 4) (congrArg xs (by decide)) ?_
  refine lv_aload_n hx hb dL_law_702 rfl (lv_at hl 1 rfl) ?_
  refine x_Si (wc := [(X, .inr (5, [.ref ((u 0)), .ref ((u 10)), .ref ((u 11)), .ref ((u 12)), .ref ((u 13)), .ref ((u 14)), .ref ((u 15)), .int 0, .int 0])), ((u 0), .inr (0, [.ref ((u 1)), .ref ((u 2)), .ref ((u 3)), .ref ((u 4)), .ref ((u 5)), .ref ((u 6)), .ref ((u 7)), .ref ((u 8)), .ref ((u 9)), .int 0, .int 0, .int 0])), (O, .inl (cL, 1, .inr (.inl (fun _ => 0))))]) (wr := [((u 1), .inl (cI, 12, .inl (fun _ => 0))), ((u 2), .inl (cI, 12, .inl (fun _ => 0))), ((u 3), .inl (cI, 144, .inl (fun _ => 0))), ((u 4), .inl (cI, 9, .inl (fun _ => 0))), ((u 5), .inl (cI, 18, .inl (fun _ => 0))), ((u 6), .inl (cI, 18, .inl (fun _ => 0))), ((u 7), .inl (cI, 18, .inl (fun _ => 0))), ((u 8), .inl (cI, 18, .inl (fun _ => 0))), ((u 9), .inl (cI, 18, .inl (fun _ => 0))), (M, .inr (6, [.int 0, .int 0, .int 0, .int 0, .int 0, .ref ((v 0)), .ref ((v 1)), .ref ((v 2)), .ref ((v 3)), .int 0, .null, .long 0])), ((v 0), .inl (cJ, 12, .inr (.inr (.inr (.inr (fun _ => none))))))]) [.ref X, .int (xs 1), .int (xs 2), .int (xs 3), .int (xs 4), .ref O] [0, 1, 13] [2, 3, 4, 5, 6, 7, 8, 9, 10, 11, 12] ⟨hx, hb, hml, hown, hts⟩ (fun sz => h_insertAt l hlT dC dI cI cV cJ cL X (u 0) (u 10) (u 11) (u 12) (fun i => u (i + 1)) (fun i => u (i + 13)) O (fun _ => 0) (xs 1) (xs 2) (xs 3) (xs 4) sz) q_ml_L_150 q_st_L_insertAt q_ini_L q_cw_L_insertAt (n := 6) (by decide +kernel) rfl ⟨rfl, rfl⟩ ⟨Nat.le_of_ble_eq_true rfl, Nat.le_of_ble_eq_true rfl⟩ hP hD hS hA hK hN hXs hZs rfl rfl (by decide) (by decide) (by decide) hl.1 rfl (Nat.le_of_ble_eq_true rfl) dL_law_703 ⟨Nat.le_of_ble_eq_true rfl, Nat.le_of_ble_eq_true rfl⟩ (fun r_9 g_9 H locs hpo hP hD hS => ?_)
  obtain ⟨hr9, hg9⟩ := hpo
  refine k_st1 (y := 1) hr9 ?_
  have hP : va_P (dC, dI) cls [((u 1), .inl (cI, 12, .inl (fun _ => 0))), ((u 2), .inl (cI, 12, .inl (fun _ => 0))), ((u 3), .inl (cI, 144, .inl (fun _ => 0))), ((u 4), .inl (cI, 9, .inl (fun _ => 0))), ((u 5), .inl (cI, 18, .inl (fun _ => 0))), ((u 6), .inl (cI, 18, .inl (fun _ => 0))), ((u 7), .inl (cI, 18, .inl (fun _ => 0))), ((u 8), .inl (cI, 18, .inl (fun _ => 0))), ((u 9), .inl (cI, 18, .inl (fun _ => 0))), (M, .inr (6, [.int 0, .int 0, .int 0, .int 0, .int 0, .ref ((v 0)), .ref ((v 1)), .ref ((v 2)), .ref ((v 3)), .int 0, .null, .long 0])), ((v 0), .inl (cJ, 12, .inr (.inr (.inr (.inr (fun _ => none)))))), (O, .inl (cL, 1, .inr (.inl g_9)))] H := hP
  have hD : va_D A [((u 1), .inl (cI, 12, .inl (fun _ => 0))), ((u 2), .inl (cI, 12, .inl (fun _ => 0))), ((u 3), .inl (cI, 144, .inl (fun _ => 0))), ((u 4), .inl (cI, 9, .inl (fun _ => 0))), ((u 5), .inl (cI, 18, .inl (fun _ => 0))), ((u 6), .inl (cI, 18, .inl (fun _ => 0))), ((u 7), .inl (cI, 18, .inl (fun _ => 0))), ((u 8), .inl (cI, 18, .inl (fun _ => 0))), ((u 9), .inl (cI, 18, .inl (fun _ => 0))), (M, .inr (6, [.int 0, .int 0, .int 0, .int 0, .int 0, .ref ((v 0)), .ref ((v 1)), .ref ((v 2)), .ref ((v 3)), .int 0, .null, .long 0])), ((v 0), .inl (cJ, 12, .inr (.inr (.inr (.inr (fun _ => none)))))), (O, .inl (cL, 1, .inr (.inl g_9)))] := hD
  refine lv_istore (lv' := [(5, .int 1), (4, .int 0), (3, .ref O), (2, .ref M), (1, .ref X), (0, .ref b)]) hx hb dL_law_706 hl (by decide) rfl (fun ls hl => ?_)
  refine lv_aload_n hx hb dL_law_708 rfl (lv_at hl 3 rfl) ?_
  refine lv_aload_n hx hb dL_law_709 rfl (lv_at hl 5 rfl) ?_
  refine lv_iload hx hb dL_law_710 (lv_at hl 1 rfl) ?_
  refine lv_iconst (v := 1) hx hb dL_law_712 (by decide) ?_
  refine lv_iadd hx hb dL_law_713 ?_
  refine k_st1 (y := 1) (by decide) ?_
  refine va_sld hx hb hX hbl hbA hS (i := 1) (vpd (by decide)) dL_law_714 ?_
  refine k_st1 (y := xs 1) (congrArg xs (by decide)) ?_
  refine lv_aload_n hx hb dL_law_715 rfl (lv_at hl 5 rfl) ?_
  refine lv_iload hx hb dL_law_716 (lv_at hl 1 rfl) ?_
  refine lv_iconst (v := 2) hx hb dL_law_718 (by decide) ?_
  refine lv_iadd hx hb dL_law_719 ?_
  refine k_st1 (y := 2) (by decide) ?_
  refine va_sld hx hb hX hbl hbA hS (i := 2) (vpd (by decide)) dL_law_720 ?_
  refine k_st1 (y := xs 2) (congrArg xs (by decide)) ?_
  refine lv_aload_n hx hb dL_law_721 rfl (lv_at hl 5 rfl) ?_
  refine lv_iload hx hb dL_law_722 (lv_at hl 1 rfl) ?_
  refine lv_iconst (v := 3) hx hb dL_law_724 (by decide) ?_
  refine lv_iadd hx hb dL_law_725 ?_
  refine k_st1 (y := 3) (by decide) ?_
  refine va_sld hx hb hX hbl hbA hS (i := 3) (vpd (by decide)) dL_law_726 ?_
  refine k_st1 (y := xs 3) (congrArg xs (by decide)) ?_
  refine lv_aload_n hx hb dL_law_727 rfl (lv_at hl 5 rfl) ?_
  refine lv_iload hx hb dL_law_728 (lv_at hl 1 rfl) ?_
  refine lv_iconst (v := 4) hx hb dL_law_730 (by decide) ?_
  refine lv_iadd hx hb dL_law_731 ?_
  refine k_st1 (y := 4) (by decide) ?_
  refine va_sld hx hb hX hbl hbA hS (i := 4) (vpd (by decide)) dL_law_732 ?_
  refine k_st1 (y := xs 4) (congrArg xs (by decide)) ?_
  refine n_Vi (ci := 6) (q0 := 0) (wc := [(M, .inr (6, [.int 0, .int 0, .int 0, .int 0, .int 0, .ref ((v 0)), .ref ((v 1)), .ref ((v 2)), .ref ((v 3)), .int 0, .null, .long 0]))]) (wr := [((u 1), .inl (cI, 12, .inl (fun _ => 0))), ((u 2), .inl (cI, 12, .inl (fun _ => 0))), ((u 3), .inl (cI, 144, .inl (fun _ => 0))), ((u 4), .inl (cI, 9, .inl (fun _ => 0))), ((u 5), .inl (cI, 18, .inl (fun _ => 0))), ((u 6), .inl (cI, 18, .inl (fun _ => 0))), ((u 7), .inl (cI, 18, .inl (fun _ => 0))), ((u 8), .inl (cI, 18, .inl (fun _ => 0))), ((u 9), .inl (cI, 18, .inl (fun _ => 0))), ((v 0), .inl (cJ, 12, .inr (.inr (.inr (.inr (fun _ => none)))))), (O, .inl (cL, 1, .inr (.inl g_9)))]) [.int (xs 1), .int (xs 2), .int (xs 3), .int (xs 4)] [9] [0, 1, 2, 3, 4, 5, 6, 7, 8, 10, 11] ⟨hx, hb, hml, hown, hts⟩ (fun sz => c_X6_insertAt l dC dI cI cV cJ cL M (v 0) (v 1) (v 2) (v 3) (xs 1) (xs 2) (xs 3) (xs 4) sz) q_ml_L_153 q_im_X6_insertAt q_se_X6_insertAt q_ini_X6 q_co_X6_insertAt (n := 4) (by decide +kernel) rfl ⟨rfl, rfl⟩ ⟨Nat.le_of_ble_eq_true rfl, Nat.le_of_ble_eq_true rfl⟩ hP hD hS hA hK hN rfl rfl (by decide) (by decide) (by decide) rfl rfl rfl hl.1 rfl (Nat.le_of_ble_eq_true rfl) dL_law_733 ⟨Nat.le_of_ble_eq_true rfl, Nat.le_of_ble_eq_true rfl⟩ (fun r_2 u_1 H locs hu_1 hP hD hS => ?_)
  have hP : va_P (dC, dI) cls [((u 1), .inl (cI, 12, .inl (fun _ => 0))), ((u 2), .inl (cI, 12, .inl (fun _ => 0))), ((u 3), .inl (cI, 144, .inl (fun _ => 0))), ((u 4), .inl (cI, 9, .inl (fun _ => 0))), ((u 5), .inl (cI, 18, .inl (fun _ => 0))), ((u 6), .inl (cI, 18, .inl (fun _ => 0))), ((u 7), .inl (cI, 18, .inl (fun _ => 0))), ((u 8), .inl (cI, 18, .inl (fun _ => 0))), ((u 9), .inl (cI, 18, .inl (fun _ => 0))), ((v 0), .inl (cJ, 12, .inr (.inr (.inr (.inr (fun _ => none)))))), (O, .inl (cL, 1, .inr (.inl g_9))), (M, .inr (6, [.int ((u_1).1), .int ((u_1).2.1), .int 0, .int 0, .int ((u_1).2.2.1), .ref ((v 0)), .ref ((v 1)), .ref ((v 2)), .ref ((v 3)), .int 0, (u_1).2.2.2, .long 0]))] H := hP
  have hD : va_D A [((u 1), .inl (cI, 12, .inl (fun _ => 0))), ((u 2), .inl (cI, 12, .inl (fun _ => 0))), ((u 3), .inl (cI, 144, .inl (fun _ => 0))), ((u 4), .inl (cI, 9, .inl (fun _ => 0))), ((u 5), .inl (cI, 18, .inl (fun _ => 0))), ((u 6), .inl (cI, 18, .inl (fun _ => 0))), ((u 7), .inl (cI, 18, .inl (fun _ => 0))), ((u 8), .inl (cI, 18, .inl (fun _ => 0))), ((u 9), .inl (cI, 18, .inl (fun _ => 0))), ((v 0), .inl (cJ, 12, .inr (.inr (.inr (.inr (fun _ => none)))))), (O, .inl (cL, 1, .inr (.inl g_9))), (M, .inr (6, [.int ((u_1).1), .int ((u_1).2.1), .int 0, .int 0, .int ((u_1).2.2.1), .ref ((v 0)), .ref ((v 1)), .ref ((v 2)), .ref ((v 3)), .int 0, (u_1).2.2.2, .long 0]))] := hD
  obtain ⟨hv1, hv2⟩ := hu_1
  refine lv_istore (lv' := [(6, .int r_2), (5, .int 1), (4, .int 0), (3, .ref O), (2, .ref M), (1, .ref X), (0, .ref b)]) hx hb dL_law_736 hl (by decide) rfl (fun ls hl => ?_)
  refine lv_aload_n hx hb dL_law_738 rfl (lv_at hl 4 rfl) ?_
  refine n_Vi (ci := 6) (q0 := 0) (wc := [(M, .inr (6, [.int ((u_1).1), .int ((u_1).2.1), .int 0, .int 0, .int ((u_1).2.2.1), .ref ((v 0)), .ref ((v 1)), .ref ((v 2)), .ref ((v 3)), .int 0, (u_1).2.2.2, .long 0]))]) (wr := [((u 1), .inl (cI, 12, .inl (fun _ => 0))), ((u 2), .inl (cI, 12, .inl (fun _ => 0))), ((u 3), .inl (cI, 144, .inl (fun _ => 0))), ((u 4), .inl (cI, 9, .inl (fun _ => 0))), ((u 5), .inl (cI, 18, .inl (fun _ => 0))), ((u 6), .inl (cI, 18, .inl (fun _ => 0))), ((u 7), .inl (cI, 18, .inl (fun _ => 0))), ((u 8), .inl (cI, 18, .inl (fun _ => 0))), ((u 9), .inl (cI, 18, .inl (fun _ => 0))), ((v 0), .inl (cJ, 12, .inr (.inr (.inr (.inr (fun _ => none)))))), (O, .inl (cL, 1, .inr (.inl g_9)))]) [] [11] [0, 1, 2, 3, 4, 5, 6, 7, 8, 9, 10] ⟨hx, hb, hml, hown, hts⟩ (fun sz => c_X6_thrown l dC dI cI cV cJ cL M (v 0) (v 1) (v 2) (v 3) ((u_1).1) ((u_1).2.2.1) 0 ((u_1).2.2.2) 0 ((u_1).2.1) sz) q_ml_L_130 q_im_X6_thrown q_se_X6_thrown q_ini_X6 q_co_X6_thrown (n := 0) (by decide +kernel) rfl ⟨rfl, rfl⟩ ⟨Nat.le_of_ble_eq_true rfl, Nat.le_of_ble_eq_true rfl⟩ hP hD hS hA hK hN rfl rfl (by decide) (by decide) (by decide) rfl rfl rfl hl.1 rfl (Nat.le_of_ble_eq_true rfl) dL_law_739 ⟨Nat.le_of_ble_eq_true rfl, Nat.le_of_ble_eq_true rfl⟩ (fun r_4 u_3 H locs hu_3 hP hD hS => ?_)
  have hP : va_P (dC, dI) cls [((u 1), .inl (cI, 12, .inl (fun _ => 0))), ((u 2), .inl (cI, 12, .inl (fun _ => 0))), ((u 3), .inl (cI, 144, .inl (fun _ => 0))), ((u 4), .inl (cI, 9, .inl (fun _ => 0))), ((u 5), .inl (cI, 18, .inl (fun _ => 0))), ((u 6), .inl (cI, 18, .inl (fun _ => 0))), ((u 7), .inl (cI, 18, .inl (fun _ => 0))), ((u 8), .inl (cI, 18, .inl (fun _ => 0))), ((u 9), .inl (cI, 18, .inl (fun _ => 0))), ((v 0), .inl (cJ, 12, .inr (.inr (.inr (.inr (fun _ => none)))))), (O, .inl (cL, 1, .inr (.inl g_9)))] H := hP
  have hD : va_D A [((u 1), .inl (cI, 12, .inl (fun _ => 0))), ((u 2), .inl (cI, 12, .inl (fun _ => 0))), ((u 3), .inl (cI, 144, .inl (fun _ => 0))), ((u 4), .inl (cI, 9, .inl (fun _ => 0))), ((u 5), .inl (cI, 18, .inl (fun _ => 0))), ((u 6), .inl (cI, 18, .inl (fun _ => 0))), ((u 7), .inl (cI, 18, .inl (fun _ => 0))), ((u 8), .inl (cI, 18, .inl (fun _ => 0))), ((u 9), .inl (cI, 18, .inl (fun _ => 0))), ((v 0), .inl (cJ, 12, .inr (.inr (.inr (.inr (fun _ => none)))))), (O, .inl (cL, 1, .inr (.inl g_9)))] := hD
  obtain rfl := hu_3
  refine k_st1 (y := 1) hv1 ?_
  refine lv_iload hx hb dL_law_742 (lv_at hl 1 rfl) ?_
  refine lv_icmp_eq (tgt := 749) hx hb dL_law_744 (by decide) (fun c_5 => ?_) (fun c_5 => ?_)
  rotate_left
  · first | exact absurd c_5 (by decide) | exact absurd (by decide) c_5
  refine lv_iload hx hb dL_law_749 (lv_at hl 1 rfl) ?_
  refine lv_if_ne (tgt := 766) hx hb dL_law_751 (by decide) (fun c_6 => ?_) (fun c_6 => ?_)
  rotate_left
  · first | exact absurd c_6 (by decide) | exact absurd (by decide) c_6
  refine lv_goto (tgt := 2499) hx hb dL_law_766 (by decide) ?_
  refine W.widen (k := 100) (n := 2000) (Nat.le_of_ble_eq_true rfl) (Nat.le_of_ble_eq_true rfl) ?_
  exact law_end l hlT C0 (by rw [hAe]; exact hS) (lv_sub hl [2, 6] rfl)
set_option maxHeartbeats 4000000 in
set_option maxRecDepth 100000 in
theorem law_6 {p : Program} {e : Env} {s : State} {m : MethodId} {below : List Frame} {meth : Method} {c : Code} (l : Launch) (hlT : l.stackTraces = false) {b : Nat} {xs : Nat → Int32} (C0 : lw_At p s m meth c b 7 xs) {dC : Nat → ClassId} {dI : Nat → Nat → Nat} {cI cV cJ cL : ClassId} (hK : va_K (dC, dI) cls (TYP cI cV cJ cL) s) (X : Nat) (u : Nat → Nat) (M : Nat) (v : Nat → Nat) (O : Nat) {H : Heap} {locs : List Loc} {ls : Array Slot} (hP : va_P (dC, dI) cls [(X, .inr (5, [.ref ((u 0)), .ref ((u 10)), .ref ((u 11)), .ref ((u 12)), .ref ((u 13)), .ref ((u 14)), .ref ((u 15)), .int 0, .int 0])), ((u 0), .inr (0, [.ref ((u 1)), .ref ((u 2)), .ref ((u 3)), .ref ((u 4)), .ref ((u 5)), .ref ((u 6)), .ref ((u 7)), .ref ((u 8)), .ref ((u 9)), .int 0, .int 0, .int 0])), ((u 1), .inl (cI, 12, .inl (fun _ => 0))), ((u 2), .inl (cI, 12, .inl (fun _ => 0))), ((u 3), .inl (cI, 144, .inl (fun _ => 0))), ((u 4), .inl (cI, 9, .inl (fun _ => 0))), ((u 5), .inl (cI, 18, .inl (fun _ => 0))), ((u 6), .inl (cI, 18, .inl (fun _ => 0))), ((u 7), .inl (cI, 18, .inl (fun _ => 0))), ((u 8), .inl (cI, 18, .inl (fun _ => 0))), ((u 9), .inl (cI, 18, .inl (fun _ => 0))), (M, .inr (6, [.int 0, .int 0, .int 0, .int 0, .int 0, .ref ((v 0)), .ref ((v 1)), .ref ((v 2)), .ref ((v 3)), .int 0, .null, .long 0])), ((v 0), .inl (cJ, 12, .inr (.inr (.inr (.inr (fun _ => none)))))), (O, .inl (cL, 1, .inr (.inl (fun _ => 0))))] H) (hD : va_D (NA s.heap.size) [(X, .inr (5, [.ref ((u 0)), .ref ((u 10)), .ref ((u 11)), .ref ((u 12)), .ref ((u 13)), .ref ((u 14)), .ref ((u 15)), .int 0, .int 0])), ((u 0), .inr (0, [.ref ((u 1)), .ref ((u 2)), .ref ((u 3)), .ref ((u 4)), .ref ((u 5)), .ref ((u 6)), .ref ((u 7)), .ref ((u 8)), .ref ((u 9)), .int 0, .int 0, .int 0])), ((u 1), .inl (cI, 12, .inl (fun _ => 0))), ((u 2), .inl (cI, 12, .inl (fun _ => 0))), ((u 3), .inl (cI, 144, .inl (fun _ => 0))), ((u 4), .inl (cI, 9, .inl (fun _ => 0))), ((u 5), .inl (cI, 18, .inl (fun _ => 0))), ((u 6), .inl (cI, 18, .inl (fun _ => 0))), ((u 7), .inl (cI, 18, .inl (fun _ => 0))), ((u 8), .inl (cI, 18, .inl (fun _ => 0))), ((u 9), .inl (cI, 18, .inl (fun _ => 0))), (M, .inr (6, [.int 0, .int 0, .int 0, .int 0, .int 0, .ref ((v 0)), .ref ((v 1)), .ref ((v 2)), .ref ((v 3)), .int 0, .null, .long 0])), ((v 0), .inl (cJ, 12, .inr (.inr (.inr (.inr (fun _ => none)))))), (O, .inl (cL, 1, .inr (.inl (fun _ => 0))))]) (hS : va_S (NA s.heap.size) s.heap H locs) (hl : lv_has ls 9 [(4, .int 0), (3, .ref O), (2, .ref M), (1, .ref X), (0, .ref b)]) : W p l e room_1 s m #[Value.ref b] below meth c H locs 48 592 (lw_Z below #[Value.ref b] s) (F0 m 769 ls []) := by
  obtain ⟨hx, hb, hr, hml, hown, hts0, hX, hbl, hlocks, hgv⟩ := id C0
  have hts := st_tt hts0
  have hN := st_N hts0
  have hXs := st_X hts0 hgv
  have hZs := st_Z hts0 hgv
  have hown : s.vm.findClass RL = some m.cls := hown
  obtain ⟨A, hAe⟩ : ∃ A, NA s.heap.size = A := ⟨_, rfl⟩
  rw [hAe] at hZs
  have hA : ∀ q : Nat, s.heap.size ≤ q → A q := fun q h => by rw [← hAe]; exact h
  have hbA : ¬ A b := by rw [← hAe]; exact Nat.not_le.mpr hbl
  rw [hAe] at hD hS
  refine lv_aload_n hx hb dL_law_769 rfl (lv_at hl 3 rfl) ?_
  refine lv_aload_n hx hb dL_law_770 rfl (lv_at hl 4 rfl) ?_
  refine lv_iload hx hb dL_law_771 (lv_at hl 0 rfl) ?_
  refine lv_iconst (v := 1) hx hb dL_law_773 (by decide) ?_
  refine lv_iadd hx hb dL_law_774 ?_
  refine k_st1 (y := 1) (by decide) ?_
  refine va_sld hx hb hX hbl hbA hS (i := 1) (vpd (by decide)) dL_law_775 ?_
  refine k_st1 (y := xs 1) (congrArg xs (by decide)) ?_
  refine lv_aload_n hx hb dL_law_776 rfl (lv_at hl 1 rfl) ?_
  refine x_Si (wc := [(X, .inr (5, [.ref ((u 0)), .ref ((u 10)), .ref ((u 11)), .ref ((u 12)), .ref ((u 13)), .ref ((u 14)), .ref ((u 15)), .int 0, .int 0])), ((u 0), .inr (0, [.ref ((u 1)), .ref ((u 2)), .ref ((u 3)), .ref ((u 4)), .ref ((u 5)), .ref ((u 6)), .ref ((u 7)), .ref ((u 8)), .ref ((u 9)), .int 0, .int 0, .int 0])), (O, .inl (cL, 1, .inr (.inl (fun _ => 0))))]) (wr := [((u 1), .inl (cI, 12, .inl (fun _ => 0))), ((u 2), .inl (cI, 12, .inl (fun _ => 0))), ((u 3), .inl (cI, 144, .inl (fun _ => 0))), ((u 4), .inl (cI, 9, .inl (fun _ => 0))), ((u 5), .inl (cI, 18, .inl (fun _ => 0))), ((u 6), .inl (cI, 18, .inl (fun _ => 0))), ((u 7), .inl (cI, 18, .inl (fun _ => 0))), ((u 8), .inl (cI, 18, .inl (fun _ => 0))), ((u 9), .inl (cI, 18, .inl (fun _ => 0))), (M, .inr (6, [.int 0, .int 0, .int 0, .int 0, .int 0, .ref ((v 0)), .ref ((v 1)), .ref ((v 2)), .ref ((v 3)), .int 0, .null, .long 0])), ((v 0), .inl (cJ, 12, .inr (.inr (.inr (.inr (fun _ => none))))))]) [.ref X, .int (xs 1), .ref O] [0, 1, 13] [2, 3, 4, 5, 6, 7, 8, 9, 10, 11, 12] ⟨hx, hb, hml, hown, hts⟩ (fun sz => h_take l hlT dC dI cI cV cJ cL X (u 0) (u 10) (u 11) (u 12) (fun i => u (i + 1)) (fun i => u (i + 13)) O (fun _ => 0) (xs 1) sz) q_ml_L_154 q_st_L_take q_ini_L q_cw_L_take (n := 3) (by decide +kernel) rfl ⟨rfl, rfl⟩ ⟨Nat.le_of_ble_eq_true rfl, Nat.le_of_ble_eq_true rfl⟩ hP hD hS hA hK hN hXs hZs rfl rfl (by decide) (by decide) (by decide) hl.1 rfl (Nat.le_of_ble_eq_true rfl) dL_law_777 ⟨Nat.le_of_ble_eq_true rfl, Nat.le_of_ble_eq_true rfl⟩ (fun r_9 g_9 H locs hpo hP hD hS => ?_)
  obtain ⟨hr9, hg9⟩ := hpo
  refine k_st1 (y := 1) hr9 ?_
  have hP : va_P (dC, dI) cls [((u 1), .inl (cI, 12, .inl (fun _ => 0))), ((u 2), .inl (cI, 12, .inl (fun _ => 0))), ((u 3), .inl (cI, 144, .inl (fun _ => 0))), ((u 4), .inl (cI, 9, .inl (fun _ => 0))), ((u 5), .inl (cI, 18, .inl (fun _ => 0))), ((u 6), .inl (cI, 18, .inl (fun _ => 0))), ((u 7), .inl (cI, 18, .inl (fun _ => 0))), ((u 8), .inl (cI, 18, .inl (fun _ => 0))), ((u 9), .inl (cI, 18, .inl (fun _ => 0))), (M, .inr (6, [.int 0, .int 0, .int 0, .int 0, .int 0, .ref ((v 0)), .ref ((v 1)), .ref ((v 2)), .ref ((v 3)), .int 0, .null, .long 0])), ((v 0), .inl (cJ, 12, .inr (.inr (.inr (.inr (fun _ => none)))))), (O, .inl (cL, 1, .inr (.inl g_9)))] H := hP
  have hD : va_D A [((u 1), .inl (cI, 12, .inl (fun _ => 0))), ((u 2), .inl (cI, 12, .inl (fun _ => 0))), ((u 3), .inl (cI, 144, .inl (fun _ => 0))), ((u 4), .inl (cI, 9, .inl (fun _ => 0))), ((u 5), .inl (cI, 18, .inl (fun _ => 0))), ((u 6), .inl (cI, 18, .inl (fun _ => 0))), ((u 7), .inl (cI, 18, .inl (fun _ => 0))), ((u 8), .inl (cI, 18, .inl (fun _ => 0))), ((u 9), .inl (cI, 18, .inl (fun _ => 0))), (M, .inr (6, [.int 0, .int 0, .int 0, .int 0, .int 0, .ref ((v 0)), .ref ((v 1)), .ref ((v 2)), .ref ((v 3)), .int 0, .null, .long 0])), ((v 0), .inl (cJ, 12, .inr (.inr (.inr (.inr (fun _ => none)))))), (O, .inl (cL, 1, .inr (.inl g_9)))] := hD
  refine lv_istore (lv' := [(5, .int 1), (4, .int 0), (3, .ref O), (2, .ref M), (1, .ref X), (0, .ref b)]) hx hb dL_law_780 hl (by decide) rfl (fun ls hl => ?_)
  refine lv_aload_n hx hb dL_law_782 rfl (lv_at hl 3 rfl) ?_
  refine lv_aload_n hx hb dL_law_783 rfl (lv_at hl 5 rfl) ?_
  refine lv_iload hx hb dL_law_784 (lv_at hl 1 rfl) ?_
  refine lv_iconst (v := 1) hx hb dL_law_786 (by decide) ?_
  refine lv_iadd hx hb dL_law_787 ?_
  refine k_st1 (y := 1) (by decide) ?_
  refine va_sld hx hb hX hbl hbA hS (i := 1) (vpd (by decide)) dL_law_788 ?_
  refine k_st1 (y := xs 1) (congrArg xs (by decide)) ?_
  refine n_Vi (ci := 6) (q0 := 0) (wc := [(M, .inr (6, [.int 0, .int 0, .int 0, .int 0, .int 0, .ref ((v 0)), .ref ((v 1)), .ref ((v 2)), .ref ((v 3)), .int 0, .null, .long 0]))]) (wr := [((u 1), .inl (cI, 12, .inl (fun _ => 0))), ((u 2), .inl (cI, 12, .inl (fun _ => 0))), ((u 3), .inl (cI, 144, .inl (fun _ => 0))), ((u 4), .inl (cI, 9, .inl (fun _ => 0))), ((u 5), .inl (cI, 18, .inl (fun _ => 0))), ((u 6), .inl (cI, 18, .inl (fun _ => 0))), ((u 7), .inl (cI, 18, .inl (fun _ => 0))), ((u 8), .inl (cI, 18, .inl (fun _ => 0))), ((u 9), .inl (cI, 18, .inl (fun _ => 0))), ((v 0), .inl (cJ, 12, .inr (.inr (.inr (.inr (fun _ => none)))))), (O, .inl (cL, 1, .inr (.inl g_9)))]) [.int (xs 1)] [9] [0, 1, 2, 3, 4, 5, 6, 7, 8, 10, 11] ⟨hx, hb, hml, hown, hts⟩ (fun sz => c_X6_take l dC dI cI cV cJ cL M (v 0) (v 1) (v 2) (v 3) (xs 1) sz) q_ml_L_156 q_im_X6_take q_se_X6_take q_ini_X6 q_co_X6_take (n := 1) (by decide +kernel) rfl ⟨rfl, rfl⟩ ⟨Nat.le_of_ble_eq_true rfl, Nat.le_of_ble_eq_true rfl⟩ hP hD hS hA hK hN rfl rfl (by decide) (by decide) (by decide) rfl rfl rfl hl.1 rfl (Nat.le_of_ble_eq_true rfl) dL_law_789 ⟨Nat.le_of_ble_eq_true rfl, Nat.le_of_ble_eq_true rfl⟩ (fun r_2 u_1 H locs hu_1 hP hD hS => ?_)
  have hP : va_P (dC, dI) cls [((u 1), .inl (cI, 12, .inl (fun _ => 0))), ((u 2), .inl (cI, 12, .inl (fun _ => 0))), ((u 3), .inl (cI, 144, .inl (fun _ => 0))), ((u 4), .inl (cI, 9, .inl (fun _ => 0))), ((u 5), .inl (cI, 18, .inl (fun _ => 0))), ((u 6), .inl (cI, 18, .inl (fun _ => 0))), ((u 7), .inl (cI, 18, .inl (fun _ => 0))), ((u 8), .inl (cI, 18, .inl (fun _ => 0))), ((u 9), .inl (cI, 18, .inl (fun _ => 0))), ((v 0), .inl (cJ, 12, .inr (.inr (.inr (.inr (fun _ => none)))))), (O, .inl (cL, 1, .inr (.inl g_9))), (M, .inr (6, [.int ((u_1).1), .int ((u_1).2.1), .int 0, .int 0, .int ((u_1).2.2.1), .ref ((v 0)), .ref ((v 1)), .ref ((v 2)), .ref ((v 3)), .int 0, (u_1).2.2.2, .long 0]))] H := hP
  have hD : va_D A [((u 1), .inl (cI, 12, .inl (fun _ => 0))), ((u 2), .inl (cI, 12, .inl (fun _ => 0))), ((u 3), .inl (cI, 144, .inl (fun _ => 0))), ((u 4), .inl (cI, 9, .inl (fun _ => 0))), ((u 5), .inl (cI, 18, .inl (fun _ => 0))), ((u 6), .inl (cI, 18, .inl (fun _ => 0))), ((u 7), .inl (cI, 18, .inl (fun _ => 0))), ((u 8), .inl (cI, 18, .inl (fun _ => 0))), ((u 9), .inl (cI, 18, .inl (fun _ => 0))), ((v 0), .inl (cJ, 12, .inr (.inr (.inr (.inr (fun _ => none)))))), (O, .inl (cL, 1, .inr (.inl g_9))), (M, .inr (6, [.int ((u_1).1), .int ((u_1).2.1), .int 0, .int 0, .int ((u_1).2.2.1), .ref ((v 0)), .ref ((v 1)), .ref ((v 2)), .ref ((v 3)), .int 0, (u_1).2.2.2, .long 0]))] := hD
  obtain ⟨hv1, hv2⟩ := hu_1
  refine lv_istore (lv' := [(6, .int r_2), (5, .int 1), (4, .int 0), (3, .ref O), (2, .ref M), (1, .ref X), (0, .ref b)]) hx hb dL_law_792 hl (by decide) rfl (fun ls hl => ?_)
  refine lv_aload_n hx hb dL_law_794 rfl (lv_at hl 4 rfl) ?_
  refine n_Vi (ci := 6) (q0 := 0) (wc := [(M, .inr (6, [.int ((u_1).1), .int ((u_1).2.1), .int 0, .int 0, .int ((u_1).2.2.1), .ref ((v 0)), .ref ((v 1)), .ref ((v 2)), .ref ((v 3)), .int 0, (u_1).2.2.2, .long 0]))]) (wr := [((u 1), .inl (cI, 12, .inl (fun _ => 0))), ((u 2), .inl (cI, 12, .inl (fun _ => 0))), ((u 3), .inl (cI, 144, .inl (fun _ => 0))), ((u 4), .inl (cI, 9, .inl (fun _ => 0))), ((u 5), .inl (cI, 18, .inl (fun _ => 0))), ((u 6), .inl (cI, 18, .inl (fun _ => 0))), ((u 7), .inl (cI, 18, .inl (fun _ => 0))), ((u 8), .inl (cI, 18, .inl (fun _ => 0))), ((u 9), .inl (cI, 18, .inl (fun _ => 0))), ((v 0), .inl (cJ, 12, .inr (.inr (.inr (.inr (fun _ => none)))))), (O, .inl (cL, 1, .inr (.inl g_9)))]) [] [11] [0, 1, 2, 3, 4, 5, 6, 7, 8, 9, 10] ⟨hx, hb, hml, hown, hts⟩ (fun sz => c_X6_thrown l dC dI cI cV cJ cL M (v 0) (v 1) (v 2) (v 3) ((u_1).1) ((u_1).2.2.1) 0 ((u_1).2.2.2) 0 ((u_1).2.1) sz) q_ml_L_130 q_im_X6_thrown q_se_X6_thrown q_ini_X6 q_co_X6_thrown (n := 0) (by decide +kernel) rfl ⟨rfl, rfl⟩ ⟨Nat.le_of_ble_eq_true rfl, Nat.le_of_ble_eq_true rfl⟩ hP hD hS hA hK hN rfl rfl (by decide) (by decide) (by decide) rfl rfl rfl hl.1 rfl (Nat.le_of_ble_eq_true rfl) dL_law_795 ⟨Nat.le_of_ble_eq_true rfl, Nat.le_of_ble_eq_true rfl⟩ (fun r_4 u_3 H locs hu_3 hP hD hS => ?_)
  have hP : va_P (dC, dI) cls [((u 1), .inl (cI, 12, .inl (fun _ => 0))), ((u 2), .inl (cI, 12, .inl (fun _ => 0))), ((u 3), .inl (cI, 144, .inl (fun _ => 0))), ((u 4), .inl (cI, 9, .inl (fun _ => 0))), ((u 5), .inl (cI, 18, .inl (fun _ => 0))), ((u 6), .inl (cI, 18, .inl (fun _ => 0))), ((u 7), .inl (cI, 18, .inl (fun _ => 0))), ((u 8), .inl (cI, 18, .inl (fun _ => 0))), ((u 9), .inl (cI, 18, .inl (fun _ => 0))), ((v 0), .inl (cJ, 12, .inr (.inr (.inr (.inr (fun _ => none)))))), (O, .inl (cL, 1, .inr (.inl g_9)))] H := hP
  have hD : va_D A [((u 1), .inl (cI, 12, .inl (fun _ => 0))), ((u 2), .inl (cI, 12, .inl (fun _ => 0))), ((u 3), .inl (cI, 144, .inl (fun _ => 0))), ((u 4), .inl (cI, 9, .inl (fun _ => 0))), ((u 5), .inl (cI, 18, .inl (fun _ => 0))), ((u 6), .inl (cI, 18, .inl (fun _ => 0))), ((u 7), .inl (cI, 18, .inl (fun _ => 0))), ((u 8), .inl (cI, 18, .inl (fun _ => 0))), ((u 9), .inl (cI, 18, .inl (fun _ => 0))), ((v 0), .inl (cJ, 12, .inr (.inr (.inr (.inr (fun _ => none)))))), (O, .inl (cL, 1, .inr (.inl g_9)))] := hD
  obtain rfl := hu_3
  refine k_st1 (y := 1) hv1 ?_
  refine lv_iload hx hb dL_law_798 (lv_at hl 1 rfl) ?_
  refine lv_icmp_eq (tgt := 805) hx hb dL_law_800 (by decide) (fun c_5 => ?_) (fun c_5 => ?_)
  rotate_left
  · first | exact absurd c_5 (by decide) | exact absurd (by decide) c_5
  refine lv_iload hx hb dL_law_805 (lv_at hl 1 rfl) ?_
  refine lv_if_ne (tgt := 822) hx hb dL_law_807 (by decide) (fun c_6 => ?_) (fun c_6 => ?_)
  rotate_left
  · first | exact absurd c_6 (by decide) | exact absurd (by decide) c_6
  refine lv_goto (tgt := 2499) hx hb dL_law_822 (by decide) ?_
  refine W.widen (k := 100) (n := 2000) (Nat.le_of_ble_eq_true rfl) (Nat.le_of_ble_eq_true rfl) ?_
  exact law_end l hlT C0 (by rw [hAe]; exact hS) (lv_sub hl [2, 6] rfl)
set_option maxHeartbeats 4000000 in
set_option maxRecDepth 100000 in
theorem law_7 {p : Program} {e : Env} {s : State} {m : MethodId} {below : List Frame} {meth : Method} {c : Code} (l : Launch) (hlT : l.stackTraces = false) {b : Nat} {xs : Nat → Int32} (C0 : lw_At p s m meth c b 7 xs) {dC : Nat → ClassId} {dI : Nat → Nat → Nat} {cI cV cJ cL : ClassId} (hK : va_K (dC, dI) cls (TYP cI cV cJ cL) s) (X : Nat) (u : Nat → Nat) (M : Nat) (v : Nat → Nat) (O : Nat) {H : Heap} {locs : List Loc} {ls : Array Slot} (hP : va_P (dC, dI) cls [(X, .inr (5, [.ref ((u 0)), .ref ((u 10)), .ref ((u 11)), .ref ((u 12)), .ref ((u 13)), .ref ((u 14)), .ref ((u 15)), .int 0, .int 0])), ((u 0), .inr (0, [.ref ((u 1)), .ref ((u 2)), .ref ((u 3)), .ref ((u 4)), .ref ((u 5)), .ref ((u 6)), .ref ((u 7)), .ref ((u 8)), .ref ((u 9)), .int 0, .int 0, .int 0])), ((u 1), .inl (cI, 12, .inl (fun _ => 0))), ((u 2), .inl (cI, 12, .inl (fun _ => 0))), ((u 3), .inl (cI, 144, .inl (fun _ => 0))), ((u 4), .inl (cI, 9, .inl (fun _ => 0))), ((u 5), .inl (cI, 18, .inl (fun _ => 0))), ((u 6), .inl (cI, 18, .inl (fun _ => 0))), ((u 7), .inl (cI, 18, .inl (fun _ => 0))), ((u 8), .inl (cI, 18, .inl (fun _ => 0))), ((u 9), .inl (cI, 18, .inl (fun _ => 0))), (M, .inr (6, [.int 0, .int 0, .int 0, .int 0, .int 0, .ref ((v 0)), .ref ((v 1)), .ref ((v 2)), .ref ((v 3)), .int 0, .null, .long 0])), ((v 0), .inl (cJ, 12, .inr (.inr (.inr (.inr (fun _ => none)))))), (O, .inl (cL, 1, .inr (.inl (fun _ => 0))))] H) (hD : va_D (NA s.heap.size) [(X, .inr (5, [.ref ((u 0)), .ref ((u 10)), .ref ((u 11)), .ref ((u 12)), .ref ((u 13)), .ref ((u 14)), .ref ((u 15)), .int 0, .int 0])), ((u 0), .inr (0, [.ref ((u 1)), .ref ((u 2)), .ref ((u 3)), .ref ((u 4)), .ref ((u 5)), .ref ((u 6)), .ref ((u 7)), .ref ((u 8)), .ref ((u 9)), .int 0, .int 0, .int 0])), ((u 1), .inl (cI, 12, .inl (fun _ => 0))), ((u 2), .inl (cI, 12, .inl (fun _ => 0))), ((u 3), .inl (cI, 144, .inl (fun _ => 0))), ((u 4), .inl (cI, 9, .inl (fun _ => 0))), ((u 5), .inl (cI, 18, .inl (fun _ => 0))), ((u 6), .inl (cI, 18, .inl (fun _ => 0))), ((u 7), .inl (cI, 18, .inl (fun _ => 0))), ((u 8), .inl (cI, 18, .inl (fun _ => 0))), ((u 9), .inl (cI, 18, .inl (fun _ => 0))), (M, .inr (6, [.int 0, .int 0, .int 0, .int 0, .int 0, .ref ((v 0)), .ref ((v 1)), .ref ((v 2)), .ref ((v 3)), .int 0, .null, .long 0])), ((v 0), .inl (cJ, 12, .inr (.inr (.inr (.inr (fun _ => none)))))), (O, .inl (cL, 1, .inr (.inl (fun _ => 0))))]) (hS : va_S (NA s.heap.size) s.heap H locs) (hl : lv_has ls 9 [(4, .int 0), (3, .ref O), (2, .ref M), (1, .ref X), (0, .ref b)]) : W p l e room_1 s m #[Value.ref b] below meth c H locs 48 592 (lw_Z below #[Value.ref b] s) (F0 m 825 ls []) := by
  obtain ⟨hx, hb, hr, hml, hown, hts0, hX, hbl, hlocks, hgv⟩ := id C0
  have hts := st_tt hts0
  have hN := st_N hts0
  have hXs := st_X hts0 hgv
  have hZs := st_Z hts0 hgv
  have hown : s.vm.findClass RL = some m.cls := hown
  obtain ⟨A, hAe⟩ : ∃ A, NA s.heap.size = A := ⟨_, rfl⟩
  rw [hAe] at hZs
  have hA : ∀ q : Nat, s.heap.size ≤ q → A q := fun q h => by rw [← hAe]; exact h
  have hbA : ¬ A b := by rw [← hAe]; exact Nat.not_le.mpr hbl
  rw [hAe] at hD hS
  refine lv_aload_n hx hb dL_law_825 rfl (lv_at hl 3 rfl) ?_
  refine n_Vi (ci := 5) (q0 := 0) (wc := [(X, .inr (5, [.ref ((u 0)), .ref ((u 10)), .ref ((u 11)), .ref ((u 12)), .ref ((u 13)), .ref ((u 14)), .ref ((u 15)), .int 0, .int 0])), ((u 0), .inr (0, [.ref ((u 1)), .ref ((u 2)), .ref ((u 3)), .ref ((u 4)), .ref ((u 5)), .ref ((u 6)), .ref ((u 7)), .ref ((u 8)), .ref ((u 9)), .int 0, .int 0, .int 0]))]) (wr := [((u 1), .inl (cI, 12, .inl (fun _ => 0))), ((u 2), .inl (cI, 12, .inl (fun _ => 0))), ((u 3), .inl (cI, 144, .inl (fun _ => 0))), ((u 4), .inl (cI, 9, .inl (fun _ => 0))), ((u 5), .inl (cI, 18, .inl (fun _ => 0))), ((u 6), .inl (cI, 18, .inl (fun _ => 0))), ((u 7), .inl (cI, 18, .inl (fun _ => 0))), ((u 8), .inl (cI, 18, .inl (fun _ => 0))), ((u 9), .inl (cI, 18, .inl (fun _ => 0))), (M, .inr (6, [.int 0, .int 0, .int 0, .int 0, .int 0, .ref ((v 0)), .ref ((v 1)), .ref ((v 2)), .ref ((v 3)), .int 0, .null, .long 0])), ((v 0), .inl (cJ, 12, .inr (.inr (.inr (.inr (fun _ => none)))))), (O, .inl (cL, 1, .inr (.inl (fun _ => 0))))]) [] [0, 1] [2, 3, 4, 5, 6, 7, 8, 9, 10, 11, 12, 13] ⟨hx, hb, hml, hown, hts⟩ (fun sz => c_X5_rebuild l dC dI cI cV cJ cL X (u 0) (u 10) (u 11) (u 12) (fun i => u (i + 1)) (fun i => u (i + 13)) 0 0 sz) q_ml_L_157 q_im_X5_rebuild q_se_X5_rebuild q_ini_X5 q_co_X5_rebuild (n := 0) (by decide +kernel) rfl ⟨rfl, rfl⟩ ⟨Nat.le_of_ble_eq_true rfl, Nat.le_of_ble_eq_true rfl⟩ hP hD hS hA hK hN rfl rfl (by decide) (by decide) (by decide) rfl rfl rfl hl.1 rfl (Nat.le_of_ble_eq_true rfl) dL_law_826 ⟨Nat.le_of_ble_eq_true rfl, Nat.le_of_ble_eq_true rfl⟩ (fun r_2 u_1 H locs hu_1 hP hD hS => ?_)
  have hP : va_P (dC, dI) cls [((u 1), .inl (cI, 12, .inl (fun _ => 0))), ((u 2), .inl (cI, 12, .inl (fun _ => 0))), ((u 3), .inl (cI, 144, .inl (fun _ => 0))), ((u 4), .inl (cI, 9, .inl (fun _ => 0))), ((u 5), .inl (cI, 18, .inl (fun _ => 0))), ((u 6), .inl (cI, 18, .inl (fun _ => 0))), ((u 7), .inl (cI, 18, .inl (fun _ => 0))), ((u 8), .inl (cI, 18, .inl (fun _ => 0))), ((u 9), .inl (cI, 18, .inl (fun _ => 0))), (M, .inr (6, [.int 0, .int 0, .int 0, .int 0, .int 0, .ref ((v 0)), .ref ((v 1)), .ref ((v 2)), .ref ((v 3)), .int 0, .null, .long 0])), ((v 0), .inl (cJ, 12, .inr (.inr (.inr (.inr (fun _ => none)))))), (O, .inl (cL, 1, .inr (.inl (fun _ => 0))))] H := hP
  have hD : va_D A [((u 1), .inl (cI, 12, .inl (fun _ => 0))), ((u 2), .inl (cI, 12, .inl (fun _ => 0))), ((u 3), .inl (cI, 144, .inl (fun _ => 0))), ((u 4), .inl (cI, 9, .inl (fun _ => 0))), ((u 5), .inl (cI, 18, .inl (fun _ => 0))), ((u 6), .inl (cI, 18, .inl (fun _ => 0))), ((u 7), .inl (cI, 18, .inl (fun _ => 0))), ((u 8), .inl (cI, 18, .inl (fun _ => 0))), ((u 9), .inl (cI, 18, .inl (fun _ => 0))), (M, .inr (6, [.int 0, .int 0, .int 0, .int 0, .int 0, .ref ((v 0)), .ref ((v 1)), .ref ((v 2)), .ref ((v 3)), .int 0, .null, .long 0])), ((v 0), .inl (cJ, 12, .inr (.inr (.inr (.inr (fun _ => none)))))), (O, .inl (cL, 1, .inr (.inl (fun _ => 0))))] := hD
  obtain rfl := hu_1
  refine lv_aload_n hx hb dL_law_829 rfl (lv_at hl 2 rfl) ?_
  refine n_Vi (ci := 6) (q0 := 0) (wc := [(M, .inr (6, [.int 0, .int 0, .int 0, .int 0, .int 0, .ref ((v 0)), .ref ((v 1)), .ref ((v 2)), .ref ((v 3)), .int 0, .null, .long 0]))]) (wr := [((u 1), .inl (cI, 12, .inl (fun _ => 0))), ((u 2), .inl (cI, 12, .inl (fun _ => 0))), ((u 3), .inl (cI, 144, .inl (fun _ => 0))), ((u 4), .inl (cI, 9, .inl (fun _ => 0))), ((u 5), .inl (cI, 18, .inl (fun _ => 0))), ((u 6), .inl (cI, 18, .inl (fun _ => 0))), ((u 7), .inl (cI, 18, .inl (fun _ => 0))), ((u 8), .inl (cI, 18, .inl (fun _ => 0))), ((u 9), .inl (cI, 18, .inl (fun _ => 0))), ((v 0), .inl (cJ, 12, .inr (.inr (.inr (.inr (fun _ => none)))))), (O, .inl (cL, 1, .inr (.inl (fun _ => 0))))]) [] [9] [0, 1, 2, 3, 4, 5, 6, 7, 8, 10, 11] ⟨hx, hb, hml, hown, hts⟩ (fun sz => c_X6_rebuild l dC dI cI cV cJ cL M (v 0) (v 1) (v 2) (v 3)  sz) q_ml_L_160 q_im_X6_rebuild q_se_X6_rebuild q_ini_X6 q_co_X6_rebuild (n := 0) (by decide +kernel) rfl ⟨rfl, rfl⟩ ⟨Nat.le_of_ble_eq_true rfl, Nat.le_of_ble_eq_true rfl⟩ hP hD hS hA hK hN rfl rfl (by decide) (by decide) (by decide) rfl rfl rfl hl.1 rfl (Nat.le_of_ble_eq_true rfl) dL_law_830 ⟨Nat.le_of_ble_eq_true rfl, Nat.le_of_ble_eq_true rfl⟩ (fun r_4 u_3 H locs hu_3 hP hD hS => ?_)
  have hP : va_P (dC, dI) cls [((u 1), .inl (cI, 12, .inl (fun _ => 0))), ((u 2), .inl (cI, 12, .inl (fun _ => 0))), ((u 3), .inl (cI, 144, .inl (fun _ => 0))), ((u 4), .inl (cI, 9, .inl (fun _ => 0))), ((u 5), .inl (cI, 18, .inl (fun _ => 0))), ((u 6), .inl (cI, 18, .inl (fun _ => 0))), ((u 7), .inl (cI, 18, .inl (fun _ => 0))), ((u 8), .inl (cI, 18, .inl (fun _ => 0))), ((u 9), .inl (cI, 18, .inl (fun _ => 0))), ((v 0), .inl (cJ, 12, .inr (.inr (.inr (.inr (fun _ => none)))))), (O, .inl (cL, 1, .inr (.inl (fun _ => 0)))), (M, .inr (6, [.int ((u_3).1), .int ((u_3).2.1), .int 0, .int 0, .int ((u_3).2.2.1), .ref ((v 0)), .ref ((v 1)), .ref ((v 2)), .ref ((v 3)), .int 0, (u_3).2.2.2, .long 0]))] H := hP
  have hD : va_D A [((u 1), .inl (cI, 12, .inl (fun _ => 0))), ((u 2), .inl (cI, 12, .inl (fun _ => 0))), ((u 3), .inl (cI, 144, .inl (fun _ => 0))), ((u 4), .inl (cI, 9, .inl (fun _ => 0))), ((u 5), .inl (cI, 18, .inl (fun _ => 0))), ((u 6), .inl (cI, 18, .inl (fun _ => 0))), ((u 7), .inl (cI, 18, .inl (fun _ => 0))), ((u 8), .inl (cI, 18, .inl (fun _ => 0))), ((u 9), .inl (cI, 18, .inl (fun _ => 0))), ((v 0), .inl (cJ, 12, .inr (.inr (.inr (.inr (fun _ => none)))))), (O, .inl (cL, 1, .inr (.inl (fun _ => 0)))), (M, .inr (6, [.int ((u_3).1), .int ((u_3).2.1), .int 0, .int 0, .int ((u_3).2.2.1), .ref ((v 0)), .ref ((v 1)), .ref ((v 2)), .ref ((v 3)), .int 0, (u_3).2.2.2, .long 0]))] := hD
  obtain ⟨hv1, hv2⟩ := hu_3
  refine k_st1 (y := 0) (hv2 rfl) ?_
  refine lv_icmp_eq (tgt := 2499) hx hb dL_law_833 (by decide) (fun c_5 => ?_) (fun c_5 => ?_)
  rotate_left
  · first | exact absurd c_5 (by decide) | exact absurd (by decide) c_5
  refine W.widen (k := 100) (n := 2000) (Nat.le_of_ble_eq_true rfl) (Nat.le_of_ble_eq_true rfl) ?_
  exact law_end l hlT C0 (by rw [hAe]; exact hS) (lv_sub hl [0, 4] rfl)
set_option maxHeartbeats 4000000 in
set_option maxRecDepth 100000 in
theorem law_8 {p : Program} {e : Env} {s : State} {m : MethodId} {below : List Frame} {meth : Method} {c : Code} (l : Launch) (hlT : l.stackTraces = false) {b : Nat} {xs : Nat → Int32} (C0 : lw_At p s m meth c b 7 xs) {dC : Nat → ClassId} {dI : Nat → Nat → Nat} {cI cV cJ cL : ClassId} (hK : va_K (dC, dI) cls (TYP cI cV cJ cL) s) (X : Nat) (u : Nat → Nat) (M : Nat) (v : Nat → Nat) (O : Nat) {H : Heap} {locs : List Loc} {ls : Array Slot} (hP : va_P (dC, dI) cls [(X, .inr (5, [.ref ((u 0)), .ref ((u 10)), .ref ((u 11)), .ref ((u 12)), .ref ((u 13)), .ref ((u 14)), .ref ((u 15)), .int 0, .int 0])), ((u 0), .inr (0, [.ref ((u 1)), .ref ((u 2)), .ref ((u 3)), .ref ((u 4)), .ref ((u 5)), .ref ((u 6)), .ref ((u 7)), .ref ((u 8)), .ref ((u 9)), .int 0, .int 0, .int 0])), ((u 1), .inl (cI, 12, .inl (fun _ => 0))), ((u 2), .inl (cI, 12, .inl (fun _ => 0))), ((u 3), .inl (cI, 144, .inl (fun _ => 0))), ((u 4), .inl (cI, 9, .inl (fun _ => 0))), ((u 5), .inl (cI, 18, .inl (fun _ => 0))), ((u 6), .inl (cI, 18, .inl (fun _ => 0))), ((u 7), .inl (cI, 18, .inl (fun _ => 0))), ((u 8), .inl (cI, 18, .inl (fun _ => 0))), ((u 9), .inl (cI, 18, .inl (fun _ => 0))), (M, .inr (6, [.int 0, .int 0, .int 0, .int 0, .int 0, .ref ((v 0)), .ref ((v 1)), .ref ((v 2)), .ref ((v 3)), .int 0, .null, .long 0])), ((v 0), .inl (cJ, 12, .inr (.inr (.inr (.inr (fun _ => none)))))), (O, .inl (cL, 1, .inr (.inl (fun _ => 0))))] H) (hD : va_D (NA s.heap.size) [(X, .inr (5, [.ref ((u 0)), .ref ((u 10)), .ref ((u 11)), .ref ((u 12)), .ref ((u 13)), .ref ((u 14)), .ref ((u 15)), .int 0, .int 0])), ((u 0), .inr (0, [.ref ((u 1)), .ref ((u 2)), .ref ((u 3)), .ref ((u 4)), .ref ((u 5)), .ref ((u 6)), .ref ((u 7)), .ref ((u 8)), .ref ((u 9)), .int 0, .int 0, .int 0])), ((u 1), .inl (cI, 12, .inl (fun _ => 0))), ((u 2), .inl (cI, 12, .inl (fun _ => 0))), ((u 3), .inl (cI, 144, .inl (fun _ => 0))), ((u 4), .inl (cI, 9, .inl (fun _ => 0))), ((u 5), .inl (cI, 18, .inl (fun _ => 0))), ((u 6), .inl (cI, 18, .inl (fun _ => 0))), ((u 7), .inl (cI, 18, .inl (fun _ => 0))), ((u 8), .inl (cI, 18, .inl (fun _ => 0))), ((u 9), .inl (cI, 18, .inl (fun _ => 0))), (M, .inr (6, [.int 0, .int 0, .int 0, .int 0, .int 0, .ref ((v 0)), .ref ((v 1)), .ref ((v 2)), .ref ((v 3)), .int 0, .null, .long 0])), ((v 0), .inl (cJ, 12, .inr (.inr (.inr (.inr (fun _ => none)))))), (O, .inl (cL, 1, .inr (.inl (fun _ => 0))))]) (hS : va_S (NA s.heap.size) s.heap H locs) (hl : lv_has ls 9 [(4, .int 0), (3, .ref O), (2, .ref M), (1, .ref X), (0, .ref b)]) : W p l e room_1 s m #[Value.ref b] below meth c H locs 48 592 (lw_Z below #[Value.ref b] s) (F0 m 838 ls []) := by
  obtain ⟨hx, hb, hr, hml, hown, hts0, hX, hbl, hlocks, hgv⟩ := id C0
  have hts := st_tt hts0
  have hN := st_N hts0
  have hXs := st_X hts0 hgv
  have hZs := st_Z hts0 hgv
  have hown : s.vm.findClass RL = some m.cls := hown
  obtain ⟨A, hAe⟩ : ∃ A, NA s.heap.size = A := ⟨_, rfl⟩
  rw [hAe] at hZs
  have hA : ∀ q : Nat, s.heap.size ≤ q → A q := fun q h => by rw [← hAe]; exact h
  have hbA : ¬ A b := by rw [← hAe]; exact Nat.not_le.mpr hbl
  rw [hAe] at hD hS
  refine lv_aload_n hx hb dL_law_838 rfl (lv_at hl 3 rfl) ?_
  refine lv_aload_n hx hb dL_law_839 rfl (lv_at hl 4 rfl) ?_
  refine lv_iload hx hb dL_law_840 (lv_at hl 0 rfl) ?_
  refine lv_iconst (v := 1) hx hb dL_law_842 (by decide) ?_
  refine lv_iadd hx hb dL_law_843 ?_
  refine k_st1 (y := 1) (by decide) ?_
  refine va_sld hx hb hX hbl hbA hS (i := 1) (vpd (by decide)) dL_law_844 ?_
  refine k_st1 (y := xs 1) (congrArg xs (by decide)) ?_
  refine lv_aload_n hx hb dL_law_845 rfl (lv_at hl 1 rfl) ?_
  refine x_Si (wc := [(X, .inr (5, [.ref ((u 0)), .ref ((u 10)), .ref ((u 11)), .ref ((u 12)), .ref ((u 13)), .ref ((u 14)), .ref ((u 15)), .int 0, .int 0])), ((u 0), .inr (0, [.ref ((u 1)), .ref ((u 2)), .ref ((u 3)), .ref ((u 4)), .ref ((u 5)), .ref ((u 6)), .ref ((u 7)), .ref ((u 8)), .ref ((u 9)), .int 0, .int 0, .int 0])), (O, .inl (cL, 1, .inr (.inl (fun _ => 0))))]) (wr := [((u 1), .inl (cI, 12, .inl (fun _ => 0))), ((u 2), .inl (cI, 12, .inl (fun _ => 0))), ((u 3), .inl (cI, 144, .inl (fun _ => 0))), ((u 4), .inl (cI, 9, .inl (fun _ => 0))), ((u 5), .inl (cI, 18, .inl (fun _ => 0))), ((u 6), .inl (cI, 18, .inl (fun _ => 0))), ((u 7), .inl (cI, 18, .inl (fun _ => 0))), ((u 8), .inl (cI, 18, .inl (fun _ => 0))), ((u 9), .inl (cI, 18, .inl (fun _ => 0))), (M, .inr (6, [.int 0, .int 0, .int 0, .int 0, .int 0, .ref ((v 0)), .ref ((v 1)), .ref ((v 2)), .ref ((v 3)), .int 0, .null, .long 0])), ((v 0), .inl (cJ, 12, .inr (.inr (.inr (.inr (fun _ => none))))))]) [.ref X, .int (xs 1), .ref O] [0, 1, 13] [2, 3, 4, 5, 6, 7, 8, 9, 10, 11, 12] ⟨hx, hb, hml, hown, hts⟩ (fun sz => h_ruin l hlT dC dI cI cV cJ cL X (u 0) (u 10) (u 11) (u 12) (fun i => u (i + 1)) (fun i => u (i + 13)) O (fun _ => 0) (xs 1) sz) q_ml_L_161 q_st_L_ruin q_ini_L q_cw_L_ruin (n := 3) (by decide +kernel) rfl ⟨rfl, rfl⟩ ⟨Nat.le_of_ble_eq_true rfl, Nat.le_of_ble_eq_true rfl⟩ hP hD hS hA hK hN hXs hZs rfl rfl (by decide) (by decide) (by decide) hl.1 rfl (Nat.le_of_ble_eq_true rfl) dL_law_846 ⟨Nat.le_of_ble_eq_true rfl, Nat.le_of_ble_eq_true rfl⟩ (fun r_9 g_9 H locs hpo hP hD hS => ?_)
  obtain ⟨hr9, hg9⟩ := hpo
  refine k_st1 (y := b01 (outF (xs 1) 1 9)) hr9 ?_
  have hP : va_P (dC, dI) cls [((u 1), .inl (cI, 12, .inl (fun _ => 0))), ((u 2), .inl (cI, 12, .inl (fun _ => 0))), ((u 3), .inl (cI, 144, .inl (fun _ => 0))), ((u 4), .inl (cI, 9, .inl (fun _ => 0))), ((u 5), .inl (cI, 18, .inl (fun _ => 0))), ((u 6), .inl (cI, 18, .inl (fun _ => 0))), ((u 7), .inl (cI, 18, .inl (fun _ => 0))), ((u 8), .inl (cI, 18, .inl (fun _ => 0))), ((u 9), .inl (cI, 18, .inl (fun _ => 0))), (M, .inr (6, [.int 0, .int 0, .int 0, .int 0, .int 0, .ref ((v 0)), .ref ((v 1)), .ref ((v 2)), .ref ((v 3)), .int 0, .null, .long 0])), ((v 0), .inl (cJ, 12, .inr (.inr (.inr (.inr (fun _ => none)))))), (O, .inl (cL, 1, .inr (.inl g_9)))] H := hP
  have hD : va_D A [((u 1), .inl (cI, 12, .inl (fun _ => 0))), ((u 2), .inl (cI, 12, .inl (fun _ => 0))), ((u 3), .inl (cI, 144, .inl (fun _ => 0))), ((u 4), .inl (cI, 9, .inl (fun _ => 0))), ((u 5), .inl (cI, 18, .inl (fun _ => 0))), ((u 6), .inl (cI, 18, .inl (fun _ => 0))), ((u 7), .inl (cI, 18, .inl (fun _ => 0))), ((u 8), .inl (cI, 18, .inl (fun _ => 0))), ((u 9), .inl (cI, 18, .inl (fun _ => 0))), (M, .inr (6, [.int 0, .int 0, .int 0, .int 0, .int 0, .ref ((v 0)), .ref ((v 1)), .ref ((v 2)), .ref ((v 3)), .int 0, .null, .long 0])), ((v 0), .inl (cJ, 12, .inr (.inr (.inr (.inr (fun _ => none)))))), (O, .inl (cL, 1, .inr (.inl g_9)))] := hD
  refine lv_istore (lv' := [(5, .int (b01 (outF (xs 1) 1 9))), (4, .int 0), (3, .ref O), (2, .ref M), (1, .ref X), (0, .ref b)]) hx hb dL_law_849 hl (by decide) rfl (fun ls hl => ?_)
  refine lv_aload_n hx hb dL_law_851 rfl (lv_at hl 3 rfl) ?_
  refine lv_aload_n hx hb dL_law_852 rfl (lv_at hl 5 rfl) ?_
  refine lv_iload hx hb dL_law_853 (lv_at hl 1 rfl) ?_
  refine lv_iconst (v := 1) hx hb dL_law_855 (by decide) ?_
  refine lv_iadd hx hb dL_law_856 ?_
  refine k_st1 (y := 1) (by decide) ?_
  refine va_sld hx hb hX hbl hbA hS (i := 1) (vpd (by decide)) dL_law_857 ?_
  refine k_st1 (y := xs 1) (congrArg xs (by decide)) ?_
  refine n_Vi (ci := 6) (q0 := 0) (wc := [(M, .inr (6, [.int 0, .int 0, .int 0, .int 0, .int 0, .ref ((v 0)), .ref ((v 1)), .ref ((v 2)), .ref ((v 3)), .int 0, .null, .long 0]))]) (wr := [((u 1), .inl (cI, 12, .inl (fun _ => 0))), ((u 2), .inl (cI, 12, .inl (fun _ => 0))), ((u 3), .inl (cI, 144, .inl (fun _ => 0))), ((u 4), .inl (cI, 9, .inl (fun _ => 0))), ((u 5), .inl (cI, 18, .inl (fun _ => 0))), ((u 6), .inl (cI, 18, .inl (fun _ => 0))), ((u 7), .inl (cI, 18, .inl (fun _ => 0))), ((u 8), .inl (cI, 18, .inl (fun _ => 0))), ((u 9), .inl (cI, 18, .inl (fun _ => 0))), ((v 0), .inl (cJ, 12, .inr (.inr (.inr (.inr (fun _ => none)))))), (O, .inl (cL, 1, .inr (.inl g_9)))]) [.int (xs 1)] [9] [0, 1, 2, 3, 4, 5, 6, 7, 8, 10, 11] ⟨hx, hb, hml, hown, hts⟩ (fun sz => c_X6_ruin l dC dI cI cV cJ cL M (v 0) (v 1) (v 2) (v 3) (xs 1) sz) q_ml_L_163 q_im_X6_ruin q_se_X6_ruin q_ini_X6 q_co_X6_ruin (n := 1) (by decide +kernel) rfl ⟨rfl, rfl⟩ ⟨Nat.le_of_ble_eq_true rfl, Nat.le_of_ble_eq_true rfl⟩ hP hD hS hA hK hN rfl rfl (by decide) (by decide) (by decide) rfl rfl rfl hl.1 rfl (Nat.le_of_ble_eq_true rfl) dL_law_858 ⟨Nat.le_of_ble_eq_true rfl, Nat.le_of_ble_eq_true rfl⟩ (fun r_2 u_1 H locs hu_1 hP hD hS => ?_)
  have hP : va_P (dC, dI) cls [((u 1), .inl (cI, 12, .inl (fun _ => 0))), ((u 2), .inl (cI, 12, .inl (fun _ => 0))), ((u 3), .inl (cI, 144, .inl (fun _ => 0))), ((u 4), .inl (cI, 9, .inl (fun _ => 0))), ((u 5), .inl (cI, 18, .inl (fun _ => 0))), ((u 6), .inl (cI, 18, .inl (fun _ => 0))), ((u 7), .inl (cI, 18, .inl (fun _ => 0))), ((u 8), .inl (cI, 18, .inl (fun _ => 0))), ((u 9), .inl (cI, 18, .inl (fun _ => 0))), ((v 0), .inl (cJ, 12, .inr (.inr (.inr (.inr (fun _ => none)))))), (O, .inl (cL, 1, .inr (.inl g_9))), (M, .inr (6, [.int ((u_1).1), .int ((u_1).2.1), .int 0, .int 0, .int ((u_1).2.2.1), .ref ((v 0)), .ref ((v 1)), .ref ((v 2)), .ref ((v 3)), .int 0, (u_1).2.2.2, .long 0]))] H := hP
  have hD : va_D A [((u 1), .inl (cI, 12, .inl (fun _ => 0))), ((u 2), .inl (cI, 12, .inl (fun _ => 0))), ((u 3), .inl (cI, 144, .inl (fun _ => 0))), ((u 4), .inl (cI, 9, .inl (fun _ => 0))), ((u 5), .inl (cI, 18, .inl (fun _ => 0))), ((u 6), .inl (cI, 18, .inl (fun _ => 0))), ((u 7), .inl (cI, 18, .inl (fun _ => 0))), ((u 8), .inl (cI, 18, .inl (fun _ => 0))), ((u 9), .inl (cI, 18, .inl (fun _ => 0))), ((v 0), .inl (cJ, 12, .inr (.inr (.inr (.inr (fun _ => none)))))), (O, .inl (cL, 1, .inr (.inl g_9))), (M, .inr (6, [.int ((u_1).1), .int ((u_1).2.1), .int 0, .int 0, .int ((u_1).2.2.1), .ref ((v 0)), .ref ((v 1)), .ref ((v 2)), .ref ((v 3)), .int 0, (u_1).2.2.2, .long 0]))] := hD
  obtain ⟨hv1, hv2⟩ := hu_1
  refine lv_istore (lv' := [(6, .int r_2), (5, .int (b01 (outF (xs 1) 1 9))), (4, .int 0), (3, .ref O), (2, .ref M), (1, .ref X), (0, .ref b)]) hx hb dL_law_861 hl (by decide) rfl (fun ls hl => ?_)
  refine lv_aload_n hx hb dL_law_863 rfl (lv_at hl 4 rfl) ?_
  refine n_Vi (ci := 6) (q0 := 0) (wc := [(M, .inr (6, [.int ((u_1).1), .int ((u_1).2.1), .int 0, .int 0, .int ((u_1).2.2.1), .ref ((v 0)), .ref ((v 1)), .ref ((v 2)), .ref ((v 3)), .int 0, (u_1).2.2.2, .long 0]))]) (wr := [((u 1), .inl (cI, 12, .inl (fun _ => 0))), ((u 2), .inl (cI, 12, .inl (fun _ => 0))), ((u 3), .inl (cI, 144, .inl (fun _ => 0))), ((u 4), .inl (cI, 9, .inl (fun _ => 0))), ((u 5), .inl (cI, 18, .inl (fun _ => 0))), ((u 6), .inl (cI, 18, .inl (fun _ => 0))), ((u 7), .inl (cI, 18, .inl (fun _ => 0))), ((u 8), .inl (cI, 18, .inl (fun _ => 0))), ((u 9), .inl (cI, 18, .inl (fun _ => 0))), ((v 0), .inl (cJ, 12, .inr (.inr (.inr (.inr (fun _ => none)))))), (O, .inl (cL, 1, .inr (.inl g_9)))]) [] [11] [0, 1, 2, 3, 4, 5, 6, 7, 8, 9, 10] ⟨hx, hb, hml, hown, hts⟩ (fun sz => c_X6_thrown l dC dI cI cV cJ cL M (v 0) (v 1) (v 2) (v 3) ((u_1).1) ((u_1).2.2.1) 0 ((u_1).2.2.2) 0 ((u_1).2.1) sz) q_ml_L_130 q_im_X6_thrown q_se_X6_thrown q_ini_X6 q_co_X6_thrown (n := 0) (by decide +kernel) rfl ⟨rfl, rfl⟩ ⟨Nat.le_of_ble_eq_true rfl, Nat.le_of_ble_eq_true rfl⟩ hP hD hS hA hK hN rfl rfl (by decide) (by decide) (by decide) rfl rfl rfl hl.1 rfl (Nat.le_of_ble_eq_true rfl) dL_law_864 ⟨Nat.le_of_ble_eq_true rfl, Nat.le_of_ble_eq_true rfl⟩ (fun r_4 u_3 H locs hu_3 hP hD hS => ?_)
  have hP : va_P (dC, dI) cls [((u 1), .inl (cI, 12, .inl (fun _ => 0))), ((u 2), .inl (cI, 12, .inl (fun _ => 0))), ((u 3), .inl (cI, 144, .inl (fun _ => 0))), ((u 4), .inl (cI, 9, .inl (fun _ => 0))), ((u 5), .inl (cI, 18, .inl (fun _ => 0))), ((u 6), .inl (cI, 18, .inl (fun _ => 0))), ((u 7), .inl (cI, 18, .inl (fun _ => 0))), ((u 8), .inl (cI, 18, .inl (fun _ => 0))), ((u 9), .inl (cI, 18, .inl (fun _ => 0))), ((v 0), .inl (cJ, 12, .inr (.inr (.inr (.inr (fun _ => none)))))), (O, .inl (cL, 1, .inr (.inl g_9)))] H := hP
  have hD : va_D A [((u 1), .inl (cI, 12, .inl (fun _ => 0))), ((u 2), .inl (cI, 12, .inl (fun _ => 0))), ((u 3), .inl (cI, 144, .inl (fun _ => 0))), ((u 4), .inl (cI, 9, .inl (fun _ => 0))), ((u 5), .inl (cI, 18, .inl (fun _ => 0))), ((u 6), .inl (cI, 18, .inl (fun _ => 0))), ((u 7), .inl (cI, 18, .inl (fun _ => 0))), ((u 8), .inl (cI, 18, .inl (fun _ => 0))), ((u 9), .inl (cI, 18, .inl (fun _ => 0))), ((v 0), .inl (cJ, 12, .inr (.inr (.inr (.inr (fun _ => none)))))), (O, .inl (cL, 1, .inr (.inl g_9)))] := hD
  obtain rfl := hu_3
  refine k_st1 (y := b01 (outF (xs 1) 1 9)) hv1 ?_
  refine lv_iload hx hb dL_law_867 (lv_at hl 1 rfl) ?_
  refine lv_icmp_eq (tgt := 874) hx hb dL_law_869 (by decide) (fun c_5 => ?_) (fun c_5 => ?_)
  rotate_left
  · exact absurd rfl c_5
  refine lv_iload hx hb dL_law_874 (lv_at hl 1 rfl) ?_
  refine lv_if_ne (tgt := 891) hx hb dL_law_876 (by decide) (fun c_6 => ?_) (fun c_6 => ?_)
  · refine lv_goto (tgt := 2499) hx hb dL_law_891 (by decide) ?_
    refine W.widen (k := 100) (n := 2000) (Nat.le_of_ble_eq_true rfl) (Nat.le_of_ble_eq_true rfl) ?_
    exact law_end l hlT C0 (by rw [hAe]; exact hS) (lv_sub hl [2, 6] rfl)
  · refine lv_aload_n hx hb dL_law_879 rfl (lv_at hl 3 rfl) ?_
    refine lv_iconst (v := 0) hx hb dL_law_880 (by decide) ?_
    refine va_lald (D := (dC, dI)) hx hb hK hP 10 3 rfl rfl (i := 0) (n := 1) (vpd (by decide)) dL_law_881 ?_
    refine k_sl1 (y := 0) (hg9 c_6) ?_
    refine lv_iload hx hb dL_law_882 (lv_at hl 0 rfl) ?_
    refine k_st1 (y := 0) (hv2 c_6) ?_
    refine lv_i2l (v := 0) hx hb dL_law_884 (by decide) ?_
    refine W.lcmp hx hb dL_law_885 ?_
    refine k_st1 (y := 0) (by decide +kernel) ?_
    refine lv_if_eq (tgt := 891) hx hb dL_law_886 (by decide) (fun c_7 => ?_) (fun c_7 => ?_)
    rotate_left
    · first | exact absurd c_7 (by decide) | exact absurd (by decide) c_7
    refine lv_goto (tgt := 2499) hx hb dL_law_891 (by decide) ?_
    refine W.widen (k := 100) (n := 2000) (Nat.le_of_ble_eq_true rfl) (Nat.le_of_ble_eq_true rfl) ?_
    exact law_end l hlT C0 (by rw [hAe]; exact hS) (lv_sub hl [2, 6] rfl)
set_option maxHeartbeats 4000000 in
set_option maxRecDepth 100000 in
theorem law_9 {p : Program} {e : Env} {s : State} {m : MethodId} {below : List Frame} {meth : Method} {c : Code} (l : Launch) (hlT : l.stackTraces = false) {b : Nat} {xs : Nat → Int32} (C0 : lw_At p s m meth c b 7 xs) {dC : Nat → ClassId} {dI : Nat → Nat → Nat} {cI cV cJ cL : ClassId} (hK : va_K (dC, dI) cls (TYP cI cV cJ cL) s) (X : Nat) (u : Nat → Nat) (M : Nat) (v : Nat → Nat) (O : Nat) {H : Heap} {locs : List Loc} {ls : Array Slot} (hP : va_P (dC, dI) cls [(X, .inr (5, [.ref ((u 0)), .ref ((u 10)), .ref ((u 11)), .ref ((u 12)), .ref ((u 13)), .ref ((u 14)), .ref ((u 15)), .int 0, .int 0])), ((u 0), .inr (0, [.ref ((u 1)), .ref ((u 2)), .ref ((u 3)), .ref ((u 4)), .ref ((u 5)), .ref ((u 6)), .ref ((u 7)), .ref ((u 8)), .ref ((u 9)), .int 0, .int 0, .int 0])), ((u 1), .inl (cI, 12, .inl (fun _ => 0))), ((u 2), .inl (cI, 12, .inl (fun _ => 0))), ((u 3), .inl (cI, 144, .inl (fun _ => 0))), ((u 4), .inl (cI, 9, .inl (fun _ => 0))), ((u 5), .inl (cI, 18, .inl (fun _ => 0))), ((u 6), .inl (cI, 18, .inl (fun _ => 0))), ((u 7), .inl (cI, 18, .inl (fun _ => 0))), ((u 8), .inl (cI, 18, .inl (fun _ => 0))), ((u 9), .inl (cI, 18, .inl (fun _ => 0))), (M, .inr (6, [.int 0, .int 0, .int 0, .int 0, .int 0, .ref ((v 0)), .ref ((v 1)), .ref ((v 2)), .ref ((v 3)), .int 0, .null, .long 0])), ((v 0), .inl (cJ, 12, .inr (.inr (.inr (.inr (fun _ => none)))))), (O, .inl (cL, 1, .inr (.inl (fun _ => 0))))] H) (hD : va_D (NA s.heap.size) [(X, .inr (5, [.ref ((u 0)), .ref ((u 10)), .ref ((u 11)), .ref ((u 12)), .ref ((u 13)), .ref ((u 14)), .ref ((u 15)), .int 0, .int 0])), ((u 0), .inr (0, [.ref ((u 1)), .ref ((u 2)), .ref ((u 3)), .ref ((u 4)), .ref ((u 5)), .ref ((u 6)), .ref ((u 7)), .ref ((u 8)), .ref ((u 9)), .int 0, .int 0, .int 0])), ((u 1), .inl (cI, 12, .inl (fun _ => 0))), ((u 2), .inl (cI, 12, .inl (fun _ => 0))), ((u 3), .inl (cI, 144, .inl (fun _ => 0))), ((u 4), .inl (cI, 9, .inl (fun _ => 0))), ((u 5), .inl (cI, 18, .inl (fun _ => 0))), ((u 6), .inl (cI, 18, .inl (fun _ => 0))), ((u 7), .inl (cI, 18, .inl (fun _ => 0))), ((u 8), .inl (cI, 18, .inl (fun _ => 0))), ((u 9), .inl (cI, 18, .inl (fun _ => 0))), (M, .inr (6, [.int 0, .int 0, .int 0, .int 0, .int 0, .ref ((v 0)), .ref ((v 1)), .ref ((v 2)), .ref ((v 3)), .int 0, .null, .long 0])), ((v 0), .inl (cJ, 12, .inr (.inr (.inr (.inr (fun _ => none)))))), (O, .inl (cL, 1, .inr (.inl (fun _ => 0))))]) (hS : va_S (NA s.heap.size) s.heap H locs) (hl : lv_has ls 9 [(4, .int 0), (3, .ref O), (2, .ref M), (1, .ref X), (0, .ref b)]) : W p l e room_1 s m #[Value.ref b] below meth c H locs 48 592 (lw_Z below #[Value.ref b] s) (F0 m 894 ls []) := by
  obtain ⟨hx, hb, hr, hml, hown, hts0, hX, hbl, hlocks, hgv⟩ := id C0
  have hts := st_tt hts0
  have hN := st_N hts0
  have hXs := st_X hts0 hgv
  have hZs := st_Z hts0 hgv
  have hown : s.vm.findClass RL = some m.cls := hown
  obtain ⟨A, hAe⟩ : ∃ A, NA s.heap.size = A := ⟨_, rfl⟩
  rw [hAe] at hZs
  have hA : ∀ q : Nat, s.heap.size ≤ q → A q := fun q h => by rw [← hAe]; exact h
  have hbA : ¬ A b := by rw [← hAe]; exact Nat.not_le.mpr hbl
  rw [hAe] at hD hS
  refine lv_aload_n hx hb dL_law_894 rfl (lv_at hl 3 rfl) ?_
  refine lv_aload_n hx hb dL_law_895 rfl (lv_at hl 4 rfl) ?_
  refine lv_iload hx hb dL_law_896 (lv_at hl 0 rfl) ?_
  refine lv_iconst (v := 1) hx hb dL_law_898 (by decide) ?_
  refine lv_iadd hx hb dL_law_899 ?_
  refine k_st1 (y := 1) (by decide) ?_
  refine va_sld hx hb hX hbl hbA hS (i := 1) (vpd (by decide)) dL_law_900 ?_
  refine k_st1 (y := xs 1) (congrArg xs (by decide)) ?_
  refine lv_aload_n hx hb dL_law_901 rfl (lv_at hl 1 rfl) ?_
  refine x_Si (wc := [(X, .inr (5, [.ref ((u 0)), .ref ((u 10)), .ref ((u 11)), .ref ((u 12)), .ref ((u 13)), .ref ((u 14)), .ref ((u 15)), .int 0, .int 0])), ((u 0), .inr (0, [.ref ((u 1)), .ref ((u 2)), .ref ((u 3)), .ref ((u 4)), .ref ((u 5)), .ref ((u 6)), .ref ((u 7)), .ref ((u 8)), .ref ((u 9)), .int 0, .int 0, .int 0])), (O, .inl (cL, 1, .inr (.inl (fun _ => 0))))]) (wr := [((u 1), .inl (cI, 12, .inl (fun _ => 0))), ((u 2), .inl (cI, 12, .inl (fun _ => 0))), ((u 3), .inl (cI, 144, .inl (fun _ => 0))), ((u 4), .inl (cI, 9, .inl (fun _ => 0))), ((u 5), .inl (cI, 18, .inl (fun _ => 0))), ((u 6), .inl (cI, 18, .inl (fun _ => 0))), ((u 7), .inl (cI, 18, .inl (fun _ => 0))), ((u 8), .inl (cI, 18, .inl (fun _ => 0))), ((u 9), .inl (cI, 18, .inl (fun _ => 0))), (M, .inr (6, [.int 0, .int 0, .int 0, .int 0, .int 0, .ref ((v 0)), .ref ((v 1)), .ref ((v 2)), .ref ((v 3)), .int 0, .null, .long 0])), ((v 0), .inl (cJ, 12, .inr (.inr (.inr (.inr (fun _ => none))))))]) [.ref X, .int (xs 1), .ref O] [0, 1, 13] [2, 3, 4, 5, 6, 7, 8, 9, 10, 11, 12] ⟨hx, hb, hml, hown, hts⟩ (fun sz => h_change l hlT dC dI cI cV cJ cL X (u 0) (u 10) (u 11) (u 12) (fun i => u (i + 1)) (fun i => u (i + 13)) O (fun _ => 0) (xs 1) sz) q_ml_L_164 q_st_L_change q_ini_L q_cw_L_change (n := 3) (by decide +kernel) rfl ⟨rfl, rfl⟩ ⟨Nat.le_of_ble_eq_true rfl, Nat.le_of_ble_eq_true rfl⟩ hP hD hS hA hK hN hXs hZs rfl rfl (by decide) (by decide) (by decide) hl.1 rfl (Nat.le_of_ble_eq_true rfl) dL_law_902 ⟨Nat.le_of_ble_eq_true rfl, Nat.le_of_ble_eq_true rfl⟩ (fun r_9 g_9 H locs hpo hP hD hS => ?_)
  obtain ⟨hr9, hg9⟩ := hpo
  refine k_st1 (y := b01 (outF (xs 1) 0 3)) hr9 ?_
  have hP : va_P (dC, dI) cls [((u 1), .inl (cI, 12, .inl (fun _ => 0))), ((u 2), .inl (cI, 12, .inl (fun _ => 0))), ((u 3), .inl (cI, 144, .inl (fun _ => 0))), ((u 4), .inl (cI, 9, .inl (fun _ => 0))), ((u 5), .inl (cI, 18, .inl (fun _ => 0))), ((u 6), .inl (cI, 18, .inl (fun _ => 0))), ((u 7), .inl (cI, 18, .inl (fun _ => 0))), ((u 8), .inl (cI, 18, .inl (fun _ => 0))), ((u 9), .inl (cI, 18, .inl (fun _ => 0))), (M, .inr (6, [.int 0, .int 0, .int 0, .int 0, .int 0, .ref ((v 0)), .ref ((v 1)), .ref ((v 2)), .ref ((v 3)), .int 0, .null, .long 0])), ((v 0), .inl (cJ, 12, .inr (.inr (.inr (.inr (fun _ => none)))))), (O, .inl (cL, 1, .inr (.inl g_9)))] H := hP
  have hD : va_D A [((u 1), .inl (cI, 12, .inl (fun _ => 0))), ((u 2), .inl (cI, 12, .inl (fun _ => 0))), ((u 3), .inl (cI, 144, .inl (fun _ => 0))), ((u 4), .inl (cI, 9, .inl (fun _ => 0))), ((u 5), .inl (cI, 18, .inl (fun _ => 0))), ((u 6), .inl (cI, 18, .inl (fun _ => 0))), ((u 7), .inl (cI, 18, .inl (fun _ => 0))), ((u 8), .inl (cI, 18, .inl (fun _ => 0))), ((u 9), .inl (cI, 18, .inl (fun _ => 0))), (M, .inr (6, [.int 0, .int 0, .int 0, .int 0, .int 0, .ref ((v 0)), .ref ((v 1)), .ref ((v 2)), .ref ((v 3)), .int 0, .null, .long 0])), ((v 0), .inl (cJ, 12, .inr (.inr (.inr (.inr (fun _ => none)))))), (O, .inl (cL, 1, .inr (.inl g_9)))] := hD
  refine lv_istore (lv' := [(5, .int (b01 (outF (xs 1) 0 3))), (4, .int 0), (3, .ref O), (2, .ref M), (1, .ref X), (0, .ref b)]) hx hb dL_law_905 hl (by decide) rfl (fun ls hl => ?_)
  refine lv_aload_n hx hb dL_law_907 rfl (lv_at hl 3 rfl) ?_
  refine lv_aload_n hx hb dL_law_908 rfl (lv_at hl 5 rfl) ?_
  refine lv_iload hx hb dL_law_909 (lv_at hl 1 rfl) ?_
  refine lv_iconst (v := 1) hx hb dL_law_911 (by decide) ?_
  refine lv_iadd hx hb dL_law_912 ?_
  refine k_st1 (y := 1) (by decide) ?_
  refine va_sld hx hb hX hbl hbA hS (i := 1) (vpd (by decide)) dL_law_913 ?_
  refine k_st1 (y := xs 1) (congrArg xs (by decide)) ?_
  refine n_Vi (ci := 6) (q0 := 0) (wc := [(M, .inr (6, [.int 0, .int 0, .int 0, .int 0, .int 0, .ref ((v 0)), .ref ((v 1)), .ref ((v 2)), .ref ((v 3)), .int 0, .null, .long 0]))]) (wr := [((u 1), .inl (cI, 12, .inl (fun _ => 0))), ((u 2), .inl (cI, 12, .inl (fun _ => 0))), ((u 3), .inl (cI, 144, .inl (fun _ => 0))), ((u 4), .inl (cI, 9, .inl (fun _ => 0))), ((u 5), .inl (cI, 18, .inl (fun _ => 0))), ((u 6), .inl (cI, 18, .inl (fun _ => 0))), ((u 7), .inl (cI, 18, .inl (fun _ => 0))), ((u 8), .inl (cI, 18, .inl (fun _ => 0))), ((u 9), .inl (cI, 18, .inl (fun _ => 0))), ((v 0), .inl (cJ, 12, .inr (.inr (.inr (.inr (fun _ => none)))))), (O, .inl (cL, 1, .inr (.inl g_9)))]) [.int (xs 1)] [9] [0, 1, 2, 3, 4, 5, 6, 7, 8, 10, 11] ⟨hx, hb, hml, hown, hts⟩ (fun sz => c_X6_change l dC dI cI cV cJ cL M (v 0) (v 1) (v 2) (v 3) (xs 1) sz) q_ml_L_166 q_im_X6_change q_se_X6_change q_ini_X6 q_co_X6_change (n := 1) (by decide +kernel) rfl ⟨rfl, rfl⟩ ⟨Nat.le_of_ble_eq_true rfl, Nat.le_of_ble_eq_true rfl⟩ hP hD hS hA hK hN rfl rfl (by decide) (by decide) (by decide) rfl rfl rfl hl.1 rfl (Nat.le_of_ble_eq_true rfl) dL_law_914 ⟨Nat.le_of_ble_eq_true rfl, Nat.le_of_ble_eq_true rfl⟩ (fun r_2 u_1 H locs hu_1 hP hD hS => ?_)
  have hP : va_P (dC, dI) cls [((u 1), .inl (cI, 12, .inl (fun _ => 0))), ((u 2), .inl (cI, 12, .inl (fun _ => 0))), ((u 3), .inl (cI, 144, .inl (fun _ => 0))), ((u 4), .inl (cI, 9, .inl (fun _ => 0))), ((u 5), .inl (cI, 18, .inl (fun _ => 0))), ((u 6), .inl (cI, 18, .inl (fun _ => 0))), ((u 7), .inl (cI, 18, .inl (fun _ => 0))), ((u 8), .inl (cI, 18, .inl (fun _ => 0))), ((u 9), .inl (cI, 18, .inl (fun _ => 0))), ((v 0), .inl (cJ, 12, .inr (.inr (.inr (.inr (fun _ => none)))))), (O, .inl (cL, 1, .inr (.inl g_9))), (M, .inr (6, [.int ((u_1).1), .int ((u_1).2.1), .int 0, .int 0, .int ((u_1).2.2.1), .ref ((v 0)), .ref ((v 1)), .ref ((v 2)), .ref ((v 3)), .int 0, (u_1).2.2.2, .long 0]))] H := hP
  have hD : va_D A [((u 1), .inl (cI, 12, .inl (fun _ => 0))), ((u 2), .inl (cI, 12, .inl (fun _ => 0))), ((u 3), .inl (cI, 144, .inl (fun _ => 0))), ((u 4), .inl (cI, 9, .inl (fun _ => 0))), ((u 5), .inl (cI, 18, .inl (fun _ => 0))), ((u 6), .inl (cI, 18, .inl (fun _ => 0))), ((u 7), .inl (cI, 18, .inl (fun _ => 0))), ((u 8), .inl (cI, 18, .inl (fun _ => 0))), ((u 9), .inl (cI, 18, .inl (fun _ => 0))), ((v 0), .inl (cJ, 12, .inr (.inr (.inr (.inr (fun _ => none)))))), (O, .inl (cL, 1, .inr (.inl g_9))), (M, .inr (6, [.int ((u_1).1), .int ((u_1).2.1), .int 0, .int 0, .int ((u_1).2.2.1), .ref ((v 0)), .ref ((v 1)), .ref ((v 2)), .ref ((v 3)), .int 0, (u_1).2.2.2, .long 0]))] := hD
  obtain ⟨hv1, hv2⟩ := hu_1
  refine lv_istore (lv' := [(6, .int r_2), (5, .int (b01 (outF (xs 1) 0 3))), (4, .int 0), (3, .ref O), (2, .ref M), (1, .ref X), (0, .ref b)]) hx hb dL_law_917 hl (by decide) rfl (fun ls hl => ?_)
  refine lv_aload_n hx hb dL_law_919 rfl (lv_at hl 4 rfl) ?_
  refine n_Vi (ci := 6) (q0 := 0) (wc := [(M, .inr (6, [.int ((u_1).1), .int ((u_1).2.1), .int 0, .int 0, .int ((u_1).2.2.1), .ref ((v 0)), .ref ((v 1)), .ref ((v 2)), .ref ((v 3)), .int 0, (u_1).2.2.2, .long 0]))]) (wr := [((u 1), .inl (cI, 12, .inl (fun _ => 0))), ((u 2), .inl (cI, 12, .inl (fun _ => 0))), ((u 3), .inl (cI, 144, .inl (fun _ => 0))), ((u 4), .inl (cI, 9, .inl (fun _ => 0))), ((u 5), .inl (cI, 18, .inl (fun _ => 0))), ((u 6), .inl (cI, 18, .inl (fun _ => 0))), ((u 7), .inl (cI, 18, .inl (fun _ => 0))), ((u 8), .inl (cI, 18, .inl (fun _ => 0))), ((u 9), .inl (cI, 18, .inl (fun _ => 0))), ((v 0), .inl (cJ, 12, .inr (.inr (.inr (.inr (fun _ => none)))))), (O, .inl (cL, 1, .inr (.inl g_9)))]) [] [11] [0, 1, 2, 3, 4, 5, 6, 7, 8, 9, 10] ⟨hx, hb, hml, hown, hts⟩ (fun sz => c_X6_thrown l dC dI cI cV cJ cL M (v 0) (v 1) (v 2) (v 3) ((u_1).1) ((u_1).2.2.1) 0 ((u_1).2.2.2) 0 ((u_1).2.1) sz) q_ml_L_130 q_im_X6_thrown q_se_X6_thrown q_ini_X6 q_co_X6_thrown (n := 0) (by decide +kernel) rfl ⟨rfl, rfl⟩ ⟨Nat.le_of_ble_eq_true rfl, Nat.le_of_ble_eq_true rfl⟩ hP hD hS hA hK hN rfl rfl (by decide) (by decide) (by decide) rfl rfl rfl hl.1 rfl (Nat.le_of_ble_eq_true rfl) dL_law_920 ⟨Nat.le_of_ble_eq_true rfl, Nat.le_of_ble_eq_true rfl⟩ (fun r_4 u_3 H locs hu_3 hP hD hS => ?_)
  have hP : va_P (dC, dI) cls [((u 1), .inl (cI, 12, .inl (fun _ => 0))), ((u 2), .inl (cI, 12, .inl (fun _ => 0))), ((u 3), .inl (cI, 144, .inl (fun _ => 0))), ((u 4), .inl (cI, 9, .inl (fun _ => 0))), ((u 5), .inl (cI, 18, .inl (fun _ => 0))), ((u 6), .inl (cI, 18, .inl (fun _ => 0))), ((u 7), .inl (cI, 18, .inl (fun _ => 0))), ((u 8), .inl (cI, 18, .inl (fun _ => 0))), ((u 9), .inl (cI, 18, .inl (fun _ => 0))), ((v 0), .inl (cJ, 12, .inr (.inr (.inr (.inr (fun _ => none)))))), (O, .inl (cL, 1, .inr (.inl g_9)))] H := hP
  have hD : va_D A [((u 1), .inl (cI, 12, .inl (fun _ => 0))), ((u 2), .inl (cI, 12, .inl (fun _ => 0))), ((u 3), .inl (cI, 144, .inl (fun _ => 0))), ((u 4), .inl (cI, 9, .inl (fun _ => 0))), ((u 5), .inl (cI, 18, .inl (fun _ => 0))), ((u 6), .inl (cI, 18, .inl (fun _ => 0))), ((u 7), .inl (cI, 18, .inl (fun _ => 0))), ((u 8), .inl (cI, 18, .inl (fun _ => 0))), ((u 9), .inl (cI, 18, .inl (fun _ => 0))), ((v 0), .inl (cJ, 12, .inr (.inr (.inr (.inr (fun _ => none)))))), (O, .inl (cL, 1, .inr (.inl g_9)))] := hD
  obtain rfl := hu_3
  refine k_st1 (y := b01 (outF (xs 1) 0 3)) hv1 ?_
  refine lv_iload hx hb dL_law_923 (lv_at hl 1 rfl) ?_
  refine lv_icmp_eq (tgt := 930) hx hb dL_law_925 (by decide) (fun c_5 => ?_) (fun c_5 => ?_)
  rotate_left
  · exact absurd rfl c_5
  refine lv_iload hx hb dL_law_930 (lv_at hl 1 rfl) ?_
  refine lv_if_ne (tgt := 947) hx hb dL_law_932 (by decide) (fun c_6 => ?_) (fun c_6 => ?_)
  · refine lv_goto (tgt := 2499) hx hb dL_law_947 (by decide) ?_
    refine W.widen (k := 100) (n := 2000) (Nat.le_of_ble_eq_true rfl) (Nat.le_of_ble_eq_true rfl) ?_
    exact law_end l hlT C0 (by rw [hAe]; exact hS) (lv_sub hl [2, 6] rfl)
  · refine lv_aload_n hx hb dL_law_935 rfl (lv_at hl 3 rfl) ?_
    refine lv_iconst (v := 0) hx hb dL_law_936 (by decide) ?_
    refine va_lald (D := (dC, dI)) hx hb hK hP 10 3 rfl rfl (i := 0) (n := 1) (vpd (by decide)) dL_law_937 ?_
    refine k_sl1 (y := 0) (hg9 c_6) ?_
    refine lv_iload hx hb dL_law_938 (lv_at hl 0 rfl) ?_
    refine k_st1 (y := 0) (hv2 c_6) ?_
    refine lv_i2l (v := 0) hx hb dL_law_940 (by decide) ?_
    refine W.lcmp hx hb dL_law_941 ?_
    refine k_st1 (y := 0) (by decide +kernel) ?_
    refine lv_if_eq (tgt := 947) hx hb dL_law_942 (by decide) (fun c_7 => ?_) (fun c_7 => ?_)
    rotate_left
    · first | exact absurd c_7 (by decide) | exact absurd (by decide) c_7
    refine lv_goto (tgt := 2499) hx hb dL_law_947 (by decide) ?_
    refine W.widen (k := 100) (n := 2000) (Nat.le_of_ble_eq_true rfl) (Nat.le_of_ble_eq_true rfl) ?_
    exact law_end l hlT C0 (by rw [hAe]; exact hS) (lv_sub hl [2, 6] rfl)
