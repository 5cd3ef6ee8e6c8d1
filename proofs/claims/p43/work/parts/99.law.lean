theorem rem_k {m n : Nat} (hm : m < 2147483648) (h0 : 0 < n) (hn : n < 2147483648) : nI m - nI m / nI n * nI n = nI (m % n) := by
  have h1 : m / n * n + m % n = m := by rw [Nat.mul_comm]; exact Nat.div_add_mod m n
  have h2 := Nat.mod_lt m h0
  rw [nI_div hm h0 hn, nI_mul]
  generalize m / n * n = z at h1 ⊢
  generalize m % n = r at h1 h2 ⊢
  refine Int32.toInt_inj.mp ?_
  rw [Int32.toInt_sub, nI_toInt hm, nI_toInt (n := z) (by omega), nI_toInt (n := r) (by omega)]
  refine (i_fit (by omega)).trans ?_
  omega
theorem lg_same (x : Int64) : lg_cmp x x = 0 := by
  unfold lg_cmp
  have h : ¬ x > x := by
    show ¬ x < x
    rw [Int64.lt_iff_toInt_lt]
    omega
  rw [if_neg h, if_pos rfl]
section Law
variable {p : Program} {e : Env} {s : State} {m : MethodId} {below : List Frame} {meth : Method} {c : Code} {A : Nat → Prop}
variable {dC : Nat → ClassId} {dI : Nat → Nat → Nat} {cI cV : ClassId} {P F G T za zb : Nat} {fa ia vd ra rb xa ya xb yb : Nat → Nat}
set_option maxHeartbeats 4000000 in
set_option maxRecDepth 100000 in
theorem law_10 (l : Launch) (hlT : l.stackTraces = false) {b L : Nat} {xs : Nat → Int32} (hL : L < 2147483648) (CF : CallFix p m c code 5 s #[Value.ref b] (Cond.tt :: TB) RL) (hr : meth.sig.returnType = ret) (hlocks : meth.locks = false) (hX : va_X b L xs s s.heap) (hbl : b < s.heap.size) (hAe : NA s.heap.size = A) (L9 : LF dC dI cI cV A s) (hC : CW s) : ∀ (n t cn sl : Nat) (H : Heap) (locs : List Loc) (ls : Array Slot) (w : Nat → Nat → Int32) (NP NJ NV : Nat) (ck : Int32) (vv : Nat → Nat → Int32) (R : Nat → List Int32), t + n = 60 → cn + 2003 * n ≤ 200000 → sl + 12118 * n ≤ 1000000 → IV NP NJ NV w vv R → GS dC dI cI cV P F G T za zb fa ia vd ra rb xa ya xb yb A s [] w NP NJ NV ck vv R H locs → lv_has ls 5 [(2, .int (nI t)), (1, .ref P), (0, .ref b)] → W p l e room_1 s m #[Value.ref b] below meth c H locs cn sl (lw_Z below #[Value.ref b] s) (F0 m 10 ls []) := by
  obtain ⟨hx, hb, hml, hown, hts⟩ := id CF
  have hbA : ¬ A b := by rw [← hAe]; exact Nat.not_le.mpr hbl
  have hRm : 10 ≤ room_1.frames ∧ 290 ≤ room_1.locals := ⟨Nat.le_of_ble_eq_true rfl, Nat.le_of_ble_eq_true rfl⟩
  have hRm9 : 9 ≤ room_1.frames ∧ 250 ≤ room_1.locals := ⟨Nat.le_of_ble_eq_true rfl, Nat.le_of_ble_eq_true rfl⟩
  have hRc : 678244 ≤ room_1.cells := Nat.le_of_ble_eq_true rfl
  have hRs : 7067039 ≤ room_1.slots := Nat.le_of_ble_eq_true rfl
  intro n
  induction n with
  | zero =>
    intro t cn sl H locs ls w NP NJ NV ck vv R e1 e2 e3 I GG hl
    obtain rfl : t = 60 := by omega
    refine lv_iload_n hx hb dL_law_10 rfl (lv_at hl 0 rfl) ?_
    refine lv_bipush (v := 60) hx hb dL_law_11 (by decide) ?_
    refine lv_icmp_ge (tgt := 82) hx hb dL_law_13 (by decide) (fun c_1 => ?_) (fun c_1 => ?_)
    · refine lv_iconst (v := 1) hx hb dL_law_82 (by decide) ?_
      refine va_forget (fun q hq => by have h9 := GG.1.2.2 q hq; rw [← hAe] at h9; exact h9) ?_
      refine W.widen (k := 678244) (n := 7067039) (by omega) (by omega) ?_
      exact lw_ret (d0 := s.drawn) (Drawn.sameBut.refl s.drawn lw_cs) hx hb hr hlocks dL_law_83
    · exact absurd (by decide) c_1
  | succ n ih =>
    intro t cn sl H locs ls w NP NJ NV ck vv R e1 e2 e3 I GG hl
    refine lv_iload_n hx hb dL_law_10 rfl (lv_at hl 0 rfl) ?_
    refine lv_bipush (v := 60) hx hb dL_law_11 (by decide) ?_
    refine lv_icmp_ge (tgt := 82) hx hb dL_law_13 (by decide) (fun c_1 => ?_) (fun c_1 => ?_)
    · exact absurd ((nI_leK (a := 60) (b := t) (by omega) (by omega)).mp c_1) (by omega)
    · refine lv_aload_n hx hb dL_law_16 rfl (lv_at hl 1 rfl) ?_
      refine lv_aload_n hx hb dL_law_17 rfl (lv_at hl 2 rfl) ?_
      refine lv_iload_n hx hb dL_law_18 rfl (lv_at hl 0 rfl) ?_
      refine lv_bipush (v := 36) hx hb dL_law_19 (by decide) ?_
      refine lv_irem hx hb dL_law_21 (by decide) ?_
      refine k_st1 (y := nI (t % 36)) (rem_k (n := 36) (by omega) (by decide) (by decide)) ?_
      refine k_cell (Nat.le_of_ble_eq_true rfl) CF hX hbl hbA GG.1 (k := t % 36) (by omega) hL hRm hl.1 dL_law_22 ⟨by omega, by omega⟩ (fun r_2 => ?_)
      refine lv_iload_n hx hb dL_law_25 rfl (lv_at hl 0 rfl) ?_
      refine lv_bipush (v := 36) hx hb dL_law_26 (by decide) ?_
      refine lv_idiv hx hb dL_law_28 (by decide) ?_
      refine lv_bipush (v := 11) hx hb dL_law_29 (by decide) ?_
      refine lv_imul hx hb dL_law_31 ?_
      refine lv_ishr hx hb dL_law_32 ?_
      refine lv_topi (fun x9 ex9 => ?_)
      refine gl_act hlT (Nat.le_of_ble_eq_true rfl) CF L9 hC I GG hRm hl.1 dL_law_33 ⟨by omega, by omega⟩ (fun r_3 w NP NJ NV ck vv R H locs hq_3 I_3 G_3 => ?_)
      refine lv_if_ne (tgt := 41) hx hb dL_law_36 (by decide) (fun c_4 => ?_) (fun c_4 => ?_)
      · refine lv_iload_n hx hb dL_law_41 rfl (lv_at hl 0 rfl) ?_
        refine lv_bipush (v := 8) hx hb dL_law_42 (by decide) ?_
        refine lv_irem hx hb dL_law_44 (by decide) ?_
        refine lv_bipush (v := 7) hx hb dL_law_45 (by decide) ?_
        refine lv_icmp_eq (tgt := 53) hx hb dL_law_47 (by decide) (fun c_5 => ?_) (fun c_5 => ?_)
        · refine lv_aload_n hx hb dL_law_53 rfl (lv_at hl 1 rfl) ?_
          refine g_digest hlT (Nat.le_of_ble_eq_true rfl) CF L9 I_3 G_3 hRm9 hl.1 dL_law_54 ⟨by omega, by omega⟩ (fun r_6 a_6 H locs h7_6 hq_6 hd_6 G_6 => ?_)
          have I_6 := iv_7 I_3 h7_6
          refine lv_lstore_n (lv' := [(3, .long r_6), (2, .int (nI t)), (1, .ref P), (0, .ref b)]) hx hb dL_law_57 rfl hl (by decide) rfl (fun ls hl => ?_)
          refine lv_aload_n hx hb dL_law_58 rfl (lv_at hl 2 rfl) ?_
          refine gl_sound hlT (Nat.le_of_ble_eq_true rfl) CF L9 I_6 G_6 hRm hl.1 dL_law_59 ⟨by omega, by omega⟩ (fun r_7 a_7 H locs hq_7 h7_7 hd_7 G_7 => ?_)
          have I_7 := iv_7 I_6 h7_7
          refine lv_if_eq (tgt := 74) hx hb dL_law_62 (by decide) (fun c_8 => ?_) (fun c_8 => ?_)
          · exact absurd (hq_7.symm.trans c_8) (by decide)
          · refine lv_aload_n hx hb dL_law_65 rfl (lv_at hl 2 rfl) ?_
            refine g_digest hlT (Nat.le_of_ble_eq_true rfl) CF L9 I_7 G_7 hRm9 hl.1 dL_law_66 ⟨by omega, by omega⟩ (fun r_9 a_9 H locs h7_9 hq_9 hd_9 G_9 => ?_)
            have I_9 := iv_7 I_7 h7_9
            refine lv_lload_n hx hb dL_law_69 rfl (lv_at hl 0 rfl) ?_
            refine W.lcmp hx hb dL_law_70 ?_
            refine lv_if_eq (tgt := 76) hx hb dL_law_71 (by decide) (fun c_10 => ?_) (fun c_10 => ?_)
            · refine lv_iinc (v := nI (t + 1)) (lv' := [(2, .int (nI (t + 1))), (3, .long r_6), (1, .ref P), (0, .ref b)]) hx hb dL_law_76 hl (k := 1) rfl (nI_1 _) (by decide) rfl (fun ls hl => ?_)
              refine lv_goto (tgt := 10) hx hb dL_law_79 (by decide) ?_
              exact ih (t + 1) _ _ H locs ls _ _ _ _ _ _ _ (by omega) (by omega) (by omega) I_9 G_9 (lv_sub hl [0, 2, 3] rfl)
            · exact absurd (by rw [hq_9, hd_7, hd_6, ← hq_6]; exact lg_same _) c_10
        · refine lv_goto (tgt := 76) hx hb dL_law_50 (by decide) ?_
          refine lv_iinc (v := nI (t + 1)) (lv' := [(2, .int (nI (t + 1))), (1, .ref P), (0, .ref b)]) hx hb dL_law_76 hl (k := 0) rfl (nI_1 _) (by decide) rfl (fun ls hl => ?_)
          refine lv_goto (tgt := 10) hx hb dL_law_79 (by decide) ?_
          exact ih (t + 1) _ _ H locs ls _ _ _ _ _ _ _ (by omega) (by omega) (by omega) I_3 G_3 (lv_sub hl [0, 1, 2] rfl)
      · exact absurd (hq_3.symm.trans c_4) (by decide)
end Law
set_option maxHeartbeats 4000000 in
set_option maxRecDepth 100000 in
theorem whole_start {p : Program} {e : Env} {s : State} {m : MethodId} {below : List Frame} {meth : Method} {c : Code} (l : Launch) (hflags : l.flags = flags0) {b L : Nat} {xs : Nat → Int32} (hL : L ≤ 260) (C0 : lw_At p s m meth c b L xs) : W p l e room_1 s m #[Value.ref b] below meth c s.heap [] 0 0 (lw_Z below #[Value.ref b] s) (entryFrame m ([Value.ref b] : List Value).toArray 5) := by
  have hlT : l.stackTraces = false := by rw [Launch.stackTraces, hflags]; decide +kernel
  obtain ⟨hx, hb, hr, hml, hown, hts0, hX, hbl, hlocks, hgv⟩ := id C0
  have hts := st_tt hts0
  have hN := st_N hts0
  have hXs := st_X hts0 hgv
  have hZs := st_Z hts0 hgv
  have hC := st_C hgv
  have hown : s.vm.findClass RL = some m.cls := hown
  obtain ⟨A, hAe⟩ : ∃ A, NA s.heap.size = A := ⟨_, rfl⟩
  rw [hAe] at hZs
  have hA : ∀ q : Nat, s.heap.size ≤ q → A q := fun q h => by rw [← hAe]; exact h
  obtain ⟨dC, dI, cI, cV, hK⟩ := st_K hts0
  have hS : va_S A s.heap s.heap [] := va_S.rf
  have hP : va_P (dC, dI) cls [] s.heap := va_P_nil
  have hD : va_D A [] := va_D_nil
  have hl := lv_entry ([.ref b]) (n := 5) (Nat.le_of_ble_eq_true rfl)
  rw [lg_entry_eq]
  generalize (lg_sl ([.ref b]) ++ List.replicate (5 - (lg_sl ([.ref b])).length) Slot.unset).toArray = ls at hl ⊢
  have hl : lv_has ls 5 [(0, .ref b)] := hl
  refine va_new (ci := 5) (fs := [.null, .null, .null, .null, .null, .null, .null, .int 0, .int 0]) (C := RX5) (T := TX5) (N := 9) hx hb hts (fun w h => tb_in (inX5 w h)) tyX5 tyX5_ok hown (hts _ (tb_in q_cl_L_9)) (hts _ (tb_in q_in_X5)) (hts _ (tb_in q_ini_X5)) hK hP hD hS hA rfl (fun j hj => by rcases (show j = 0 ∨ j = 1 ∨ j = 2 ∨ j = 3 ∨ j = 4 ∨ j = 5 ∨ j = 6 ∨ j = 7 ∨ j = 8 by omega) with rfl | rfl | rfl | rfl | rfl | rfl | rfl | rfl | rfl <;> rfl) (Nat.le_of_ble_eq_true rfl) (Nat.le_of_ble_eq_true rfl) dL_law_0 (fun o H hP hD hS => ?_)
  have hP : va_P (dC, dI) cls [(o, .inr (5, [.null, .null, .null, .null, .null, .null, .null, .int 0, .int 0]))] H := hP
  have hD : va_D A [(o, .inr (5, [.null, .null, .null, .null, .null, .null, .null, .int 0, .int 0]))] := hD
  refine lv_dup hx hb dL_law_3 rfl ?_
  refine n_Iv (wc := [(o, .inr (5, [.null, .null, .null, .null, .null, .null, .null, .int 0, .int 0]))]) (wr := []) [] [0] [] ⟨hx, hb, hml, hown, hts⟩ (fun sz => c_X5_made l dC dI cI cV o sz) q_ml_L_11 q_im_X5_init q_ini_X5 q_co_X5_init rfl (n := 0) (by decide +kernel) rfl ⟨rfl, rfl⟩ ⟨Nat.le_of_ble_eq_true rfl, Nat.le_of_ble_eq_true rfl⟩ hP hD hS hA hK hN rfl rfl (by decide) (by decide) (by decide) hl.1 rfl (Nat.le_of_ble_eq_true rfl) dL_law_4 ⟨Nat.le_of_ble_eq_true rfl, Nat.le_of_ble_eq_true rfl⟩ (fun u H locs hu hP hD hS => ?_)
  obtain ⟨F, G, T, za, zb, fa, ia, vd, ra, rb, xa, ya, xb, yb, hw⟩ := hu
  refine lv_astore_n (lv' := [(1, .ref o), (0, .ref b)]) hx hb dL_law_7 rfl hl (by decide) rfl (fun ls hl => ?_)
  refine lv_iconst (v := 0) hx hb dL_law_8 (by decide) ?_
  refine lv_istore_n (lv' := [(2, .int 0), (1, .ref o), (0, .ref b)]) hx hb dL_law_9 rfl hl (by decide) rfl (fun ls hl => ?_)
  exact law_10 l hlT (by omega) ⟨hx, hb, hml, hown, hts⟩ hr hlocks hX hbl hAe ⟨hK, hN, hXs, hZs, hA⟩ hC 60 0 _ _ H locs ls _ _ _ _ _ _ _ rfl (Nat.le_of_ble_eq_true rfl) (Nat.le_of_ble_eq_true rfl) (iv_0 (fun _ => rfl)) ⟨hS, u, hw, by rw [List.append_nil]; exact hP, by rw [List.append_nil]; exact hD⟩ hl
