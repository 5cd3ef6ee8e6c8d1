set_option maxHeartbeats 4000000 in
set_option maxRecDepth 100000 in
theorem c_L_act (l : Launch) (hlT : l.stackTraces = false) (dC : Nat → ClassId) (dI : Nat → Nat → Nat) (cI cV : ClassId) (P F G T za zb : Nat) (fa ia vd ra rb xa ya xb yb : Nat → Nat) (w : Nat → Nat → Int32) (NP NJ NV : Nat) (ck : Int32) (vv : Nat → Nat → Int32) (R : Nat → List Int32) (I0 : IV NP NJ NV w vv R) (x : Int32) (ws : va_W) (hw : WOK cI cV P F G T za zb fa ia vd ra rb xa ya xb yb w NP NJ NV ck vv R ws) (sz : Nat) : vx_Met l yL_act (Cond.codeWith yL_act cL_act 10 (some .boolean) [(37, 225, 568, 103), (226, 298, 568, 103), (299, 361, 568, 103), (362, 468, 568, 103), (469, 498, 568, 103), (499, 549, 568, 103), (550, 565, 568, 103), (37, 225, 585, 105), (226, 298, 585, 105), (299, 361, 585, 105), (362, 468, 585, 105), (469, 498, 585, 105), (499, 549, 585, 105), (550, 565, 585, 105), (37, 225, 602, 107), (226, 298, 602, 107), (299, 361, 602, 107), (362, 468, 602, 107), (469, 498, 602, 107), (499, 549, 602, 107), (550, 565, 602, 107)] :: TB) ({ frames := 9, cells := 3, slots := 18, locals := 250 } : Room) (PXc [.ref P, .int x] (dC, dI) ws (TY cI cV) sz) (va_Qi (fun (r : Int32) (u : va_W) => r = 1 ∧ ∃ (w : Nat → Nat → Int32) (NP NJ NV : Nat) (ck : Int32) (vv : Nat → Nat → Int32) (R : Nat → List Int32), IV NP NJ NV w vv R ∧ WOK cI cV P F G T za zb fa ia vd ra rb xa ya xb yb w NP NJ NV ck vv R u) (QB (dC, dI) (fun (u : va_W) => u) (TY cI cV) (va_A ws sz)) (va_A ws sz)) (vx_X (fun _ : Unit => False) (fun _ _ _ => True) (va_A ws sz)) 3 18 (va_A ws sz) := by
  refine vx_ofWH (cc := cL_act) (maxL := 10) (ret := (some .boolean)) (hh := [(37, 225, 568, 103), (226, 298, 568, 103), (299, 361, 568, 103), (362, 468, 568, 103), (469, 498, 568, 103), (499, 549, 568, 103), (550, 565, 568, 103), (37, 225, 585, 105), (226, 298, 585, 105), (299, 361, 585, 105), (362, 468, 585, 105), (469, 498, 585, 105), (499, 549, 585, 105), (550, 565, 585, 105), (37, 225, 602, 107), (226, 298, 602, 107), (299, 361, 602, 107), (362, 468, 602, 107), (469, 498, 602, 107), (499, 549, 602, 107), (550, 565, 602, 107)]) (by decide) rfl ?_
  intro p e s m args below meth c s₁ B hml hv
  obtain ⟨rfl, hsz, hP, hK, hD0, hN, hXs, hZs, hC⟩ := hv
  have hx := B.exec
  have hb := B.bytes
  have hr := B.returns
  have hts := atoms_spec (ws := (Cond.codeWith yL_act cL_act 10 (some .boolean) [(37, 225, 568, 103), (226, 298, 568, 103), (299, 361, 568, 103), (362, 468, 568, 103), (469, 498, 568, 103), (499, 549, 568, 103), (550, 565, 568, 103), (37, 225, 585, 105), (226, 298, 585, 105), (299, 361, 585, 105), (362, 468, 585, 105), (469, 498, 585, 105), (499, 549, 585, 105), (550, 565, 585, 105), (37, 225, 602, 107), (226, 298, 602, 107), (299, 361, 602, 107), (362, 468, 602, 107), (469, 498, 602, 107), (499, 549, 602, 107), (550, 565, 602, 107)] :: TB)) B.pre
  have hown : s.vm.findClass RL = some m.cls := findClass_of_methodNamed B.named
  have hlocks := B.notSynchronized
  have ht9 := vx_table (x := yL_act) B (hts _ List.mem_cons_self)
  subst hsz
  have hD := hD0.self (sz := s.heap.size)
  generalize hAe : va_A ws s.heap.size = A at hD hZs ⊢
  have hA : ∀ q : Nat, s.heap.size ≤ q → A q := fun q h => by rw [← hAe]; exact Or.inr h
  have hS : va_S A s.heap s.heap [] := va_S.rf
  have CF : CallFix p m c cL_act 10 s ([.ref P, .int x] : List Value).toArray (Cond.codeWith yL_act cL_act 10 (some .boolean) [(37, 225, 568, 103), (226, 298, 568, 103), (299, 361, 568, 103), (362, 468, 568, 103), (469, 498, 568, 103), (499, 549, 568, 103), (550, 565, 568, 103), (37, 225, 585, 105), (226, 298, 585, 105), (299, 361, 585, 105), (362, 468, 585, 105), (469, 498, 585, 105), (499, 549, 585, 105), (550, 565, 585, 105), (37, 225, 602, 107), (226, 298, 602, 107), (299, 361, 602, 107), (362, 468, 602, 107), (469, 498, 602, 107), (499, 549, 602, 107), (550, 565, 602, 107)] :: TB) RL := ⟨hx, hb, hml, hown, hts⟩
  have L : LF dC dI cI cV A s := ⟨hK, hN, hXs, hZs, hA⟩
  have G0 : GS dC dI cI cV P F G T za zb fa ia vd ra rb xa ya xb yb A s [] w NP NJ NV ck vv R s.heap [] := ⟨hS, ws, hw, by rw [List.append_nil]; exact hP, by rw [List.append_nil]; exact hD⟩
  have hRm : 9 ≤ (headSpec (Cond.codeWith yL_act cL_act 10 (some .boolean) [(37, 225, 568, 103), (226, 298, 568, 103), (299, 361, 568, 103), (362, 468, 568, 103), (469, 498, 568, 103), (499, 549, 568, 103), (550, 565, 568, 103), (37, 225, 585, 105), (226, 298, 585, 105), (299, 361, 585, 105), (362, 468, 585, 105), (469, 498, 585, 105), (499, 549, 585, 105), (550, 565, 585, 105), (37, 225, 602, 107), (226, 298, 602, 107), (299, 361, 602, 107), (362, 468, 602, 107), (469, 498, 602, 107), (499, 549, 602, 107), (550, 565, 602, 107)] :: TB) ({ frames := 9, cells := 3, slots := 18, locals := 250 } : Room)).room.frames ∧ 250 ≤ (headSpec (Cond.codeWith yL_act cL_act 10 (some .boolean) [(37, 225, 568, 103), (226, 298, 568, 103), (299, 361, 568, 103), (362, 468, 568, 103), (469, 498, 568, 103), (499, 549, 568, 103), (550, 565, 568, 103), (37, 225, 585, 105), (226, 298, 585, 105), (299, 361, 585, 105), (362, 468, 585, 105), (469, 498, 585, 105), (499, 549, 585, 105), (550, 565, 585, 105), (37, 225, 602, 107), (226, 298, 602, 107), (299, 361, 602, 107), (362, 468, 602, 107), (469, 498, 602, 107), (499, 549, 602, 107), (550, 565, 602, 107)] :: TB) ({ frames := 9, cells := 3, slots := 18, locals := 250 } : Room)).room.locals := ⟨Nat.le_of_ble_eq_true rfl, Nat.le_of_ble_eq_true rfl⟩
  have hRc : 3 ≤ (headSpec (Cond.codeWith yL_act cL_act 10 (some .boolean) [(37, 225, 568, 103), (226, 298, 568, 103), (299, 361, 568, 103), (362, 468, 568, 103), (469, 498, 568, 103), (499, 549, 568, 103), (550, 565, 568, 103), (37, 225, 585, 105), (226, 298, 585, 105), (299, 361, 585, 105), (362, 468, 585, 105), (469, 498, 585, 105), (499, 549, 585, 105), (550, 565, 585, 105), (37, 225, 602, 107), (226, 298, 602, 107), (299, 361, 602, 107), (362, 468, 602, 107), (469, 498, 602, 107), (499, 549, 602, 107), (550, 565, 602, 107)] :: TB) ({ frames := 9, cells := 3, slots := 18, locals := 250 } : Room)).room.cells ∧ 18 ≤ (headSpec (Cond.codeWith yL_act cL_act 10 (some .boolean) [(37, 225, 568, 103), (226, 298, 568, 103), (299, 361, 568, 103), (362, 468, 568, 103), (469, 498, 568, 103), (499, 549, 568, 103), (550, 565, 568, 103), (37, 225, 585, 105), (226, 298, 585, 105), (299, 361, 585, 105), (362, 468, 585, 105), (469, 498, 585, 105), (499, 549, 585, 105), (550, 565, 585, 105), (37, 225, 602, 107), (226, 298, 602, 107), (299, 361, 602, 107), (362, 468, 602, 107), (469, 498, 602, 107), (499, 549, 602, 107), (550, 565, 602, 107)] :: TB) ({ frames := 9, cells := 3, slots := 18, locals := 250 } : Room)).room.slots := ⟨Nat.le_of_ble_eq_true rfl, Nat.le_of_ble_eq_true rfl⟩
  have hb9 := I0.bd
  have hl := lv_entry ([.ref P, .int x]) (n := 10) (Nat.le_of_ble_eq_true rfl)
  rw [lg_entry_eq]
  generalize (lg_sl ([.ref P, .int x]) ++ List.replicate (10 - (lg_sl ([.ref P, .int x])).length) Slot.unset).toArray = ls at hl ⊢
  have hl : lv_has ls 10 [(0, .ref P), (1, .int x)] := hl
  have hl : lv_has ls 10 [(1, .int x), (0, .ref P)] := lv_sub hl [1, 0] rfl
  generalize (headSpec (Cond.codeWith yL_act cL_act 10 (some .boolean) [(37, 225, 568, 103), (226, 298, 568, 103), (299, 361, 568, 103), (362, 468, 568, 103), (469, 498, 568, 103), (499, 549, 568, 103), (550, 565, 568, 103), (37, 225, 585, 105), (226, 298, 585, 105), (299, 361, 585, 105), (362, 468, 585, 105), (469, 498, 585, 105), (499, 549, 585, 105), (550, 565, 585, 105), (37, 225, 602, 107), (226, 298, 602, 107), (299, 361, 602, 107), (362, 468, 602, 107), (469, 498, 602, 107), (499, 549, 602, 107), (550, 565, 602, 107)] :: TB) ({ frames := 9, cells := 3, slots := 18, locals := 250 } : Room)).room = R0 at hRm hRc ⊢
  show W p l e R0 s m ([.ref P, .int x] : List Value).toArray below meth c s.heap [] 0 0 (QA dC dI cI cV P F G T za zb fa ia vd ra rb xa ya xb yb A s ([.ref P, .int x] : List Value).toArray below) (F0 m 0 ls [])
  refine lv_iload_n hx hb dL_act_0 rfl (lv_at hl 0 rfl) ?_
  refine lv_iconst (v := 4) hx hb dL_act_1 (by decide) ?_
  refine lv_ishr hx hb dL_act_2 ?_
  refine lv_iconst (v := 1) hx hb dL_act_3 (by decide) ?_
  refine lv_aload_n hx hb dL_act_4 rfl (lv_at hl 1 rfl) ?_
  refine g_jobs hlT (Nat.le_of_ble_eq_true rfl) CF L I0 G0 hRm hl.1 dL_act_5 ⟨by omega, by omega⟩ (fun r_1 H locs hq_1 G_1 => ?_)
  subst hq_1
  refine va_mmax hx hb (hml.trans hl.1.symm) hown (hts _ (tb_in q_ml_L_34)) (hts _ (tb_in q_max_st)) (hts _ (tb_in q_math_ini)) (hts _ (tb_in q_max_co)) (by omega) (Nat.le_trans (Nat.le_of_ble_eq_true rfl) hRm.2) (by omega) (by omega) dL_act_8 ?_
  refine k_st1 (y := nI (max 1 NJ)) (mx1 (by omega)) ?_
  refine k_Ti [.int (x >>> (4 &&& 31)), .int (nI (max 1 NJ))] ⟨hx, hb, hml, hown, hts⟩ (c_L_below l (x >>> (4 &&& 31)) (max 1 NJ) (by omega) (by omega)) q_ml_L_40 q_st_L_below q_ini_L q_co_L_below (n := 2) (by decide +kernel) rfl ⟨rfl, rfl⟩ ⟨Nat.le_trans (Nat.le_of_ble_eq_true rfl) hRm.1, Nat.le_trans (Nat.le_of_ble_eq_true rfl) hRm.2⟩ hl.1 rfl (Nat.le_of_ble_eq_true rfl) dL_act_11 ⟨by omega, by omega⟩ (fun rk_2 hk_2 => ?_)
  obtain ⟨k_2, hk_2, rfl⟩ := hk_2
  refine lv_istore_n (lv' := [(2, .int (nI k_2)), (1, .int x), (0, .ref P)]) hx hb dL_act_14 rfl hl (by decide) rfl (fun ls hl => ?_)
  refine lv_iload_n hx hb dL_act_15 rfl (lv_at hl 1 rfl) ?_
  refine lv_bipush (v := 7) hx hb dL_act_16 (by decide) ?_
  refine lv_ishr hx hb dL_act_18 ?_
  refine lv_iconst (v := 1) hx hb dL_act_19 (by decide) ?_
  refine lv_aload_n hx hb dL_act_20 rfl (lv_at hl 2 rfl) ?_
  refine g_vehicles hlT (Nat.le_of_ble_eq_true rfl) CF L I0 G_1 hRm hl.1 dL_act_21 ⟨by omega, by omega⟩ (fun r_3 H locs hq_3 G_3 => ?_)
  subst hq_3
  refine va_mmax hx hb (hml.trans hl.1.symm) hown (hts _ (tb_in q_ml_L_34)) (hts _ (tb_in q_max_st)) (hts _ (tb_in q_math_ini)) (hts _ (tb_in q_max_co)) (by omega) (Nat.le_trans (Nat.le_of_ble_eq_true rfl) hRm.2) (by omega) (by omega) dL_act_24 ?_
  refine k_st1 (y := nI (max 1 NV)) (mx1 (by omega)) ?_
  refine k_Ti [.int (x >>> (7 &&& 31)), .int (nI (max 1 NV))] ⟨hx, hb, hml, hown, hts⟩ (c_L_below l (x >>> (7 &&& 31)) (max 1 NV) (by omega) (by omega)) q_ml_L_40 q_st_L_below q_ini_L q_co_L_below (n := 2) (by decide +kernel) rfl ⟨rfl, rfl⟩ ⟨Nat.le_trans (Nat.le_of_ble_eq_true rfl) hRm.1, Nat.le_trans (Nat.le_of_ble_eq_true rfl) hRm.2⟩ hl.1 rfl (Nat.le_of_ble_eq_true rfl) dL_act_27 ⟨by omega, by omega⟩ (fun rk_4 hk_4 => ?_)
  obtain ⟨k_4, hk_4, rfl⟩ := hk_4
  refine lv_istore_n (lv' := [(3, .int (nI k_4)), (2, .int (nI k_2)), (1, .int x), (0, .ref P)]) hx hb dL_act_30 rfl hl (by decide) rfl (fun ls hl => ?_)
  refine lv_aload_n hx hb dL_act_31 rfl (lv_at hl 3 rfl) ?_
  refine g_cost hlT (Nat.le_of_ble_eq_true rfl) CF L I0 G_3 hRm hl.1 dL_act_32 ⟨by omega, by omega⟩ (fun r_5 H locs hq_5 G_5 => ?_)
  refine lv_istore (lv' := [(4, .int r_5), (3, .int (nI k_4)), (2, .int (nI k_2)), (1, .int x), (0, .ref P)]) hx hb dL_act_35 hl (by decide) rfl (fun ls hl => ?_)
  refine lv_iload_n hx hb dL_act_37 rfl (lv_at hl 3 rfl) ?_
  refine lv_bipush (v := 17) hx hb dL_act_38 (by decide) ?_
  refine k_Ti [.int x, .int (nI 17)] ⟨hx, hb, hml, hown, hts⟩ (c_L_below l x 17 (by omega) (by omega)) q_ml_L_40 q_st_L_below q_ini_L q_co_L_below (n := 2) (by decide +kernel) rfl ⟨rfl, rfl⟩ ⟨Nat.le_trans (Nat.le_of_ble_eq_true rfl) hRm.1, Nat.le_trans (Nat.le_of_ble_eq_true rfl) hRm.2⟩ hl.1 rfl (Nat.le_of_ble_eq_true rfl) dL_act_40 ⟨by omega, by omega⟩ (fun rk_6 hk_6 => ?_)
  obtain ⟨k_6, hk_6, rfl⟩ := hk_6
  have hl : lv_has ls 10 [(4, .int r_5), (3, .int (nI k_4)), (2, .int (nI k_2)), (1, .int x), (0, .ref P)] := lv_sub hl [0, 1, 2, 3, 4] rfl
  rcases (by omega : k_6 = 0 ∨ k_6 = 1 ∨ k_6 = 2 ∨ k_6 = 3 ∨ k_6 = 4 ∨ k_6 = 5 ∨ k_6 = 6 ∨ k_6 = 7 ∨ k_6 = 8 ∨ k_6 = 9 ∨ k_6 = 10 ∨ k_6 = 11 ∨ k_6 = 12 ∨ k_6 = 13 ∨ k_6 = 14 ∨ k_6 = 15 ∨ k_6 = 16) with rfl | rfl | rfl | rfl | rfl | rfl | rfl | rfl | rfl | rfl | rfl | rfl | rfl | rfl | rfl | rfl | rfl
  · refine lv_tableIn (off := 77) (tgt := 120) hx hb dL_act_43 (by decide) (by decide) (by decide) (by decide) ?_
    exact ac_120 hlT CF hr hlocks ht9 hC L I0 G_5 (by exact hRm) (by exact hRc) hq_5 hk_2 hk_4 hl
  · refine lv_tableIn (off := 77) (tgt := 120) hx hb dL_act_43 (by decide) (by decide) (by decide) (by decide) ?_
    exact ac_120 hlT CF hr hlocks ht9 hC L I0 G_5 (by exact hRm) (by exact hRc) hq_5 hk_2 hk_4 hl
  · refine lv_tableIn (off := 102) (tgt := 145) hx hb dL_act_43 (by decide) (by decide) (by decide) (by decide) ?_
    exact ac_145 hlT CF hr hlocks ht9 hC L I0 G_5 (by exact hRm) (by exact hRc) hq_5 hk_2 hk_4 hl
  · refine lv_tableIn (off := 183) (tgt := 226) hx hb dL_act_43 (by decide) (by decide) (by decide) (by decide) ?_
    exact ac_226 hlT CF hr hlocks ht9 hC L I0 G_5 (by exact hRm) (by exact hRc) hq_5 hk_2 hk_4 hl
  · refine lv_tableIn (off := 183) (tgt := 226) hx hb dL_act_43 (by decide) (by decide) (by decide) (by decide) ?_
    exact ac_226 hlT CF hr hlocks ht9 hC L I0 G_5 (by exact hRm) (by exact hRc) hq_5 hk_2 hk_4 hl
  · refine lv_tableIn (off := 256) (tgt := 299) hx hb dL_act_43 (by decide) (by decide) (by decide) (by decide) ?_
    exact ac_299 hlT CF hr hlocks ht9 hC L I0 G_5 (by exact hRm) (by exact hRc) hq_5 hk_2 hk_4 hl
  · refine lv_tableIn (off := 319) (tgt := 362) hx hb dL_act_43 (by decide) (by decide) (by decide) (by decide) ?_
    exact ac_362 hlT CF hr hlocks ht9 hC L I0 G_5 (by exact hRm) (by exact hRc) hq_5 hk_2 hk_4 hl
  · refine lv_tableIn (off := 319) (tgt := 362) hx hb dL_act_43 (by decide) (by decide) (by decide) (by decide) ?_
    exact ac_362 hlT CF hr hlocks ht9 hC L I0 G_5 (by exact hRm) (by exact hRc) hq_5 hk_2 hk_4 hl
  · refine lv_tableIn (off := 319) (tgt := 362) hx hb dL_act_43 (by decide) (by decide) (by decide) (by decide) ?_
    exact ac_362 hlT CF hr hlocks ht9 hC L I0 G_5 (by exact hRm) (by exact hRc) hq_5 hk_2 hk_4 hl
  · refine lv_tableIn (off := 328) (tgt := 371) hx hb dL_act_43 (by decide) (by decide) (by decide) (by decide) ?_
    exact ac_371 hlT CF hr hlocks ht9 hC L I0 G_5 (by exact hRm) (by exact hRc) hq_5 hk_2 hk_4 hl
  · refine lv_tableIn (off := 354) (tgt := 397) hx hb dL_act_43 (by decide) (by decide) (by decide) (by decide) ?_
    exact ac_397 hlT CF hr hlocks ht9 hC L I0 G_5 (by exact hRm) (by exact hRc) hq_5 hk_2 hk_4 hl
  · refine lv_tableIn (off := 363) (tgt := 406) hx hb dL_act_43 (by decide) (by decide) (by decide) (by decide) ?_
    exact ac_406 hlT CF hr hlocks ht9 hC L I0 G_5 (by exact hRm) (by exact hRc) hq_5 hk_2 hk_4 hl
  · refine lv_tableIn (off := 371) (tgt := 414) hx hb dL_act_43 (by decide) (by decide) (by decide) (by decide) ?_
    exact ac_414 hlT CF hr hlocks ht9 hC L I0 G_5 (by exact hRm) (by exact hRc) hq_5 hk_2 hk_4 hl
  · refine lv_tableIn (off := 388) (tgt := 431) hx hb dL_act_43 (by decide) (by decide) (by decide) (by decide) ?_
    exact ac_431 hlT CF hr hlocks ht9 hC L I0 G_5 (by exact hRm) (by exact hRc) hq_5 hk_2 hk_4 hl
  · refine lv_tableIn (off := 426) (tgt := 469) hx hb dL_act_43 (by decide) (by decide) (by decide) (by decide) ?_
    exact ac_469 hlT CF hr hlocks ht9 hC L I0 G_5 (by exact hRm) (by exact hRc) hq_5 hk_2 hk_4 hl
  · refine lv_tableIn (off := 456) (tgt := 499) hx hb dL_act_43 (by decide) (by decide) (by decide) (by decide) ?_
    exact ac_499 hlT CF hr hlocks ht9 hC L I0 G_5 (by exact hRm) (by exact hRc) hq_5 hk_2 hk_4 hl
  · refine lv_tableOut (tgt := 550) hx hb dL_act_43 (by decide) (by decide) ?_
    exact ac_550 hlT CF hr hlocks ht9 hC L I0 G_5 (by exact hRm) (by exact hRc) hq_5 hk_2 hk_4 hl
