/-- where act ends -/
def QA (dC : Nat → ClassId) (dI : Nat → Nat → Nat) (cI cV : ClassId) (P F G T za zb : Nat) (fa ia vd ra rb xa ya xb yb : Nat → Nat) (A : Nat → Prop) (s : State) (args : Array Value) (below : List Frame) : State → Prop :=
  vx_MQ below (va_Qi (fun (r : Int32) (u : va_W) => r = 1 ∧ ∃ (w : Nat → Nat → Int32) (NP NJ NV : Nat) (ck : Int32) (vv : Nat → Nat → Int32) (R : Nat → List Int32), IV NP NJ NV w vv R ∧ WOK cI cV P F G T za zb fa ia vd ra rb xa ya xb yb w NP NJ NV ck vv R u) (QB (dC, dI) (fun (u : va_W) => u) (TY cI cV) A) A) (vx_X (fun _ : Unit => False) (fun _ _ _ => True) A) args s 3 18 A
theorem mx1 {n : Nat} (h : n < 100) : (if (1 : Int32) < nI n then nI n else 1) = nI (max 1 n) := by
  have z1 : (1 : Int32).toInt = (1 : Int) := rfl
  by_cases c : 1 < n
  · rw [if_pos ((i_lt z1 (nI_toInt (n := n) (by omega))).mpr (by omega)), show max 1 n = n by omega]
  · rw [if_neg (fun q => c (by have := (i_lt z1 (nI_toInt (n := n) (by omega))).mp q; omega)), show max 1 n = 1 by omega]
    rfl
theorem of3 {k : Nat} (h : k < 3) : outF (1 + nI k) 1 9 = false := by rcases (by omega : k = 0 ∨ k = 1 ∨ k = 2) with rfl | rfl | rfl <;> decide
theorem of4 {k : Nat} (h : k < 4) : outF (1 + nI k) 1 10 = false := by rcases (by omega : k = 0 ∨ k = 1 ∨ k = 2 ∨ k = 3) with rfl | rfl | rfl | rfl <;> decide
theorem set_pos {NP NJ NV : Nat} {w vv : Nat → Nat → Int32} {R : Nat → List Int32} (I : IV NP NJ NV w vv R) {K : Nat} {t r b : Int32} (h : vv K 6 = nI 0 → ¬ t = 0) (hb : b = t) (ht : b = 0) (hr : r = vv K 6) : ¬ r ≤ 0 := by
  intro q
  have e := sS_6 I.2.2 K
  have b9 := sS_18 I.2.2 K
  have z0 : (0 : Int32).toInt = (0 : Int) := rfl
  rw [hr, e] at q
  have q1 := (i_le (nI_toInt (n := sS vv K) (by omega)) z0).mp q
  exact h (by rw [e, show sS vv K = 0 by omega]) (hb.symm.trans ht)
theorem gain_neg {NP NJ NV : Nat} {w vv : Nat → Nat → Int32} {ck : Int32} {R : Nat → List Int32} (I : IV NP NJ NV w vv R) {S : Nat → Nat} {kd : Nat} {r : Int32} (h : r = gF NP NJ NV w ck vv R S kd) : ¬ r < 0 := by
  obtain ⟨⟨N, C⟩, -, -⟩ := I
  rw [h]
  exact gF_ge C
section ActCases
variable {p : Program} {l : Launch} {e : Env} {R0 : Room} {s : State} {m : MethodId} {args : Array Value} {below : List Frame} {meth : Method} {c : Code} {H : Heap} {locs : List Loc} {cells slots : Nat} {Q : State → Prop}
variable {cc : ByteArray} {nL : Nat} {c0 : Cond} {rest : List Value} {pc : Nat} {ls : Array Slot} {A : Nat → Prop}
variable {dC : Nat → ClassId} {dI : Nat → Nat → Nat} {cI cV : ClassId} {P F G T za zb : Nat} {fa ia vd ra rb xa ya xb yb : Nat → Nat}
variable {w : Nat → Nat → Int32} {NP NJ NV : Nat} {ck : Int32} {vv : Nat → Nat → Int32} {R : Nat → List Int32} {sn0 : Nat} {sf : Nat → Int32}
set_option maxHeartbeats 4000000 in
set_option maxRecDepth 100000 in
theorem ac_ret (hlT : l.stackTraces = false) (CF : CallFix p m c cL_act 10 s args (c0 :: TB) RL) (hr : meth.sig.returnType = some .boolean) (hlocks : meth.locks = false) (L : LF dC dI cI cV A s) (I0 : IV NP NJ NV w vv R) (G0 : GS dC dI cI cV P F G T za zb fa ia vd ra rb xa ya xb yb A s [] w NP NJ NV ck vv R H locs) (hcn : cells ≤ 3) (hsl : slots ≤ 18) (hdg : decode cL_act pc = .ok (.ireturn, 1)) : W p l e R0 s m args below meth c H locs cells slots (QA dC dI cI cV P F G T za zb fa ia vd ra rb xa ya xb yb A s args below) (F0 m pc ls [.int 1]) := by
  obtain ⟨hx, hb, hml, hown, hts⟩ := id CF
  obtain ⟨hK, hN, hXs, hZs, hA⟩ := L
  obtain ⟨hS, ws, hw, hP, hD⟩ := G0
  rw [List.append_nil] at hP hD
  refine k_wid (k := 3) (n := 18) hcn hsl (vx_ret ?_)
  exact W.zret (v := 1) hx hb hr rfl (fun t9 ht9 hW9 => ⟨⟨_, ws, rfl, ⟨rfl, w, NP, NJ, NV, ck, vv, R, I0, hw⟩, by rw [ht9]; exact hP, va_K.moved hW9.alike hK, hD⟩, hS.F ht9⟩) hS.2.2 hdg
set_option maxHeartbeats 4000000 in
set_option maxRecDepth 100000 in
theorem ac_565 (hlT : l.stackTraces = false) (CF : CallFix p m c cL_act 10 s args (c0 :: TB) RL) (hr : meth.sig.returnType = some .boolean) (hlocks : meth.locks = false) (L : LF dC dI cI cV A s) (I0 : IV NP NJ NV w vv R) (G0 : GS dC dI cI cV P F G T za zb fa ia vd ra rb xa ya xb yb A s [] w NP NJ NV ck vv R H locs) (hcn : cells ≤ 3) (hsl : slots ≤ 18) : W p l e R0 s m args below meth c H locs cells slots (QA dC dI cI cV P F G T za zb fa ia vd ra rb xa ya xb yb A s args below) (F0 m 565 ls []) := by
  obtain ⟨hx, hb, hml, hown, hts⟩ := id CF
  have hXs : XW s := L.2.2.1
  refine lv_goto (tgt := 619) hx hb dL_act_565 (by decide) ?_
  refine lv_iconst (v := 1) hx hb dL_act_619 (by decide) ?_
  exact ac_ret hlT CF hr hlocks L I0 G0 (by omega) (by omega) dL_act_620
set_option maxHeartbeats 4000000 in
set_option maxRecDepth 100000 in
theorem ac_568 (hlT : l.stackTraces = false) (CF : CallFix p m c cL_act 10 s args (c0 :: TB) RL) (hr : meth.sig.returnType = some .boolean) (hlocks : meth.locks = false) (L : LF dC dI cI cV A s) (I0 : IV NP NJ NV w vv R) (G0 : GS dC dI cI cV P F G T za zb fa ia vd ra rb xa ya xb yb A s [] w NP NJ NV ck vv R H locs) (hRm : 9 ≤ R0.frames ∧ 250 ≤ R0.locals) (hRc : 3 ≤ R0.cells ∧ 18 ≤ R0.slots) {cst : Int32} (hcst : cst = costF NP NJ NV w ck vv R) (hcn : cells ≤ 3) (hsl : slots ≤ 18) {q9 : Nat} (hl : lv_has ls 10 [(0, .ref P), (4, .int cst)]) : W p l e R0 s m args below meth c H locs cells slots (QA dC dI cI cV P F G T za zb fa ia vd ra rb xa ya xb yb A s args below) (F0 m 568 ls [.ref q9]) := by
  obtain ⟨hx, hb, hml, hown, hts⟩ := id CF
  have hXs : XW s := L.2.2.1
  refine lv_astore (lv' := [(5, .ref q9), (0, .ref P), (4, .int cst)]) hx hb dL_act_568 hl (by decide) rfl (fun ls hl => ?_)
  refine lv_aload_n hx hb dL_act_570 rfl (lv_at hl 1 rfl) ?_
  refine g_cost hlT (Nat.le_of_ble_eq_true rfl) CF L I0 G0 hRm hl.1 dL_act_571 ⟨by omega, by omega⟩ (fun r_1 H locs hq_1 G_1 => ?_)
  refine lv_iload hx hb dL_act_574 (lv_at hl 2 rfl) ?_
  refine lv_icmp_ne (tgt := 583) hx hb dL_act_576 (by decide) (fun c_2 => ?_) (fun c_2 => ?_)
  · exact absurd (by rw [hq_1, hcst]) c_2
  · refine lv_iconst (v := 1) hx hb dL_act_579 (by decide) ?_
    refine lv_goto (tgt := 584) hx hb dL_act_580 (by decide) ?_
    exact ac_ret hlT CF hr hlocks L I0 G_1 (by omega) (by omega) dL_act_584
set_option maxHeartbeats 4000000 in
set_option maxRecDepth 100000 in
theorem ac_585 (hlT : l.stackTraces = false) (CF : CallFix p m c cL_act 10 s args (c0 :: TB) RL) (hr : meth.sig.returnType = some .boolean) (hlocks : meth.locks = false) (L : LF dC dI cI cV A s) (I0 : IV NP NJ NV w vv R) (G0 : GS dC dI cI cV P F G T za zb fa ia vd ra rb xa ya xb yb A s [] w NP NJ NV ck vv R H locs) (hRm : 9 ≤ R0.frames ∧ 250 ≤ R0.locals) (hRc : 3 ≤ R0.cells ∧ 18 ≤ R0.slots) {cst : Int32} (hcst : cst = costF NP NJ NV w ck vv R) (hcn : cells ≤ 3) (hsl : slots ≤ 18) {q9 : Nat} (hl : lv_has ls 10 [(0, .ref P), (4, .int cst)]) : W p l e R0 s m args below meth c H locs cells slots (QA dC dI cI cV P F G T za zb fa ia vd ra rb xa ya xb yb A s args below) (F0 m 585 ls [.ref q9]) := by
  obtain ⟨hx, hb, hml, hown, hts⟩ := id CF
  have hXs : XW s := L.2.2.1
  refine lv_astore (lv' := [(5, .ref q9), (0, .ref P), (4, .int cst)]) hx hb dL_act_585 hl (by decide) rfl (fun ls hl => ?_)
  refine lv_aload_n hx hb dL_act_587 rfl (lv_at hl 1 rfl) ?_
  refine g_cost hlT (Nat.le_of_ble_eq_true rfl) CF L I0 G0 hRm hl.1 dL_act_588 ⟨by omega, by omega⟩ (fun r_1 H locs hq_1 G_1 => ?_)
  refine lv_iload hx hb dL_act_591 (lv_at hl 2 rfl) ?_
  refine lv_icmp_ne (tgt := 600) hx hb dL_act_593 (by decide) (fun c_2 => ?_) (fun c_2 => ?_)
  · exact absurd (by rw [hq_1, hcst]) c_2
  · refine lv_iconst (v := 1) hx hb dL_act_596 (by decide) ?_
    refine lv_goto (tgt := 601) hx hb dL_act_597 (by decide) ?_
    exact ac_ret hlT CF hr hlocks L I0 G_1 (by omega) (by omega) dL_act_601
set_option maxHeartbeats 4000000 in
set_option maxRecDepth 100000 in
theorem ac_602 (hlT : l.stackTraces = false) (CF : CallFix p m c cL_act 10 s args (c0 :: TB) RL) (hr : meth.sig.returnType = some .boolean) (hlocks : meth.locks = false) (L : LF dC dI cI cV A s) (I0 : IV NP NJ NV w vv R) (G0 : GS dC dI cI cV P F G T za zb fa ia vd ra rb xa ya xb yb A s [] w NP NJ NV ck vv R H locs) (hRm : 9 ≤ R0.frames ∧ 250 ≤ R0.locals) (hRc : 3 ≤ R0.cells ∧ 18 ≤ R0.slots) {cst : Int32} (hcst : cst = costF NP NJ NV w ck vv R) (hcn : cells ≤ 3) (hsl : slots ≤ 18) {q9 : Nat} (hl : lv_has ls 10 [(0, .ref P), (4, .int cst)]) : W p l e R0 s m args below meth c H locs cells slots (QA dC dI cI cV P F G T za zb fa ia vd ra rb xa ya xb yb A s args below) (F0 m 602 ls [.ref q9]) := by
  obtain ⟨hx, hb, hml, hown, hts⟩ := id CF
  have hXs : XW s := L.2.2.1
  refine lv_astore (lv' := [(5, .ref q9), (0, .ref P), (4, .int cst)]) hx hb dL_act_602 hl (by decide) rfl (fun ls hl => ?_)
  refine lv_aload_n hx hb dL_act_604 rfl (lv_at hl 1 rfl) ?_
  refine g_cost hlT (Nat.le_of_ble_eq_true rfl) CF L I0 G0 hRm hl.1 dL_act_605 ⟨by omega, by omega⟩ (fun r_1 H locs hq_1 G_1 => ?_)
  refine lv_iload hx hb dL_act_608 (lv_at hl 2 rfl) ?_
  refine lv_icmp_ne (tgt := 617) hx hb dL_act_610 (by decide) (fun c_2 => ?_) (fun c_2 => ?_)
  · exact absurd (by rw [hq_1, hcst]) c_2
  · refine lv_iconst (v := 1) hx hb dL_act_613 (by decide) ?_
    refine lv_goto (tgt := 618) hx hb dL_act_614 (by decide) ?_
    exact ac_ret hlT CF hr hlocks L I0 G_1 (by omega) (by omega) dL_act_618
set_option maxHeartbeats 4000000 in
set_option maxRecDepth 100000 in
theorem ac_120 (hlT : l.stackTraces = false) (CF : CallFix p m c cL_act 10 s args (c0 :: TB) RL) (hr : meth.sig.returnType = some .boolean) (hlocks : meth.locks = false) (ht9 : c.exceptionTable.toList = tableOf [(37, 225, 568, 103), (226, 298, 568, 103), (299, 361, 568, 103), (362, 468, 568, 103), (469, 498, 568, 103), (499, 549, 568, 103), (550, 565, 568, 103), (37, 225, 585, 105), (226, 298, 585, 105), (299, 361, 585, 105), (362, 468, 585, 105), (469, 498, 585, 105), (499, 549, 585, 105), (550, 565, 585, 105), (37, 225, 602, 107), (226, 298, 602, 107), (299, 361, 602, 107), (362, 468, 602, 107), (469, 498, 602, 107), (499, 549, 602, 107), (550, 565, 602, 107)]) (hC : CW s) (L : LF dC dI cI cV A s) (I0 : IV NP NJ NV w vv R) (G0 : GS dC dI cI cV P F G T za zb fa ia vd ra rb xa ya xb yb A s [] w NP NJ NV ck vv R H locs) (hRm : 9 ≤ R0.frames ∧ 250 ≤ R0.locals) (hRc : 3 ≤ R0.cells ∧ 18 ≤ R0.slots) {x cst : Int32} {j v : Nat} (hcst : cst = costF NP NJ NV w ck vv R) (hj : j < max 1 NJ) (hv : v < max 1 NV) (hl : lv_has ls 10 [(4, .int cst), (3, .int (nI v)), (2, .int (nI j)), (1, .int x), (0, .ref P)]) : W p l e R0 s m args below meth c H locs 0 0 (QA dC dI cI cV P F G T za zb fa ia vd ra rb xa ya xb yb A s args below) (F0 m 120 ls []) := by
  obtain ⟨hx, hb, hml, hown, hts⟩ := id CF
  have hXs : XW s := L.2.2.1
  refine lv_aload_n hx hb dL_act_120 rfl (lv_at hl 4 rfl) ?_
  refine lv_iload_n hx hb dL_act_121 rfl (lv_at hl 3 rfl) ?_
  refine lv_iconst (v := 4) hx hb dL_act_122 (by decide) ?_
  refine lv_ishr hx hb dL_act_123 ?_
  refine lv_bipush (v := 61) hx hb dL_act_124 (by decide) ?_
  refine k_Ti [.int (x >>> (4 &&& 31)), .int (nI 61)] ⟨hx, hb, hml, hown, hts⟩ (c_L_below l (x >>> (4 &&& 31)) 61 (by omega) (by omega)) q_ml_L_40 q_st_L_below q_ini_L q_co_L_below (n := 2) (by decide +kernel) rfl ⟨rfl, rfl⟩ ⟨Nat.le_trans (Nat.le_of_ble_eq_true rfl) hRm.1, Nat.le_trans (Nat.le_of_ble_eq_true rfl) hRm.2⟩ hl.1 rfl (Nat.le_of_ble_eq_true rfl) dL_act_126 ⟨by omega, by omega⟩ (fun rk_1 hk_1 => ?_)
  obtain ⟨k_1, hk_1, rfl⟩ := hk_1
  refine lv_iload_n hx hb dL_act_129 rfl (lv_at hl 3 rfl) ?_
  refine lv_bipush (v := 9) hx hb dL_act_130 (by decide) ?_
  refine lv_ishr hx hb dL_act_132 ?_
  refine lv_bipush (v := 61) hx hb dL_act_133 (by decide) ?_
  refine k_Ti [.int (x >>> (9 &&& 31)), .int (nI 61)] ⟨hx, hb, hml, hown, hts⟩ (c_L_below l (x >>> (9 &&& 31)) 61 (by omega) (by omega)) q_ml_L_40 q_st_L_below q_ini_L q_co_L_below (n := 2) (by decide +kernel) rfl ⟨rfl, rfl⟩ ⟨Nat.le_trans (Nat.le_of_ble_eq_true rfl) hRm.1, Nat.le_trans (Nat.le_of_ble_eq_true rfl) hRm.2⟩ hl.1 rfl (Nat.le_of_ble_eq_true rfl) dL_act_135 ⟨by omega, by omega⟩ (fun rk_2 hk_2 => ?_)
  obtain ⟨k_2, hk_2, rfl⟩ := hk_2
  refine g_addPlace hlT (Nat.le_of_ble_eq_true rfl) CF L I0 G0 hRm hl.1 dL_act_138 ⟨by omega, by omega⟩ (fun E ce q9 H locs hE G hc1 hc2 hc3 => ?_) (fun r_3 a_3 b_3 H locs I_3 G_3 => ?_)
  · rcases hE with rfl | rfl | rfl
    · refine vx_catch (name := "java/lang/IndexOutOfBoundsException") hown (tableOf []) _ _ (ht9.trans rfl) (fun _ h => absurd h List.not_mem_nil) rfl (by decide) (hts _ (tb_in q_cl_L_103)) (va_Nw.use rfl hXs.1.2.2.2.2.2) hc1 hc2 hc3 ?_
      exact ac_568 hlT CF hr hlocks L I0 G hRm hRc hcst (by omega) (by omega) (lv_sub hl [4, 0] rfl)
    · refine vx_catch (name := "java/lang/IllegalArgumentException") hown (tableOf [(37, 225, 568, 103), (226, 298, 568, 103), (299, 361, 568, 103), (362, 468, 568, 103), (469, 498, 568, 103), (499, 549, 568, 103), (550, 565, 568, 103)]) _ _ (ht9.trans rfl) (List.forall_mem_cons.mpr ⟨Or.inr ⟨by decide, "java/lang/IndexOutOfBoundsException", hts _ (tb_in q_cl_L_103), hC.1⟩, List.forall_mem_cons.mpr ⟨Or.inl (by decide), List.forall_mem_cons.mpr ⟨Or.inl (by decide), List.forall_mem_cons.mpr ⟨Or.inl (by decide), List.forall_mem_cons.mpr ⟨Or.inl (by decide), List.forall_mem_cons.mpr ⟨Or.inl (by decide), List.forall_mem_cons.mpr ⟨Or.inl (by decide), fun _ h => absurd h List.not_mem_nil⟩⟩⟩⟩⟩⟩⟩) rfl (by decide) (hts _ (tb_in q_cl_L_105)) (va_Nw.use rfl hXs.1.2.2.2.1) hc1 hc2 hc3 ?_
      exact ac_585 hlT CF hr hlocks L I0 G hRm hRc hcst (by omega) (by omega) (lv_sub hl [4, 0] rfl)
    · refine vx_catch (name := "java/lang/IllegalStateException") hown (tableOf [(37, 225, 568, 103), (226, 298, 568, 103), (299, 361, 568, 103), (362, 468, 568, 103), (469, 498, 568, 103), (499, 549, 568, 103), (550, 565, 568, 103), (37, 225, 585, 105), (226, 298, 585, 105), (299, 361, 585, 105), (362, 468, 585, 105), (469, 498, 585, 105), (499, 549, 585, 105), (550, 565, 585, 105)]) _ _ (ht9.trans rfl) (List.forall_mem_cons.mpr ⟨Or.inr ⟨by decide, "java/lang/IndexOutOfBoundsException", hts _ (tb_in q_cl_L_103), hC.2.1⟩, List.forall_mem_cons.mpr ⟨Or.inl (by decide), List.forall_mem_cons.mpr ⟨Or.inl (by decide), List.forall_mem_cons.mpr ⟨Or.inl (by decide), List.forall_mem_cons.mpr ⟨Or.inl (by decide), List.forall_mem_cons.mpr ⟨Or.inl (by decide), List.forall_mem_cons.mpr ⟨Or.inl (by decide), List.forall_mem_cons.mpr ⟨Or.inr ⟨by decide, "java/lang/IllegalArgumentException", hts _ (tb_in q_cl_L_105), hC.2.2⟩, List.forall_mem_cons.mpr ⟨Or.inl (by decide), List.forall_mem_cons.mpr ⟨Or.inl (by decide), List.forall_mem_cons.mpr ⟨Or.inl (by decide), List.forall_mem_cons.mpr ⟨Or.inl (by decide), List.forall_mem_cons.mpr ⟨Or.inl (by decide), List.forall_mem_cons.mpr ⟨Or.inl (by decide), fun _ h => absurd h List.not_mem_nil⟩⟩⟩⟩⟩⟩⟩⟩⟩⟩⟩⟩⟩⟩) rfl (by decide) (hts _ (tb_in q_cl_L_107)) (va_Nw.use rfl hXs.1.2.2.2.2.1) hc1 hc2 hc3 ?_
      exact ac_602 hlT CF hr hlocks L I0 G hRm hRc hcst (by omega) (by omega) (lv_sub hl [4, 0] rfl)
  refine lv_pop hx hb dL_act_141 rfl ?_
  refine lv_goto (tgt := 565) hx hb dL_act_142 (by decide) ?_
  exact ac_565 hlT CF hr hlocks L I_3 G_3 (by omega) (by omega)
set_option maxHeartbeats 4000000 in
set_option maxRecDepth 100000 in
theorem ac_145 (hlT : l.stackTraces = false) (CF : CallFix p m c cL_act 10 s args (c0 :: TB) RL) (hr : meth.sig.returnType = some .boolean) (hlocks : meth.locks = false) (ht9 : c.exceptionTable.toList = tableOf [(37, 225, 568, 103), (226, 298, 568, 103), (299, 361, 568, 103), (362, 468, 568, 103), (469, 498, 568, 103), (499, 549, 568, 103), (550, 565, 568, 103), (37, 225, 585, 105), (226, 298, 585, 105), (299, 361, 585, 105), (362, 468, 585, 105), (469, 498, 585, 105), (499, 549, 585, 105), (550, 565, 585, 105), (37, 225, 602, 107), (226, 298, 602, 107), (299, 361, 602, 107), (362, 468, 602, 107), (469, 498, 602, 107), (499, 549, 602, 107), (550, 565, 602, 107)]) (hC : CW s) (L : LF dC dI cI cV A s) (I0 : IV NP NJ NV w vv R) (G0 : GS dC dI cI cV P F G T za zb fa ia vd ra rb xa ya xb yb A s [] w NP NJ NV ck vv R H locs) (hRm : 9 ≤ R0.frames ∧ 250 ≤ R0.locals) (hRc : 3 ≤ R0.cells ∧ 18 ≤ R0.slots) {x cst : Int32} {j v : Nat} (hcst : cst = costF NP NJ NV w ck vv R) (hj : j < max 1 NJ) (hv : v < max 1 NV) (hl : lv_has ls 10 [(4, .int cst), (3, .int (nI v)), (2, .int (nI j)), (1, .int x), (0, .ref P)]) : W p l e R0 s m args below meth c H locs 0 0 (QA dC dI cI cV P F G T za zb fa ia vd ra rb xa ya xb yb A s args below) (F0 m 145 ls []) := by
  obtain ⟨hx, hb, hml, hown, hts⟩ := id CF
  have hXs : XW s := L.2.2.1
  refine lv_aload_n hx hb dL_act_145 rfl (lv_at hl 4 rfl) ?_
  refine lv_iload_n hx hb dL_act_146 rfl (lv_at hl 3 rfl) ?_
  refine lv_iconst (v := 4) hx hb dL_act_147 (by decide) ?_
  refine lv_ishr hx hb dL_act_148 ?_
  refine lv_bipush (v := 12) hx hb dL_act_149 (by decide) ?_
  refine k_Ti [.int (x >>> (4 &&& 31)), .int (nI 12)] ⟨hx, hb, hml, hown, hts⟩ (c_L_below l (x >>> (4 &&& 31)) 12 (by omega) (by omega)) q_ml_L_40 q_st_L_below q_ini_L q_co_L_below (n := 2) (by decide +kernel) rfl ⟨rfl, rfl⟩ ⟨Nat.le_trans (Nat.le_of_ble_eq_true rfl) hRm.1, Nat.le_trans (Nat.le_of_ble_eq_true rfl) hRm.2⟩ hl.1 rfl (Nat.le_of_ble_eq_true rfl) dL_act_151 ⟨by omega, by omega⟩ (fun rk_1 hk_1 => ?_)
  obtain ⟨k_1, hk_1, rfl⟩ := hk_1
  refine lv_iconst (v := 1) hx hb dL_act_154 (by decide) ?_
  refine lv_iload_n hx hb dL_act_155 rfl (lv_at hl 3 rfl) ?_
  refine lv_bipush (v := 6) hx hb dL_act_156 (by decide) ?_
  refine lv_ishr hx hb dL_act_158 ?_
  refine lv_bipush (v := 30) hx hb dL_act_159 (by decide) ?_
  refine k_Ti [.int (x >>> (6 &&& 31)), .int (nI 30)] ⟨hx, hb, hml, hown, hts⟩ (c_L_below l (x >>> (6 &&& 31)) 30 (by omega) (by omega)) q_ml_L_40 q_st_L_below q_ini_L q_co_L_below (n := 2) (by decide +kernel) rfl ⟨rfl, rfl⟩ ⟨Nat.le_trans (Nat.le_of_ble_eq_true rfl) hRm.1, Nat.le_trans (Nat.le_of_ble_eq_true rfl) hRm.2⟩ hl.1 rfl (Nat.le_of_ble_eq_true rfl) dL_act_161 ⟨by omega, by omega⟩ (fun rk_2 hk_2 => ?_)
  obtain ⟨k_2, hk_2, rfl⟩ := hk_2
  refine lv_iadd hx hb dL_act_164 ?_
  refine lv_iload_n hx hb dL_act_165 rfl (lv_at hl 3 rfl) ?_
  refine lv_bipush (v := 8) hx hb dL_act_166 (by decide) ?_
  refine lv_ishr hx hb dL_act_168 ?_
  refine lv_sipush (v := 200) hx hb dL_act_169 (by decide) ?_
  refine k_Ti [.int (x >>> (8 &&& 31)), .int (nI 200)] ⟨hx, hb, hml, hown, hts⟩ (c_L_below l (x >>> (8 &&& 31)) 200 (by omega) (by omega)) q_ml_L_40 q_st_L_below q_ini_L q_co_L_below (n := 2) (by decide +kernel) rfl ⟨rfl, rfl⟩ ⟨Nat.le_trans (Nat.le_of_ble_eq_true rfl) hRm.1, Nat.le_trans (Nat.le_of_ble_eq_true rfl) hRm.2⟩ hl.1 rfl (Nat.le_of_ble_eq_true rfl) dL_act_172 ⟨by omega, by omega⟩ (fun rk_3 hk_3 => ?_)
  obtain ⟨k_3, hk_3, rfl⟩ := hk_3
  refine lv_sipush (v := 300) hx hb dL_act_175 (by decide) ?_
  refine lv_iload_n hx hb dL_act_178 rfl (lv_at hl 3 rfl) ?_
  refine lv_iconst (v := 5) hx hb dL_act_179 (by decide) ?_
  refine lv_ishr hx hb dL_act_180 ?_
  refine lv_sipush (v := 1141) hx hb dL_act_181 (by decide) ?_
  refine k_Ti [.int (x >>> (5 &&& 31)), .int (nI 1141)] ⟨hx, hb, hml, hown, hts⟩ (c_L_below l (x >>> (5 &&& 31)) 1141 (by omega) (by omega)) q_ml_L_40 q_st_L_below q_ini_L q_co_L_below (n := 2) (by decide +kernel) rfl ⟨rfl, rfl⟩ ⟨Nat.le_trans (Nat.le_of_ble_eq_true rfl) hRm.1, Nat.le_trans (Nat.le_of_ble_eq_true rfl) hRm.2⟩ hl.1 rfl (Nat.le_of_ble_eq_true rfl) dL_act_184 ⟨by omega, by omega⟩ (fun rk_4 hk_4 => ?_)
  obtain ⟨k_4, hk_4, rfl⟩ := hk_4
  refine lv_iadd hx hb dL_act_187 ?_
  refine lv_iconst (v := 1) hx hb dL_act_188 (by decide) ?_
  refine lv_iload_n hx hb dL_act_189 rfl (lv_at hl 3 rfl) ?_
  refine lv_bipush (v := 9) hx hb dL_act_190 (by decide) ?_
  refine lv_ishr hx hb dL_act_192 ?_
  refine lv_bipush (v := 9) hx hb dL_act_193 (by decide) ?_
  refine k_Ti [.int (x >>> (9 &&& 31)), .int (nI 9)] ⟨hx, hb, hml, hown, hts⟩ (c_L_below l (x >>> (9 &&& 31)) 9 (by omega) (by omega)) q_ml_L_40 q_st_L_below q_ini_L q_co_L_below (n := 2) (by decide +kernel) rfl ⟨rfl, rfl⟩ ⟨Nat.le_trans (Nat.le_of_ble_eq_true rfl) hRm.1, Nat.le_trans (Nat.le_of_ble_eq_true rfl) hRm.2⟩ hl.1 rfl (Nat.le_of_ble_eq_true rfl) dL_act_195 ⟨by omega, by omega⟩ (fun rk_5 hk_5 => ?_)
  obtain ⟨k_5, hk_5, rfl⟩ := hk_5
  refine lv_iadd hx hb dL_act_198 ?_
  refine lv_iload_n hx hb dL_act_199 rfl (lv_at hl 3 rfl) ?_
  refine lv_bipush (v := 7) hx hb dL_act_200 (by decide) ?_
  refine lv_ishr hx hb dL_act_202 ?_
  refine lv_sipush (v := 201) hx hb dL_act_203 (by decide) ?_
  refine k_Ti [.int (x >>> (7 &&& 31)), .int (nI 201)] ⟨hx, hb, hml, hown, hts⟩ (c_L_below l (x >>> (7 &&& 31)) 201 (by omega) (by omega)) q_ml_L_40 q_st_L_below q_ini_L q_co_L_below (n := 2) (by decide +kernel) rfl ⟨rfl, rfl⟩ ⟨Nat.le_trans (Nat.le_of_ble_eq_true rfl) hRm.1, Nat.le_trans (Nat.le_of_ble_eq_true rfl) hRm.2⟩ hl.1 rfl (Nat.le_of_ble_eq_true rfl) dL_act_206 ⟨by omega, by omega⟩ (fun rk_6 hk_6 => ?_)
  obtain ⟨k_6, hk_6, rfl⟩ := hk_6
  refine g_addVehicle hlT (Nat.le_of_ble_eq_true rfl) CF L I0 G0 hRm hl.1 dL_act_209 ⟨by omega, by omega⟩ (fun E ce q9 H locs hE G hc1 hc2 hc3 => ?_) (fun r_7 a_7 b_7 H locs I_7 hq_7 G_7 => ?_)
  · rcases hE with rfl | rfl | rfl
    · refine vx_catch (name := "java/lang/IndexOutOfBoundsException") hown (tableOf []) _ _ (ht9.trans rfl) (fun _ h => absurd h List.not_mem_nil) rfl (by decide) (hts _ (tb_in q_cl_L_103)) (va_Nw.use rfl hXs.1.2.2.2.2.2) hc1 hc2 hc3 ?_
      exact ac_568 hlT CF hr hlocks L I0 G hRm hRc hcst (by omega) (by omega) (lv_sub hl [4, 0] rfl)
    · refine vx_catch (name := "java/lang/IllegalArgumentException") hown (tableOf [(37, 225, 568, 103), (226, 298, 568, 103), (299, 361, 568, 103), (362, 468, 568, 103), (469, 498, 568, 103), (499, 549, 568, 103), (550, 565, 568, 103)]) _ _ (ht9.trans rfl) (List.forall_mem_cons.mpr ⟨Or.inr ⟨by decide, "java/lang/IndexOutOfBoundsException", hts _ (tb_in q_cl_L_103), hC.1⟩, List.forall_mem_cons.mpr ⟨Or.inl (by decide), List.forall_mem_cons.mpr ⟨Or.inl (by decide), List.forall_mem_cons.mpr ⟨Or.inl (by decide), List.forall_mem_cons.mpr ⟨Or.inl (by decide), List.forall_mem_cons.mpr ⟨Or.inl (by decide), List.forall_mem_cons.mpr ⟨Or.inl (by decide), fun _ h => absurd h List.not_mem_nil⟩⟩⟩⟩⟩⟩⟩) rfl (by decide) (hts _ (tb_in q_cl_L_105)) (va_Nw.use rfl hXs.1.2.2.2.1) hc1 hc2 hc3 ?_
      exact ac_585 hlT CF hr hlocks L I0 G hRm hRc hcst (by omega) (by omega) (lv_sub hl [4, 0] rfl)
    · refine vx_catch (name := "java/lang/IllegalStateException") hown (tableOf [(37, 225, 568, 103), (226, 298, 568, 103), (299, 361, 568, 103), (362, 468, 568, 103), (469, 498, 568, 103), (499, 549, 568, 103), (550, 565, 568, 103), (37, 225, 585, 105), (226, 298, 585, 105), (299, 361, 585, 105), (362, 468, 585, 105), (469, 498, 585, 105), (499, 549, 585, 105), (550, 565, 585, 105)]) _ _ (ht9.trans rfl) (List.forall_mem_cons.mpr ⟨Or.inr ⟨by decide, "java/lang/IndexOutOfBoundsException", hts _ (tb_in q_cl_L_103), hC.2.1⟩, List.forall_mem_cons.mpr ⟨Or.inl (by decide), List.forall_mem_cons.mpr ⟨Or.inl (by decide), List.forall_mem_cons.mpr ⟨Or.inl (by decide), List.forall_mem_cons.mpr ⟨Or.inl (by decide), List.forall_mem_cons.mpr ⟨Or.inl (by decide), List.forall_mem_cons.mpr ⟨Or.inl (by decide), List.forall_mem_cons.mpr ⟨Or.inr ⟨by decide, "java/lang/IllegalArgumentException", hts _ (tb_in q_cl_L_105), hC.2.2⟩, List.forall_mem_cons.mpr ⟨Or.inl (by decide), List.forall_mem_cons.mpr ⟨Or.inl (by decide), List.forall_mem_cons.mpr ⟨Or.inl (by decide), List.forall_mem_cons.mpr ⟨Or.inl (by decide), List.forall_mem_cons.mpr ⟨Or.inl (by decide), List.forall_mem_cons.mpr ⟨Or.inl (by decide), fun _ h => absurd h List.not_mem_nil⟩⟩⟩⟩⟩⟩⟩⟩⟩⟩⟩⟩⟩⟩) rfl (by decide) (hts _ (tb_in q_cl_L_107)) (va_Nw.use rfl hXs.1.2.2.2.2.1) hc1 hc2 hc3 ?_
      exact ac_602 hlT CF hr hlocks L I0 G hRm hRc hcst (by omega) (by omega) (lv_sub hl [4, 0] rfl)
  refine lv_if_lt (tgt := 565) hx hb dL_act_212 (by decide) (fun c_8 => ?_) (fun c_8 => ?_)
  · exact ac_565 hlT CF hr hlocks L I_7 G_7 (by omega) (by omega)
  · refine lv_aload_n hx hb dL_act_215 rfl (lv_at hl 4 rfl) ?_
    refine g_cost hlT (Nat.le_of_ble_eq_true rfl) CF L I_7 G_7 hRm hl.1 dL_act_216 ⟨by omega, by omega⟩ (fun r_9 H locs hq_9 G_9 => ?_)
    refine lv_iload hx hb dL_act_219 (lv_at hl 0 rfl) ?_
    refine lv_icmp_eq (tgt := 565) hx hb dL_act_221 (by decide) (fun c_10 => ?_) (fun c_10 => ?_)
    · exact ac_565 hlT CF hr hlocks L I_7 G_9 (by omega) (by omega)
    · exact absurd (by rw [hq_9, hq_7, hcst]) c_10
set_option maxHeartbeats 4000000 in
set_option maxRecDepth 100000 in
theorem ac_226 (hlT : l.stackTraces = false) (CF : CallFix p m c cL_act 10 s args (c0 :: TB) RL) (hr : meth.sig.returnType = some .boolean) (hlocks : meth.locks = false) (ht9 : c.exceptionTable.toList = tableOf [(37, 225, 568, 103), (226, 298, 568, 103), (299, 361, 568, 103), (362, 468, 568, 103), (469, 498, 568, 103), (499, 549, 568, 103), (550, 565, 568, 103), (37, 225, 585, 105), (226, 298, 585, 105), (299, 361, 585, 105), (362, 468, 585, 105), (469, 498, 585, 105), (499, 549, 585, 105), (550, 565, 585, 105), (37, 225, 602, 107), (226, 298, 602, 107), (299, 361, 602, 107), (362, 468, 602, 107), (469, 498, 602, 107), (499, 549, 602, 107), (550, 565, 602, 107)]) (hC : CW s) (L : LF dC dI cI cV A s) (I0 : IV NP NJ NV w vv R) (G0 : GS dC dI cI cV P F G T za zb fa ia vd ra rb xa ya xb yb A s [] w NP NJ NV ck vv R H locs) (hRm : 9 ≤ R0.frames ∧ 250 ≤ R0.locals) (hRc : 3 ≤ R0.cells ∧ 18 ≤ R0.slots) {x cst : Int32} {j v : Nat} (hcst : cst = costF NP NJ NV w ck vv R) (hj : j < max 1 NJ) (hv : v < max 1 NV) (hl : lv_has ls 10 [(4, .int cst), (3, .int (nI v)), (2, .int (nI j)), (1, .int x), (0, .ref P)]) : W p l e R0 s m args below meth c H locs 0 0 (QA dC dI cI cV P F G T za zb fa ia vd ra rb xa ya xb yb A s args below) (F0 m 226 ls []) := by
  obtain ⟨hx, hb, hml, hown, hts⟩ := id CF
  have hXs : XW s := L.2.2.1
  refine lv_iload_n hx hb dL_act_226 rfl (lv_at hl 3 rfl) ?_
  refine lv_bipush (v := 6) hx hb dL_act_227 (by decide) ?_
  refine lv_ishr hx hb dL_act_229 ?_
  refine lv_sipush (v := 1000) hx hb dL_act_230 (by decide) ?_
  refine k_Ti [.int (x >>> (6 &&& 31)), .int (nI 1000)] ⟨hx, hb, hml, hown, hts⟩ (c_L_below l (x >>> (6 &&& 31)) 1000 (by omega) (by omega)) q_ml_L_40 q_st_L_below q_ini_L q_co_L_below (n := 2) (by decide +kernel) rfl ⟨rfl, rfl⟩ ⟨Nat.le_trans (Nat.le_of_ble_eq_true rfl) hRm.1, Nat.le_trans (Nat.le_of_ble_eq_true rfl) hRm.2⟩ hl.1 rfl (Nat.le_of_ble_eq_true rfl) dL_act_233 ⟨by omega, by omega⟩ (fun rk_1 hk_1 => ?_)
  obtain ⟨k_1, hk_1, rfl⟩ := hk_1
  refine lv_istore (lv' := [(5, .int (nI k_1)), (4, .int cst), (3, .int (nI v)), (2, .int (nI j)), (1, .int x), (0, .ref P)]) hx hb dL_act_236 hl (by decide) rfl (fun ls hl => ?_)
  refine lv_aload_n hx hb dL_act_238 rfl (lv_at hl 5 rfl) ?_
  refine lv_iload_n hx hb dL_act_239 rfl (lv_at hl 4 rfl) ?_
  refine lv_iconst (v := 4) hx hb dL_act_240 (by decide) ?_
  refine lv_ishr hx hb dL_act_241 ?_
  refine lv_bipush (v := 12) hx hb dL_act_242 (by decide) ?_
  refine k_Ti [.int (x >>> (4 &&& 31)), .int (nI 12)] ⟨hx, hb, hml, hown, hts⟩ (c_L_below l (x >>> (4 &&& 31)) 12 (by omega) (by omega)) q_ml_L_40 q_st_L_below q_ini_L q_co_L_below (n := 2) (by decide +kernel) rfl ⟨rfl, rfl⟩ ⟨Nat.le_trans (Nat.le_of_ble_eq_true rfl) hRm.1, Nat.le_trans (Nat.le_of_ble_eq_true rfl) hRm.2⟩ hl.1 rfl (Nat.le_of_ble_eq_true rfl) dL_act_244 ⟨by omega, by omega⟩ (fun rk_2 hk_2 => ?_)
  obtain ⟨k_2, hk_2, rfl⟩ := hk_2
  refine lv_iload_n hx hb dL_act_247 rfl (lv_at hl 4 rfl) ?_
  refine lv_bipush (v := 7) hx hb dL_act_248 (by decide) ?_
  refine lv_ishr hx hb dL_act_250 ?_
  refine lv_bipush (v := 12) hx hb dL_act_251 (by decide) ?_
  refine k_Ti [.int (x >>> (7 &&& 31)), .int (nI 12)] ⟨hx, hb, hml, hown, hts⟩ (c_L_below l (x >>> (7 &&& 31)) 12 (by omega) (by omega)) q_ml_L_40 q_st_L_below q_ini_L q_co_L_below (n := 2) (by decide +kernel) rfl ⟨rfl, rfl⟩ ⟨Nat.le_trans (Nat.le_of_ble_eq_true rfl) hRm.1, Nat.le_trans (Nat.le_of_ble_eq_true rfl) hRm.2⟩ hl.1 rfl (Nat.le_of_ble_eq_true rfl) dL_act_253 ⟨by omega, by omega⟩ (fun rk_3 hk_3 => ?_)
  obtain ⟨k_3, hk_3, rfl⟩ := hk_3
  refine lv_iconst (v := 1) hx hb dL_act_256 (by decide) ?_
  refine lv_iload_n hx hb dL_act_257 rfl (lv_at hl 4 rfl) ?_
  refine lv_bipush (v := 9) hx hb dL_act_258 (by decide) ?_
  refine lv_ishr hx hb dL_act_260 ?_
  refine lv_bipush (v := 20) hx hb dL_act_261 (by decide) ?_
  refine k_Ti [.int (x >>> (9 &&& 31)), .int (nI 20)] ⟨hx, hb, hml, hown, hts⟩ (c_L_below l (x >>> (9 &&& 31)) 20 (by omega) (by omega)) q_ml_L_40 q_st_L_below q_ini_L q_co_L_below (n := 2) (by decide +kernel) rfl ⟨rfl, rfl⟩ ⟨Nat.le_trans (Nat.le_of_ble_eq_true rfl) hRm.1, Nat.le_trans (Nat.le_of_ble_eq_true rfl) hRm.2⟩ hl.1 rfl (Nat.le_of_ble_eq_true rfl) dL_act_263 ⟨by omega, by omega⟩ (fun rk_4 hk_4 => ?_)
  obtain ⟨k_4, hk_4, rfl⟩ := hk_4
  refine lv_iadd hx hb dL_act_266 ?_
  refine lv_iload_n hx hb dL_act_267 rfl (lv_at hl 4 rfl) ?_
  refine lv_iconst (v := 5) hx hb dL_act_268 (by decide) ?_
  refine lv_ishr hx hb dL_act_269 ?_
  refine lv_bipush (v := 31) hx hb dL_act_270 (by decide) ?_
  refine k_Ti [.int (x >>> (5 &&& 31)), .int (nI 31)] ⟨hx, hb, hml, hown, hts⟩ (c_L_below l (x >>> (5 &&& 31)) 31 (by omega) (by omega)) q_ml_L_40 q_st_L_below q_ini_L q_co_L_below (n := 2) (by decide +kernel) rfl ⟨rfl, rfl⟩ ⟨Nat.le_trans (Nat.le_of_ble_eq_true rfl) hRm.1, Nat.le_trans (Nat.le_of_ble_eq_true rfl) hRm.2⟩ hl.1 rfl (Nat.le_of_ble_eq_true rfl) dL_act_272 ⟨by omega, by omega⟩ (fun rk_5 hk_5 => ?_)
  obtain ⟨k_5, hk_5, rfl⟩ := hk_5
  refine lv_iload hx hb dL_act_275 (lv_at hl 0 rfl) ?_
  refine g_addJob hlT (Nat.le_of_ble_eq_true rfl) CF L I0 G0 hRm hl.1 dL_act_277 ⟨by omega, by omega⟩ (fun E ce q9 H locs hE G hc1 hc2 hc3 => ?_) (fun r_6 a_6 b_6 H locs I_6 hq_6 G_6 => ?_)
  · rcases hE with rfl | rfl | rfl
    · refine vx_catch (name := "java/lang/IndexOutOfBoundsException") hown (tableOf [(37, 225, 568, 103)]) _ _ (ht9.trans rfl) (List.forall_mem_cons.mpr ⟨Or.inl (by decide), fun _ h => absurd h List.not_mem_nil⟩) rfl (by decide) (hts _ (tb_in q_cl_L_103)) (va_Nw.use rfl hXs.1.2.2.2.2.2) hc1 hc2 hc3 ?_
      exact ac_568 hlT CF hr hlocks L I0 G hRm hRc hcst (by omega) (by omega) (lv_sub hl [5, 1] rfl)
    · refine vx_catch (name := "java/lang/IllegalArgumentException") hown (tableOf [(37, 225, 568, 103), (226, 298, 568, 103), (299, 361, 568, 103), (362, 468, 568, 103), (469, 498, 568, 103), (499, 549, 568, 103), (550, 565, 568, 103), (37, 225, 585, 105)]) _ _ (ht9.trans rfl) (List.forall_mem_cons.mpr ⟨Or.inl (by decide), List.forall_mem_cons.mpr ⟨Or.inr ⟨by decide, "java/lang/IndexOutOfBoundsException", hts _ (tb_in q_cl_L_103), hC.1⟩, List.forall_mem_cons.mpr ⟨Or.inl (by decide), List.forall_mem_cons.mpr ⟨Or.inl (by decide), List.forall_mem_cons.mpr ⟨Or.inl (by decide), List.forall_mem_cons.mpr ⟨Or.inl (by decide), List.forall_mem_cons.mpr ⟨Or.inl (by decide), List.forall_mem_cons.mpr ⟨Or.inl (by decide), fun _ h => absurd h List.not_mem_nil⟩⟩⟩⟩⟩⟩⟩⟩) rfl (by decide) (hts _ (tb_in q_cl_L_105)) (va_Nw.use rfl hXs.1.2.2.2.1) hc1 hc2 hc3 ?_
      exact ac_585 hlT CF hr hlocks L I0 G hRm hRc hcst (by omega) (by omega) (lv_sub hl [5, 1] rfl)
    · refine vx_catch (name := "java/lang/IllegalStateException") hown (tableOf [(37, 225, 568, 103), (226, 298, 568, 103), (299, 361, 568, 103), (362, 468, 568, 103), (469, 498, 568, 103), (499, 549, 568, 103), (550, 565, 568, 103), (37, 225, 585, 105), (226, 298, 585, 105), (299, 361, 585, 105), (362, 468, 585, 105), (469, 498, 585, 105), (499, 549, 585, 105), (550, 565, 585, 105), (37, 225, 602, 107)]) _ _ (ht9.trans rfl) (List.forall_mem_cons.mpr ⟨Or.inl (by decide), List.forall_mem_cons.mpr ⟨Or.inr ⟨by decide, "java/lang/IndexOutOfBoundsException", hts _ (tb_in q_cl_L_103), hC.2.1⟩, List.forall_mem_cons.mpr ⟨Or.inl (by decide), List.forall_mem_cons.mpr ⟨Or.inl (by decide), List.forall_mem_cons.mpr ⟨Or.inl (by decide), List.forall_mem_cons.mpr ⟨Or.inl (by decide), List.forall_mem_cons.mpr ⟨Or.inl (by decide), List.forall_mem_cons.mpr ⟨Or.inl (by decide), List.forall_mem_cons.mpr ⟨Or.inr ⟨by decide, "java/lang/IllegalArgumentException", hts _ (tb_in q_cl_L_105), hC.2.2⟩, List.forall_mem_cons.mpr ⟨Or.inl (by decide), List.forall_mem_cons.mpr ⟨Or.inl (by decide), List.forall_mem_cons.mpr ⟨Or.inl (by decide), List.forall_mem_cons.mpr ⟨Or.inl (by decide), List.forall_mem_cons.mpr ⟨Or.inl (by decide), List.forall_mem_cons.mpr ⟨Or.inl (by decide), fun _ h => absurd h List.not_mem_nil⟩⟩⟩⟩⟩⟩⟩⟩⟩⟩⟩⟩⟩⟩⟩) rfl (by decide) (hts _ (tb_in q_cl_L_107)) (va_Nw.use rfl hXs.1.2.2.2.2.1) hc1 hc2 hc3 ?_
      exact ac_602 hlT CF hr hlocks L I0 G hRm hRc hcst (by omega) (by omega) (lv_sub hl [5, 1] rfl)
  refine lv_pop hx hb dL_act_280 rfl ?_
  refine lv_aload_n hx hb dL_act_281 rfl (lv_at hl 5 rfl) ?_
  refine g_cost hlT (Nat.le_of_ble_eq_true rfl) CF L I_6 G_6 hRm hl.1 dL_act_282 ⟨by omega, by omega⟩ (fun r_7 H locs hq_7 G_7 => ?_)
  refine lv_iload hx hb dL_act_285 (lv_at hl 1 rfl) ?_
  refine lv_iload hx hb dL_act_287 (lv_at hl 0 rfl) ?_
  refine lv_iadd hx hb dL_act_289 ?_
  refine lv_icmp_ne (tgt := 297) hx hb dL_act_290 (by decide) (fun c_8 => ?_) (fun c_8 => ?_)
  · exact absurd (by rw [hq_7, hq_6, hcst]) c_8
  · refine lv_iconst (v := 1) hx hb dL_act_293 (by decide) ?_
    refine lv_goto (tgt := 298) hx hb dL_act_294 (by decide) ?_
    exact ac_ret hlT CF hr hlocks L I_6 G_7 (by omega) (by omega) dL_act_298
set_option maxHeartbeats 4000000 in
set_option maxRecDepth 100000 in
theorem ac_299 (hlT : l.stackTraces = false) (CF : CallFix p m c cL_act 10 s args (c0 :: TB) RL) (hr : meth.sig.returnType = some .boolean) (hlocks : meth.locks = false) (ht9 : c.exceptionTable.toList = tableOf [(37, 225, 568, 103), (226, 298, 568, 103), (299, 361, 568, 103), (362, 468, 568, 103), (469, 498, 568, 103), (499, 549, 568, 103), (550, 565, 568, 103), (37, 225, 585, 105), (226, 298, 585, 105), (299, 361, 585, 105), (362, 468, 585, 105), (469, 498, 585, 105), (499, 549, 585, 105), (550, 565, 585, 105), (37, 225, 602, 107), (226, 298, 602, 107), (299, 361, 602, 107), (362, 468, 602, 107), (469, 498, 602, 107), (499, 549, 602, 107), (550, 565, 602, 107)]) (hC : CW s) (L : LF dC dI cI cV A s) (I0 : IV NP NJ NV w vv R) (G0 : GS dC dI cI cV P F G T za zb fa ia vd ra rb xa ya xb yb A s [] w NP NJ NV ck vv R H locs) (hRm : 9 ≤ R0.frames ∧ 250 ≤ R0.locals) (hRc : 3 ≤ R0.cells ∧ 18 ≤ R0.slots) {x cst : Int32} {j v : Nat} (hcst : cst = costF NP NJ NV w ck vv R) (hj : j < max 1 NJ) (hv : v < max 1 NV) (hl : lv_has ls 10 [(4, .int cst), (3, .int (nI v)), (2, .int (nI j)), (1, .int x), (0, .ref P)]) : W p l e R0 s m args below meth c H locs 0 0 (QA dC dI cI cV P F G T za zb fa ia vd ra rb xa ya xb yb A s args below) (F0 m 299 ls []) := by
  obtain ⟨hx, hb, hml, hown, hts⟩ := id CF
  have hXs : XW s := L.2.2.1
  refine lv_iload_n hx hb dL_act_299 rfl (lv_at hl 3 rfl) ?_
  refine lv_bipush (v := 6) hx hb dL_act_300 (by decide) ?_
  refine lv_ishr hx hb dL_act_302 ?_
  refine lv_sipush (v := 400) hx hb dL_act_303 (by decide) ?_
  refine k_Ti [.int (x >>> (6 &&& 31)), .int (nI 400)] ⟨hx, hb, hml, hown, hts⟩ (c_L_below l (x >>> (6 &&& 31)) 400 (by omega) (by omega)) q_ml_L_40 q_st_L_below q_ini_L q_co_L_below (n := 2) (by decide +kernel) rfl ⟨rfl, rfl⟩ ⟨Nat.le_trans (Nat.le_of_ble_eq_true rfl) hRm.1, Nat.le_trans (Nat.le_of_ble_eq_true rfl) hRm.2⟩ hl.1 rfl (Nat.le_of_ble_eq_true rfl) dL_act_306 ⟨by omega, by omega⟩ (fun rk_1 hk_1 => ?_)
  obtain ⟨k_1, hk_1, rfl⟩ := hk_1
  refine lv_istore (lv' := [(6, .int (nI k_1)), (4, .int cst), (3, .int (nI v)), (2, .int (nI j)), (1, .int x), (0, .ref P)]) hx hb dL_act_309 hl (by decide) rfl (fun ls hl => ?_)
  refine lv_aload_n hx hb dL_act_311 rfl (lv_at hl 5 rfl) ?_
  refine lv_iload_n hx hb dL_act_312 rfl (lv_at hl 3 rfl) ?_
  refine lv_iload_n hx hb dL_act_313 rfl (lv_at hl 4 rfl) ?_
  refine lv_bipush (v := 9) hx hb dL_act_314 (by decide) ?_
  refine lv_ishr hx hb dL_act_316 ?_
  refine lv_iconst (v := 2) hx hb dL_act_317 (by decide) ?_
  refine k_Ti [.int (x >>> (9 &&& 31)), .int (nI 2)] ⟨hx, hb, hml, hown, hts⟩ (c_L_below l (x >>> (9 &&& 31)) 2 (by omega) (by omega)) q_ml_L_40 q_st_L_below q_ini_L q_co_L_below (n := 2) (by decide +kernel) rfl ⟨rfl, rfl⟩ ⟨Nat.le_trans (Nat.le_of_ble_eq_true rfl) hRm.1, Nat.le_trans (Nat.le_of_ble_eq_true rfl) hRm.2⟩ hl.1 rfl (Nat.le_of_ble_eq_true rfl) dL_act_318 ⟨by omega, by omega⟩ (fun rk_2 hk_2 => ?_)
  obtain ⟨k_2, hk_2, rfl⟩ := hk_2
  refine lv_if_ne (tgt := 328) hx hb dL_act_321 (by decide) (fun c_3 => ?_) (fun c_3 => ?_)
  · refine lv_iconst (v := 0) hx hb dL_act_328 (by decide) ?_
    refine lv_iload hx hb dL_act_329 (lv_at hl 0 rfl) ?_
    refine lv_iload hx hb dL_act_331 (lv_at hl 0 rfl) ?_
    refine lv_iload_n hx hb dL_act_333 rfl (lv_at hl 4 rfl) ?_
    refine lv_iconst (v := 3) hx hb dL_act_334 (by decide) ?_
    refine lv_ishr hx hb dL_act_335 ?_
    refine lv_sipush (v := 600) hx hb dL_act_336 (by decide) ?_
    refine k_Ti [.int (x >>> (3 &&& 31)), .int (nI 600)] ⟨hx, hb, hml, hown, hts⟩ (c_L_below l (x >>> (3 &&& 31)) 600 (by omega) (by omega)) q_ml_L_40 q_st_L_below q_ini_L q_co_L_below (n := 2) (by decide +kernel) rfl ⟨rfl, rfl⟩ ⟨Nat.le_trans (Nat.le_of_ble_eq_true rfl) hRm.1, Nat.le_trans (Nat.le_of_ble_eq_true rfl) hRm.2⟩ hl.1 rfl (Nat.le_of_ble_eq_true rfl) dL_act_339 ⟨by omega, by omega⟩ (fun rk_4 hk_4 => ?_)
    obtain ⟨k_4, hk_4, rfl⟩ := hk_4
    refine lv_iadd hx hb dL_act_342 ?_
    refine g_setHours hlT (Nat.le_of_ble_eq_true rfl) CF L I0 G0 hRm hl.1 dL_act_343 ⟨by omega, by omega⟩ (fun E ce q9 H locs hE G hc1 hc2 hc3 => ?_) (fun r_5 a_5 H locs I_5 hq_5 G_5 => ?_)
    · rcases hE with rfl | rfl | rfl
      · refine vx_catch (name := "java/lang/IndexOutOfBoundsException") hown (tableOf [(37, 225, 568, 103), (226, 298, 568, 103)]) _ _ (ht9.trans rfl) (List.forall_mem_cons.mpr ⟨Or.inl (by decide), List.forall_mem_cons.mpr ⟨Or.inl (by decide), fun _ h => absurd h List.not_mem_nil⟩⟩) rfl (by decide) (hts _ (tb_in q_cl_L_103)) (va_Nw.use rfl hXs.1.2.2.2.2.2) hc1 hc2 hc3 ?_
        exact ac_568 hlT CF hr hlocks L I0 G hRm hRc hcst (by omega) (by omega) (lv_sub hl [5, 1] rfl)
      · refine vx_catch (name := "java/lang/IllegalArgumentException") hown (tableOf [(37, 225, 568, 103), (226, 298, 568, 103), (299, 361, 568, 103), (362, 468, 568, 103), (469, 498, 568, 103), (499, 549, 568, 103), (550, 565, 568, 103), (37, 225, 585, 105), (226, 298, 585, 105)]) _ _ (ht9.trans rfl) (List.forall_mem_cons.mpr ⟨Or.inl (by decide), List.forall_mem_cons.mpr ⟨Or.inl (by decide), List.forall_mem_cons.mpr ⟨Or.inr ⟨by decide, "java/lang/IndexOutOfBoundsException", hts _ (tb_in q_cl_L_103), hC.1⟩, List.forall_mem_cons.mpr ⟨Or.inl (by decide), List.forall_mem_cons.mpr ⟨Or.inl (by decide), List.forall_mem_cons.mpr ⟨Or.inl (by decide), List.forall_mem_cons.mpr ⟨Or.inl (by decide), List.forall_mem_cons.mpr ⟨Or.inl (by decide), List.forall_mem_cons.mpr ⟨Or.inl (by decide), fun _ h => absurd h List.not_mem_nil⟩⟩⟩⟩⟩⟩⟩⟩⟩) rfl (by decide) (hts _ (tb_in q_cl_L_105)) (va_Nw.use rfl hXs.1.2.2.2.1) hc1 hc2 hc3 ?_
        exact ac_585 hlT CF hr hlocks L I0 G hRm hRc hcst (by omega) (by omega) (lv_sub hl [5, 1] rfl)
      · refine vx_catch (name := "java/lang/IllegalStateException") hown (tableOf [(37, 225, 568, 103), (226, 298, 568, 103), (299, 361, 568, 103), (362, 468, 568, 103), (469, 498, 568, 103), (499, 549, 568, 103), (550, 565, 568, 103), (37, 225, 585, 105), (226, 298, 585, 105), (299, 361, 585, 105), (362, 468, 585, 105), (469, 498, 585, 105), (499, 549, 585, 105), (550, 565, 585, 105), (37, 225, 602, 107), (226, 298, 602, 107)]) _ _ (ht9.trans rfl) (List.forall_mem_cons.mpr ⟨Or.inl (by decide), List.forall_mem_cons.mpr ⟨Or.inl (by decide), List.forall_mem_cons.mpr ⟨Or.inr ⟨by decide, "java/lang/IndexOutOfBoundsException", hts _ (tb_in q_cl_L_103), hC.2.1⟩, List.forall_mem_cons.mpr ⟨Or.inl (by decide), List.forall_mem_cons.mpr ⟨Or.inl (by decide), List.forall_mem_cons.mpr ⟨Or.inl (by decide), List.forall_mem_cons.mpr ⟨Or.inl (by decide), List.forall_mem_cons.mpr ⟨Or.inl (by decide), List.forall_mem_cons.mpr ⟨Or.inl (by decide), List.forall_mem_cons.mpr ⟨Or.inr ⟨by decide, "java/lang/IllegalArgumentException", hts _ (tb_in q_cl_L_105), hC.2.2⟩, List.forall_mem_cons.mpr ⟨Or.inl (by decide), List.forall_mem_cons.mpr ⟨Or.inl (by decide), List.forall_mem_cons.mpr ⟨Or.inl (by decide), List.forall_mem_cons.mpr ⟨Or.inl (by decide), List.forall_mem_cons.mpr ⟨Or.inl (by decide), List.forall_mem_cons.mpr ⟨Or.inl (by decide), fun _ h => absurd h List.not_mem_nil⟩⟩⟩⟩⟩⟩⟩⟩⟩⟩⟩⟩⟩⟩⟩⟩) rfl (by decide) (hts _ (tb_in q_cl_L_107)) (va_Nw.use rfl hXs.1.2.2.2.2.1) hc1 hc2 hc3 ?_
        exact ac_602 hlT CF hr hlocks L I0 G hRm hRc hcst (by omega) (by omega) (lv_sub hl [5, 1] rfl)
    refine lv_pop hx hb dL_act_346 rfl ?_
    refine lv_aload_n hx hb dL_act_347 rfl (lv_at hl 5 rfl) ?_
    refine g_cost hlT (Nat.le_of_ble_eq_true rfl) CF L I_5 G_5 hRm hl.1 dL_act_348 ⟨by omega, by omega⟩ (fun r_6 H locs hq_6 G_6 => ?_)
    refine lv_iload hx hb dL_act_351 (lv_at hl 1 rfl) ?_
    refine lv_icmp_ne (tgt := 360) hx hb dL_act_353 (by decide) (fun c_7 => ?_) (fun c_7 => ?_)
    · exact absurd (by rw [hq_6, hq_5, hcst]) c_7
    · refine lv_iconst (v := 1) hx hb dL_act_356 (by decide) ?_
      refine lv_goto (tgt := 361) hx hb dL_act_357 (by decide) ?_
      exact ac_ret hlT CF hr hlocks L I_5 G_6 (by omega) (by omega) dL_act_361
  · refine lv_iconst (v := 1) hx hb dL_act_324 (by decide) ?_
    refine lv_goto (tgt := 329) hx hb dL_act_325 (by decide) ?_
    refine lv_iload hx hb dL_act_329 (lv_at hl 0 rfl) ?_
    refine lv_iload hx hb dL_act_331 (lv_at hl 0 rfl) ?_
    refine lv_iload_n hx hb dL_act_333 rfl (lv_at hl 4 rfl) ?_
    refine lv_iconst (v := 3) hx hb dL_act_334 (by decide) ?_
    refine lv_ishr hx hb dL_act_335 ?_
    refine lv_sipush (v := 600) hx hb dL_act_336 (by decide) ?_
    refine k_Ti [.int (x >>> (3 &&& 31)), .int (nI 600)] ⟨hx, hb, hml, hown, hts⟩ (c_L_below l (x >>> (3 &&& 31)) 600 (by omega) (by omega)) q_ml_L_40 q_st_L_below q_ini_L q_co_L_below (n := 2) (by decide +kernel) rfl ⟨rfl, rfl⟩ ⟨Nat.le_trans (Nat.le_of_ble_eq_true rfl) hRm.1, Nat.le_trans (Nat.le_of_ble_eq_true rfl) hRm.2⟩ hl.1 rfl (Nat.le_of_ble_eq_true rfl) dL_act_339 ⟨by omega, by omega⟩ (fun rk_8 hk_8 => ?_)
    obtain ⟨k_8, hk_8, rfl⟩ := hk_8
    refine lv_iadd hx hb dL_act_342 ?_
    refine g_setHours hlT (Nat.le_of_ble_eq_true rfl) CF L I0 G0 hRm hl.1 dL_act_343 ⟨by omega, by omega⟩ (fun E ce q9 H locs hE G hc1 hc2 hc3 => ?_) (fun r_9 a_9 H locs I_9 hq_9 G_9 => ?_)
    · rcases hE with rfl | rfl | rfl
      · refine vx_catch (name := "java/lang/IndexOutOfBoundsException") hown (tableOf [(37, 225, 568, 103), (226, 298, 568, 103)]) _ _ (ht9.trans rfl) (List.forall_mem_cons.mpr ⟨Or.inl (by decide), List.forall_mem_cons.mpr ⟨Or.inl (by decide), fun _ h => absurd h List.not_mem_nil⟩⟩) rfl (by decide) (hts _ (tb_in q_cl_L_103)) (va_Nw.use rfl hXs.1.2.2.2.2.2) hc1 hc2 hc3 ?_
        exact ac_568 hlT CF hr hlocks L I0 G hRm hRc hcst (by omega) (by omega) (lv_sub hl [5, 1] rfl)
      · refine vx_catch (name := "java/lang/IllegalArgumentException") hown (tableOf [(37, 225, 568, 103), (226, 298, 568, 103), (299, 361, 568, 103), (362, 468, 568, 103), (469, 498, 568, 103), (499, 549, 568, 103), (550, 565, 568, 103), (37, 225, 585, 105), (226, 298, 585, 105)]) _ _ (ht9.trans rfl) (List.forall_mem_cons.mpr ⟨Or.inl (by decide), List.forall_mem_cons.mpr ⟨Or.inl (by decide), List.forall_mem_cons.mpr ⟨Or.inr ⟨by decide, "java/lang/IndexOutOfBoundsException", hts _ (tb_in q_cl_L_103), hC.1⟩, List.forall_mem_cons.mpr ⟨Or.inl (by decide), List.forall_mem_cons.mpr ⟨Or.inl (by decide), List.forall_mem_cons.mpr ⟨Or.inl (by decide), List.forall_mem_cons.mpr ⟨Or.inl (by decide), List.forall_mem_cons.mpr ⟨Or.inl (by decide), List.forall_mem_cons.mpr ⟨Or.inl (by decide), fun _ h => absurd h List.not_mem_nil⟩⟩⟩⟩⟩⟩⟩⟩⟩) rfl (by decide) (hts _ (tb_in q_cl_L_105)) (va_Nw.use rfl hXs.1.2.2.2.1) hc1 hc2 hc3 ?_
        exact ac_585 hlT CF hr hlocks L I0 G hRm hRc hcst (by omega) (by omega) (lv_sub hl [5, 1] rfl)
      · refine vx_catch (name := "java/lang/IllegalStateException") hown (tableOf [(37, 225, 568, 103), (226, 298, 568, 103), (299, 361, 568, 103), (362, 468, 568, 103), (469, 498, 568, 103), (499, 549, 568, 103), (550, 565, 568, 103), (37, 225, 585, 105), (226, 298, 585, 105), (299, 361, 585, 105), (362, 468, 585, 105), (469, 498, 585, 105), (499, 549, 585, 105), (550, 565, 585, 105), (37, 225, 602, 107), (226, 298, 602, 107)]) _ _ (ht9.trans rfl) (List.forall_mem_cons.mpr ⟨Or.inl (by decide), List.forall_mem_cons.mpr ⟨Or.inl (by decide), List.forall_mem_cons.mpr ⟨Or.inr ⟨by decide, "java/lang/IndexOutOfBoundsException", hts _ (tb_in q_cl_L_103), hC.2.1⟩, List.forall_mem_cons.mpr ⟨Or.inl (by decide), List.forall_mem_cons.mpr ⟨Or.inl (by decide), List.forall_mem_cons.mpr ⟨Or.inl (by decide), List.forall_mem_cons.mpr ⟨Or.inl (by decide), List.forall_mem_cons.mpr ⟨Or.inl (by decide), List.forall_mem_cons.mpr ⟨Or.inl (by decide), List.forall_mem_cons.mpr ⟨Or.inr ⟨by decide, "java/lang/IllegalArgumentException", hts _ (tb_in q_cl_L_105), hC.2.2⟩, List.forall_mem_cons.mpr ⟨Or.inl (by decide), List.forall_mem_cons.mpr ⟨Or.inl (by decide), List.forall_mem_cons.mpr ⟨Or.inl (by decide), List.forall_mem_cons.mpr ⟨Or.inl (by decide), List.forall_mem_cons.mpr ⟨Or.inl (by decide), List.forall_mem_cons.mpr ⟨Or.inl (by decide), fun _ h => absurd h List.not_mem_nil⟩⟩⟩⟩⟩⟩⟩⟩⟩⟩⟩⟩⟩⟩⟩⟩) rfl (by decide) (hts _ (tb_in q_cl_L_107)) (va_Nw.use rfl hXs.1.2.2.2.2.1) hc1 hc2 hc3 ?_
        exact ac_602 hlT CF hr hlocks L I0 G hRm hRc hcst (by omega) (by omega) (lv_sub hl [5, 1] rfl)
    refine lv_pop hx hb dL_act_346 rfl ?_
    refine lv_aload_n hx hb dL_act_347 rfl (lv_at hl 5 rfl) ?_
    refine g_cost hlT (Nat.le_of_ble_eq_true rfl) CF L I_9 G_9 hRm hl.1 dL_act_348 ⟨by omega, by omega⟩ (fun r_10 H locs hq_10 G_10 => ?_)
    refine lv_iload hx hb dL_act_351 (lv_at hl 1 rfl) ?_
    refine lv_icmp_ne (tgt := 360) hx hb dL_act_353 (by decide) (fun c_11 => ?_) (fun c_11 => ?_)
    · exact absurd (by rw [hq_10, hq_9, hcst]) c_11
    · refine lv_iconst (v := 1) hx hb dL_act_356 (by decide) ?_
      refine lv_goto (tgt := 361) hx hb dL_act_357 (by decide) ?_
      exact ac_ret hlT CF hr hlocks L I_9 G_10 (by omega) (by omega) dL_act_361
set_option maxHeartbeats 4000000 in
set_option maxRecDepth 100000 in
theorem ac_362 (hlT : l.stackTraces = false) (CF : CallFix p m c cL_act 10 s args (c0 :: TB) RL) (hr : meth.sig.returnType = some .boolean) (hlocks : meth.locks = false) (ht9 : c.exceptionTable.toList = tableOf [(37, 225, 568, 103), (226, 298, 568, 103), (299, 361, 568, 103), (362, 468, 568, 103), (469, 498, 568, 103), (499, 549, 568, 103), (550, 565, 568, 103), (37, 225, 585, 105), (226, 298, 585, 105), (299, 361, 585, 105), (362, 468, 585, 105), (469, 498, 585, 105), (499, 549, 585, 105), (550, 565, 585, 105), (37, 225, 602, 107), (226, 298, 602, 107), (299, 361, 602, 107), (362, 468, 602, 107), (469, 498, 602, 107), (499, 549, 602, 107), (550, 565, 602, 107)]) (hC : CW s) (L : LF dC dI cI cV A s) (I0 : IV NP NJ NV w vv R) (G0 : GS dC dI cI cV P F G T za zb fa ia vd ra rb xa ya xb yb A s [] w NP NJ NV ck vv R H locs) (hRm : 9 ≤ R0.frames ∧ 250 ≤ R0.locals) (hRc : 3 ≤ R0.cells ∧ 18 ≤ R0.slots) {x cst : Int32} {j v : Nat} (hcst : cst = costF NP NJ NV w ck vv R) (hj : j < max 1 NJ) (hv : v < max 1 NV) (hl : lv_has ls 10 [(4, .int cst), (3, .int (nI v)), (2, .int (nI j)), (1, .int x), (0, .ref P)]) : W p l e R0 s m args below meth c H locs 0 0 (QA dC dI cI cV P F G T za zb fa ia vd ra rb xa ya xb yb A s args below) (F0 m 362 ls []) := by
  obtain ⟨hx, hb, hml, hown, hts⟩ := id CF
  have hXs : XW s := L.2.2.1
  refine lv_aload_n hx hb dL_act_362 rfl (lv_at hl 4 rfl) ?_
  refine lv_iload_n hx hb dL_act_363 rfl (lv_at hl 2 rfl) ?_
  refine g_insert hlT (Nat.le_of_ble_eq_true rfl) CF L I0 G0 hRm hl.1 dL_act_364 ⟨by omega, by omega⟩ (fun E ce q9 H locs hE G hc1 hc2 hc3 => ?_) (fun r_1 a_1 H locs I_1 G_1 => ?_)
  · rcases hE with rfl | rfl | rfl
    · refine vx_catch (name := "java/lang/IndexOutOfBoundsException") hown (tableOf [(37, 225, 568, 103), (226, 298, 568, 103), (299, 361, 568, 103)]) _ _ (ht9.trans rfl) (List.forall_mem_cons.mpr ⟨Or.inl (by decide), List.forall_mem_cons.mpr ⟨Or.inl (by decide), List.forall_mem_cons.mpr ⟨Or.inl (by decide), fun _ h => absurd h List.not_mem_nil⟩⟩⟩) rfl (by decide) (hts _ (tb_in q_cl_L_103)) (va_Nw.use rfl hXs.1.2.2.2.2.2) hc1 hc2 hc3 ?_
      exact ac_568 hlT CF hr hlocks L I0 G hRm hRc hcst (by omega) (by omega) (lv_sub hl [4, 0] rfl)
    · refine vx_catch (name := "java/lang/IllegalArgumentException") hown (tableOf [(37, 225, 568, 103), (226, 298, 568, 103), (299, 361, 568, 103), (362, 468, 568, 103), (469, 498, 568, 103), (499, 549, 568, 103), (550, 565, 568, 103), (37, 225, 585, 105), (226, 298, 585, 105), (299, 361, 585, 105)]) _ _ (ht9.trans rfl) (List.forall_mem_cons.mpr ⟨Or.inl (by decide), List.forall_mem_cons.mpr ⟨Or.inl (by decide), List.forall_mem_cons.mpr ⟨Or.inl (by decide), List.forall_mem_cons.mpr ⟨Or.inr ⟨by decide, "java/lang/IndexOutOfBoundsException", hts _ (tb_in q_cl_L_103), hC.1⟩, List.forall_mem_cons.mpr ⟨Or.inl (by decide), List.forall_mem_cons.mpr ⟨Or.inl (by decide), List.forall_mem_cons.mpr ⟨Or.inl (by decide), List.forall_mem_cons.mpr ⟨Or.inl (by decide), List.forall_mem_cons.mpr ⟨Or.inl (by decide), List.forall_mem_cons.mpr ⟨Or.inl (by decide), fun _ h => absurd h List.not_mem_nil⟩⟩⟩⟩⟩⟩⟩⟩⟩⟩) rfl (by decide) (hts _ (tb_in q_cl_L_105)) (va_Nw.use rfl hXs.1.2.2.2.1) hc1 hc2 hc3 ?_
      exact ac_585 hlT CF hr hlocks L I0 G hRm hRc hcst (by omega) (by omega) (lv_sub hl [4, 0] rfl)
    · refine vx_catch (name := "java/lang/IllegalStateException") hown (tableOf [(37, 225, 568, 103), (226, 298, 568, 103), (299, 361, 568, 103), (362, 468, 568, 103), (469, 498, 568, 103), (499, 549, 568, 103), (550, 565, 568, 103), (37, 225, 585, 105), (226, 298, 585, 105), (299, 361, 585, 105), (362, 468, 585, 105), (469, 498, 585, 105), (499, 549, 585, 105), (550, 565, 585, 105), (37, 225, 602, 107), (226, 298, 602, 107), (299, 361, 602, 107)]) _ _ (ht9.trans rfl) (List.forall_mem_cons.mpr ⟨Or.inl (by decide), List.forall_mem_cons.mpr ⟨Or.inl (by decide), List.forall_mem_cons.mpr ⟨Or.inl (by decide), List.forall_mem_cons.mpr ⟨Or.inr ⟨by decide, "java/lang/IndexOutOfBoundsException", hts _ (tb_in q_cl_L_103), hC.2.1⟩, List.forall_mem_cons.mpr ⟨Or.inl (by decide), List.forall_mem_cons.mpr ⟨Or.inl (by decide), List.forall_mem_cons.mpr ⟨Or.inl (by decide), List.forall_mem_cons.mpr ⟨Or.inl (by decide), List.forall_mem_cons.mpr ⟨Or.inl (by decide), List.forall_mem_cons.mpr ⟨Or.inl (by decide), List.forall_mem_cons.mpr ⟨Or.inr ⟨by decide, "java/lang/IllegalArgumentException", hts _ (tb_in q_cl_L_105), hC.2.2⟩, List.forall_mem_cons.mpr ⟨Or.inl (by decide), List.forall_mem_cons.mpr ⟨Or.inl (by decide), List.forall_mem_cons.mpr ⟨Or.inl (by decide), List.forall_mem_cons.mpr ⟨Or.inl (by decide), List.forall_mem_cons.mpr ⟨Or.inl (by decide), List.forall_mem_cons.mpr ⟨Or.inl (by decide), fun _ h => absurd h List.not_mem_nil⟩⟩⟩⟩⟩⟩⟩⟩⟩⟩⟩⟩⟩⟩⟩⟩⟩) rfl (by decide) (hts _ (tb_in q_cl_L_107)) (va_Nw.use rfl hXs.1.2.2.2.2.1) hc1 hc2 hc3 ?_
      exact ac_602 hlT CF hr hlocks L I0 G hRm hRc hcst (by omega) (by omega) (lv_sub hl [4, 0] rfl)
  refine lv_pop hx hb dL_act_367 rfl ?_
  refine lv_goto (tgt := 565) hx hb dL_act_368 (by decide) ?_
  exact ac_565 hlT CF hr hlocks L I_1 G_1 (by omega) (by omega)
set_option maxHeartbeats 4000000 in
set_option maxRecDepth 100000 in
theorem ac_371 (hlT : l.stackTraces = false) (CF : CallFix p m c cL_act 10 s args (c0 :: TB) RL) (hr : meth.sig.returnType = some .boolean) (hlocks : meth.locks = false) (ht9 : c.exceptionTable.toList = tableOf [(37, 225, 568, 103), (226, 298, 568, 103), (299, 361, 568, 103), (362, 468, 568, 103), (469, 498, 568, 103), (499, 549, 568, 103), (550, 565, 568, 103), (37, 225, 585, 105), (226, 298, 585, 105), (299, 361, 585, 105), (362, 468, 585, 105), (469, 498, 585, 105), (499, 549, 585, 105), (550, 565, 585, 105), (37, 225, 602, 107), (226, 298, 602, 107), (299, 361, 602, 107), (362, 468, 602, 107), (469, 498, 602, 107), (499, 549, 602, 107), (550, 565, 602, 107)]) (hC : CW s) (L : LF dC dI cI cV A s) (I0 : IV NP NJ NV w vv R) (G0 : GS dC dI cI cV P F G T za zb fa ia vd ra rb xa ya xb yb A s [] w NP NJ NV ck vv R H locs) (hRm : 9 ≤ R0.frames ∧ 250 ≤ R0.locals) (hRc : 3 ≤ R0.cells ∧ 18 ≤ R0.slots) {x cst : Int32} {j v : Nat} (hcst : cst = costF NP NJ NV w ck vv R) (hj : j < max 1 NJ) (hv : v < max 1 NV) (hl : lv_has ls 10 [(4, .int cst), (3, .int (nI v)), (2, .int (nI j)), (1, .int x), (0, .ref P)]) : W p l e R0 s m args below meth c H locs 0 0 (QA dC dI cI cV P F G T za zb fa ia vd ra rb xa ya xb yb A s args below) (F0 m 371 ls []) := by
  obtain ⟨hx, hb, hml, hown, hts⟩ := id CF
  have hXs : XW s := L.2.2.1
  refine lv_aload_n hx hb dL_act_371 rfl (lv_at hl 4 rfl) ?_
  refine lv_iload_n hx hb dL_act_372 rfl (lv_at hl 2 rfl) ?_
  refine lv_iload_n hx hb dL_act_373 rfl (lv_at hl 1 rfl) ?_
  refine lv_iload_n hx hb dL_act_374 rfl (lv_at hl 3 rfl) ?_
  refine lv_iconst (v := 5) hx hb dL_act_375 (by decide) ?_
  refine lv_ishr hx hb dL_act_376 ?_
  refine lv_iconst (v := 4) hx hb dL_act_377 (by decide) ?_
  refine k_Ti [.int (x >>> (5 &&& 31)), .int (nI 4)] ⟨hx, hb, hml, hown, hts⟩ (c_L_below l (x >>> (5 &&& 31)) 4 (by omega) (by omega)) q_ml_L_40 q_st_L_below q_ini_L q_co_L_below (n := 2) (by decide +kernel) rfl ⟨rfl, rfl⟩ ⟨Nat.le_trans (Nat.le_of_ble_eq_true rfl) hRm.1, Nat.le_trans (Nat.le_of_ble_eq_true rfl) hRm.2⟩ hl.1 rfl (Nat.le_of_ble_eq_true rfl) dL_act_378 ⟨by omega, by omega⟩ (fun rk_1 hk_1 => ?_)
  obtain ⟨k_1, hk_1, rfl⟩ := hk_1
  refine lv_iload_n hx hb dL_act_381 rfl (lv_at hl 3 rfl) ?_
  refine lv_bipush (v := 8) hx hb dL_act_382 (by decide) ?_
  refine lv_ishr hx hb dL_act_384 ?_
  refine lv_bipush (v := 6) hx hb dL_act_385 (by decide) ?_
  refine k_Ti [.int (x >>> (8 &&& 31)), .int (nI 6)] ⟨hx, hb, hml, hown, hts⟩ (c_L_below l (x >>> (8 &&& 31)) 6 (by omega) (by omega)) q_ml_L_40 q_st_L_below q_ini_L q_co_L_below (n := 2) (by decide +kernel) rfl ⟨rfl, rfl⟩ ⟨Nat.le_trans (Nat.le_of_ble_eq_true rfl) hRm.1, Nat.le_trans (Nat.le_of_ble_eq_true rfl) hRm.2⟩ hl.1 rfl (Nat.le_of_ble_eq_true rfl) dL_act_387 ⟨by omega, by omega⟩ (fun rk_2 hk_2 => ?_)
  obtain ⟨k_2, hk_2, rfl⟩ := hk_2
  refine g_insertAt hlT (by omega) (by omega) (Nat.le_of_ble_eq_true rfl) CF L I0 G0 hRm hl.1 dL_act_390 ⟨by omega, by omega⟩ (fun E ce q9 H locs hE G hc1 hc2 hc3 => ?_) (fun r_3 a_3 H locs I_3 G_3 => ?_)
  · rcases hE with rfl | rfl | rfl
    · refine vx_catch (name := "java/lang/IndexOutOfBoundsException") hown (tableOf [(37, 225, 568, 103), (226, 298, 568, 103), (299, 361, 568, 103)]) _ _ (ht9.trans rfl) (List.forall_mem_cons.mpr ⟨Or.inl (by decide), List.forall_mem_cons.mpr ⟨Or.inl (by decide), List.forall_mem_cons.mpr ⟨Or.inl (by decide), fun _ h => absurd h List.not_mem_nil⟩⟩⟩) rfl (by decide) (hts _ (tb_in q_cl_L_103)) (va_Nw.use rfl hXs.1.2.2.2.2.2) hc1 hc2 hc3 ?_
      exact ac_568 hlT CF hr hlocks L I0 G hRm hRc hcst (by omega) (by omega) (lv_sub hl [4, 0] rfl)
    · refine vx_catch (name := "java/lang/IllegalArgumentException") hown (tableOf [(37, 225, 568, 103), (226, 298, 568, 103), (299, 361, 568, 103), (362, 468, 568, 103), (469, 498, 568, 103), (499, 549, 568, 103), (550, 565, 568, 103), (37, 225, 585, 105), (226, 298, 585, 105), (299, 361, 585, 105)]) _ _ (ht9.trans rfl) (List.forall_mem_cons.mpr ⟨Or.inl (by decide), List.forall_mem_cons.mpr ⟨Or.inl (by decide), List.forall_mem_cons.mpr ⟨Or.inl (by decide), List.forall_mem_cons.mpr ⟨Or.inr ⟨by decide, "java/lang/IndexOutOfBoundsException", hts _ (tb_in q_cl_L_103), hC.1⟩, List.forall_mem_cons.mpr ⟨Or.inl (by decide), List.forall_mem_cons.mpr ⟨Or.inl (by decide), List.forall_mem_cons.mpr ⟨Or.inl (by decide), List.forall_mem_cons.mpr ⟨Or.inl (by decide), List.forall_mem_cons.mpr ⟨Or.inl (by decide), List.forall_mem_cons.mpr ⟨Or.inl (by decide), fun _ h => absurd h List.not_mem_nil⟩⟩⟩⟩⟩⟩⟩⟩⟩⟩) rfl (by decide) (hts _ (tb_in q_cl_L_105)) (va_Nw.use rfl hXs.1.2.2.2.1) hc1 hc2 hc3 ?_
      exact ac_585 hlT CF hr hlocks L I0 G hRm hRc hcst (by omega) (by omega) (lv_sub hl [4, 0] rfl)
    · refine vx_catch (name := "java/lang/IllegalStateException") hown (tableOf [(37, 225, 568, 103), (226, 298, 568, 103), (299, 361, 568, 103), (362, 468, 568, 103), (469, 498, 568, 103), (499, 549, 568, 103), (550, 565, 568, 103), (37, 225, 585, 105), (226, 298, 585, 105), (299, 361, 585, 105), (362, 468, 585, 105), (469, 498, 585, 105), (499, 549, 585, 105), (550, 565, 585, 105), (37, 225, 602, 107), (226, 298, 602, 107), (299, 361, 602, 107)]) _ _ (ht9.trans rfl) (List.forall_mem_cons.mpr ⟨Or.inl (by decide), List.forall_mem_cons.mpr ⟨Or.inl (by decide), List.forall_mem_cons.mpr ⟨Or.inl (by decide), List.forall_mem_cons.mpr ⟨Or.inr ⟨by decide, "java/lang/IndexOutOfBoundsException", hts _ (tb_in q_cl_L_103), hC.2.1⟩, List.forall_mem_cons.mpr ⟨Or.inl (by decide), List.forall_mem_cons.mpr ⟨Or.inl (by decide), List.forall_mem_cons.mpr ⟨Or.inl (by decide), List.forall_mem_cons.mpr ⟨Or.inl (by decide), List.forall_mem_cons.mpr ⟨Or.inl (by decide), List.forall_mem_cons.mpr ⟨Or.inl (by decide), List.forall_mem_cons.mpr ⟨Or.inr ⟨by decide, "java/lang/IllegalArgumentException", hts _ (tb_in q_cl_L_105), hC.2.2⟩, List.forall_mem_cons.mpr ⟨Or.inl (by decide), List.forall_mem_cons.mpr ⟨Or.inl (by decide), List.forall_mem_cons.mpr ⟨Or.inl (by decide), List.forall_mem_cons.mpr ⟨Or.inl (by decide), List.forall_mem_cons.mpr ⟨Or.inl (by decide), List.forall_mem_cons.mpr ⟨Or.inl (by decide), fun _ h => absurd h List.not_mem_nil⟩⟩⟩⟩⟩⟩⟩⟩⟩⟩⟩⟩⟩⟩⟩⟩⟩) rfl (by decide) (hts _ (tb_in q_cl_L_107)) (va_Nw.use rfl hXs.1.2.2.2.2.1) hc1 hc2 hc3 ?_
      exact ac_602 hlT CF hr hlocks L I0 G hRm hRc hcst (by omega) (by omega) (lv_sub hl [4, 0] rfl)
  refine lv_pop hx hb dL_act_393 rfl ?_
  refine lv_goto (tgt := 565) hx hb dL_act_394 (by decide) ?_
  exact ac_565 hlT CF hr hlocks L I_3 G_3 (by omega) (by omega)
set_option maxHeartbeats 4000000 in
set_option maxRecDepth 100000 in
theorem ac_397 (hlT : l.stackTraces = false) (CF : CallFix p m c cL_act 10 s args (c0 :: TB) RL) (hr : meth.sig.returnType = some .boolean) (hlocks : meth.locks = false) (ht9 : c.exceptionTable.toList = tableOf [(37, 225, 568, 103), (226, 298, 568, 103), (299, 361, 568, 103), (362, 468, 568, 103), (469, 498, 568, 103), (499, 549, 568, 103), (550, 565, 568, 103), (37, 225, 585, 105), (226, 298, 585, 105), (299, 361, 585, 105), (362, 468, 585, 105), (469, 498, 585, 105), (499, 549, 585, 105), (550, 565, 585, 105), (37, 225, 602, 107), (226, 298, 602, 107), (299, 361, 602, 107), (362, 468, 602, 107), (469, 498, 602, 107), (499, 549, 602, 107), (550, 565, 602, 107)]) (hC : CW s) (L : LF dC dI cI cV A s) (I0 : IV NP NJ NV w vv R) (G0 : GS dC dI cI cV P F G T za zb fa ia vd ra rb xa ya xb yb A s [] w NP NJ NV ck vv R H locs) (hRm : 9 ≤ R0.frames ∧ 250 ≤ R0.locals) (hRc : 3 ≤ R0.cells ∧ 18 ≤ R0.slots) {x cst : Int32} {j v : Nat} (hcst : cst = costF NP NJ NV w ck vv R) (hj : j < max 1 NJ) (hv : v < max 1 NV) (hl : lv_has ls 10 [(4, .int cst), (3, .int (nI v)), (2, .int (nI j)), (1, .int x), (0, .ref P)]) : W p l e R0 s m args below meth c H locs 0 0 (QA dC dI cI cV P F G T za zb fa ia vd ra rb xa ya xb yb A s args below) (F0 m 397 ls []) := by
  obtain ⟨hx, hb, hml, hown, hts⟩ := id CF
  have hXs : XW s := L.2.2.1
  refine lv_aload_n hx hb dL_act_397 rfl (lv_at hl 4 rfl) ?_
  refine lv_iload_n hx hb dL_act_398 rfl (lv_at hl 2 rfl) ?_
  refine g_take hlT (Nat.le_of_ble_eq_true rfl) CF L I0 G0 hRm hl.1 dL_act_399 ⟨by omega, by omega⟩ (fun E ce q9 H locs hE G hc1 hc2 hc3 => ?_) (fun r_1 a_1 H locs I_1 G_1 => ?_)
  · rcases hE with rfl | rfl | rfl
    · refine vx_catch (name := "java/lang/IndexOutOfBoundsException") hown (tableOf [(37, 225, 568, 103), (226, 298, 568, 103), (299, 361, 568, 103)]) _ _ (ht9.trans rfl) (List.forall_mem_cons.mpr ⟨Or.inl (by decide), List.forall_mem_cons.mpr ⟨Or.inl (by decide), List.forall_mem_cons.mpr ⟨Or.inl (by decide), fun _ h => absurd h List.not_mem_nil⟩⟩⟩) rfl (by decide) (hts _ (tb_in q_cl_L_103)) (va_Nw.use rfl hXs.1.2.2.2.2.2) hc1 hc2 hc3 ?_
      exact ac_568 hlT CF hr hlocks L I0 G hRm hRc hcst (by omega) (by omega) (lv_sub hl [4, 0] rfl)
    · refine vx_catch (name := "java/lang/IllegalArgumentException") hown (tableOf [(37, 225, 568, 103), (226, 298, 568, 103), (299, 361, 568, 103), (362, 468, 568, 103), (469, 498, 568, 103), (499, 549, 568, 103), (550, 565, 568, 103), (37, 225, 585, 105), (226, 298, 585, 105), (299, 361, 585, 105)]) _ _ (ht9.trans rfl) (List.forall_mem_cons.mpr ⟨Or.inl (by decide), List.forall_mem_cons.mpr ⟨Or.inl (by decide), List.forall_mem_cons.mpr ⟨Or.inl (by decide), List.forall_mem_cons.mpr ⟨Or.inr ⟨by decide, "java/lang/IndexOutOfBoundsException", hts _ (tb_in q_cl_L_103), hC.1⟩, List.forall_mem_cons.mpr ⟨Or.inl (by decide), List.forall_mem_cons.mpr ⟨Or.inl (by decide), List.forall_mem_cons.mpr ⟨Or.inl (by decide), List.forall_mem_cons.mpr ⟨Or.inl (by decide), List.forall_mem_cons.mpr ⟨Or.inl (by decide), List.forall_mem_cons.mpr ⟨Or.inl (by decide), fun _ h => absurd h List.not_mem_nil⟩⟩⟩⟩⟩⟩⟩⟩⟩⟩) rfl (by decide) (hts _ (tb_in q_cl_L_105)) (va_Nw.use rfl hXs.1.2.2.2.1) hc1 hc2 hc3 ?_
      exact ac_585 hlT CF hr hlocks L I0 G hRm hRc hcst (by omega) (by omega) (lv_sub hl [4, 0] rfl)
    · refine vx_catch (name := "java/lang/IllegalStateException") hown (tableOf [(37, 225, 568, 103), (226, 298, 568, 103), (299, 361, 568, 103), (362, 468, 568, 103), (469, 498, 568, 103), (499, 549, 568, 103), (550, 565, 568, 103), (37, 225, 585, 105), (226, 298, 585, 105), (299, 361, 585, 105), (362, 468, 585, 105), (469, 498, 585, 105), (499, 549, 585, 105), (550, 565, 585, 105), (37, 225, 602, 107), (226, 298, 602, 107), (299, 361, 602, 107)]) _ _ (ht9.trans rfl) (List.forall_mem_cons.mpr ⟨Or.inl (by decide), List.forall_mem_cons.mpr ⟨Or.inl (by decide), List.forall_mem_cons.mpr ⟨Or.inl (by decide), List.forall_mem_cons.mpr ⟨Or.inr ⟨by decide, "java/lang/IndexOutOfBoundsException", hts _ (tb_in q_cl_L_103), hC.2.1⟩, List.forall_mem_cons.mpr ⟨Or.inl (by decide), List.forall_mem_cons.mpr ⟨Or.inl (by decide), List.forall_mem_cons.mpr ⟨Or.inl (by decide), List.forall_mem_cons.mpr ⟨Or.inl (by decide), List.forall_mem_cons.mpr ⟨Or.inl (by decide), List.forall_mem_cons.mpr ⟨Or.inl (by decide), List.forall_mem_cons.mpr ⟨Or.inr ⟨by decide, "java/lang/IllegalArgumentException", hts _ (tb_in q_cl_L_105), hC.2.2⟩, List.forall_mem_cons.mpr ⟨Or.inl (by decide), List.forall_mem_cons.mpr ⟨Or.inl (by decide), List.forall_mem_cons.mpr ⟨Or.inl (by decide), List.forall_mem_cons.mpr ⟨Or.inl (by decide), List.forall_mem_cons.mpr ⟨Or.inl (by decide), List.forall_mem_cons.mpr ⟨Or.inl (by decide), fun _ h => absurd h List.not_mem_nil⟩⟩⟩⟩⟩⟩⟩⟩⟩⟩⟩⟩⟩⟩⟩⟩⟩) rfl (by decide) (hts _ (tb_in q_cl_L_107)) (va_Nw.use rfl hXs.1.2.2.2.2.1) hc1 hc2 hc3 ?_
      exact ac_602 hlT CF hr hlocks L I0 G hRm hRc hcst (by omega) (by omega) (lv_sub hl [4, 0] rfl)
  refine lv_pop hx hb dL_act_402 rfl ?_
  refine lv_goto (tgt := 565) hx hb dL_act_403 (by decide) ?_
  exact ac_565 hlT CF hr hlocks L I_1 G_1 (by omega) (by omega)
set_option maxHeartbeats 4000000 in
set_option maxRecDepth 100000 in
theorem ac_406 (hlT : l.stackTraces = false) (CF : CallFix p m c cL_act 10 s args (c0 :: TB) RL) (hr : meth.sig.returnType = some .boolean) (hlocks : meth.locks = false) (ht9 : c.exceptionTable.toList = tableOf [(37, 225, 568, 103), (226, 298, 568, 103), (299, 361, 568, 103), (362, 468, 568, 103), (469, 498, 568, 103), (499, 549, 568, 103), (550, 565, 568, 103), (37, 225, 585, 105), (226, 298, 585, 105), (299, 361, 585, 105), (362, 468, 585, 105), (469, 498, 585, 105), (499, 549, 585, 105), (550, 565, 585, 105), (37, 225, 602, 107), (226, 298, 602, 107), (299, 361, 602, 107), (362, 468, 602, 107), (469, 498, 602, 107), (499, 549, 602, 107), (550, 565, 602, 107)]) (hC : CW s) (L : LF dC dI cI cV A s) (I0 : IV NP NJ NV w vv R) (G0 : GS dC dI cI cV P F G T za zb fa ia vd ra rb xa ya xb yb A s [] w NP NJ NV ck vv R H locs) (hRm : 9 ≤ R0.frames ∧ 250 ≤ R0.locals) (hRc : 3 ≤ R0.cells ∧ 18 ≤ R0.slots) {x cst : Int32} {j v : Nat} (hcst : cst = costF NP NJ NV w ck vv R) (hj : j < max 1 NJ) (hv : v < max 1 NV) (hl : lv_has ls 10 [(4, .int cst), (3, .int (nI v)), (2, .int (nI j)), (1, .int x), (0, .ref P)]) : W p l e R0 s m args below meth c H locs 0 0 (QA dC dI cI cV P F G T za zb fa ia vd ra rb xa ya xb yb A s args below) (F0 m 406 ls []) := by
  obtain ⟨hx, hb, hml, hown, hts⟩ := id CF
  have hXs : XW s := L.2.2.1
  refine lv_aload_n hx hb dL_act_406 rfl (lv_at hl 4 rfl) ?_
  refine g_rebuild hlT (Nat.le_of_ble_eq_true rfl) CF L I0 G0 hRm hl.1 dL_act_407 ⟨by omega, by omega⟩ (fun r_1 a_1 H locs I_1 G_1 => ?_)
  refine lv_pop hx hb dL_act_410 rfl ?_
  refine lv_goto (tgt := 565) hx hb dL_act_411 (by decide) ?_
  exact ac_565 hlT CF hr hlocks L I_1 G_1 (by omega) (by omega)
set_option maxHeartbeats 4000000 in
set_option maxRecDepth 100000 in
theorem ac_414 (hlT : l.stackTraces = false) (CF : CallFix p m c cL_act 10 s args (c0 :: TB) RL) (hr : meth.sig.returnType = some .boolean) (hlocks : meth.locks = false) (ht9 : c.exceptionTable.toList = tableOf [(37, 225, 568, 103), (226, 298, 568, 103), (299, 361, 568, 103), (362, 468, 568, 103), (469, 498, 568, 103), (499, 549, 568, 103), (550, 565, 568, 103), (37, 225, 585, 105), (226, 298, 585, 105), (299, 361, 585, 105), (362, 468, 585, 105), (469, 498, 585, 105), (499, 549, 585, 105), (550, 565, 585, 105), (37, 225, 602, 107), (226, 298, 602, 107), (299, 361, 602, 107), (362, 468, 602, 107), (469, 498, 602, 107), (499, 549, 602, 107), (550, 565, 602, 107)]) (hC : CW s) (L : LF dC dI cI cV A s) (I0 : IV NP NJ NV w vv R) (G0 : GS dC dI cI cV P F G T za zb fa ia vd ra rb xa ya xb yb A s [] w NP NJ NV ck vv R H locs) (hRm : 9 ≤ R0.frames ∧ 250 ≤ R0.locals) (hRc : 3 ≤ R0.cells ∧ 18 ≤ R0.slots) {x cst : Int32} {j v : Nat} (hcst : cst = costF NP NJ NV w ck vv R) (hj : j < max 1 NJ) (hv : v < max 1 NV) (hl : lv_has ls 10 [(4, .int cst), (3, .int (nI v)), (2, .int (nI j)), (1, .int x), (0, .ref P)]) : W p l e R0 s m args below meth c H locs 0 0 (QA dC dI cI cV P F G T za zb fa ia vd ra rb xa ya xb yb A s args below) (F0 m 414 ls []) := by
  obtain ⟨hx, hb, hml, hown, hts⟩ := id CF
  have hXs : XW s := L.2.2.1
  refine lv_aload_n hx hb dL_act_414 rfl (lv_at hl 4 rfl) ?_
  refine lv_iconst (v := 1) hx hb dL_act_415 (by decide) ?_
  refine lv_iload_n hx hb dL_act_416 rfl (lv_at hl 3 rfl) ?_
  refine lv_iconst (v := 5) hx hb dL_act_417 (by decide) ?_
  refine lv_ishr hx hb dL_act_418 ?_
  refine lv_iconst (v := 3) hx hb dL_act_419 (by decide) ?_
  refine k_Ti [.int (x >>> (5 &&& 31)), .int (nI 3)] ⟨hx, hb, hml, hown, hts⟩ (c_L_below l (x >>> (5 &&& 31)) 3 (by omega) (by omega)) q_ml_L_40 q_st_L_below q_ini_L q_co_L_below (n := 2) (by decide +kernel) rfl ⟨rfl, rfl⟩ ⟨Nat.le_trans (Nat.le_of_ble_eq_true rfl) hRm.1, Nat.le_trans (Nat.le_of_ble_eq_true rfl) hRm.2⟩ hl.1 rfl (Nat.le_of_ble_eq_true rfl) dL_act_420 ⟨by omega, by omega⟩ (fun rk_1 hk_1 => ?_)
  obtain ⟨k_1, hk_1, rfl⟩ := hk_1
  refine lv_iadd hx hb dL_act_423 ?_
  refine g_ruin hlT (Nat.le_of_ble_eq_true rfl) CF L I0 G0 hRm hl.1 dL_act_424 ⟨by omega, by omega⟩ (of3 hk_1) (fun r_2 a_2 H locs I_2 G_2 => ?_)
  refine lv_pop hx hb dL_act_427 rfl ?_
  refine lv_goto (tgt := 565) hx hb dL_act_428 (by decide) ?_
  exact ac_565 hlT CF hr hlocks L I_2 G_2 (by omega) (by omega)
set_option maxHeartbeats 4000000 in
set_option maxRecDepth 100000 in
theorem ac_431 (hlT : l.stackTraces = false) (CF : CallFix p m c cL_act 10 s args (c0 :: TB) RL) (hr : meth.sig.returnType = some .boolean) (hlocks : meth.locks = false) (ht9 : c.exceptionTable.toList = tableOf [(37, 225, 568, 103), (226, 298, 568, 103), (299, 361, 568, 103), (362, 468, 568, 103), (469, 498, 568, 103), (499, 549, 568, 103), (550, 565, 568, 103), (37, 225, 585, 105), (226, 298, 585, 105), (299, 361, 585, 105), (362, 468, 585, 105), (469, 498, 585, 105), (499, 549, 585, 105), (550, 565, 585, 105), (37, 225, 602, 107), (226, 298, 602, 107), (299, 361, 602, 107), (362, 468, 602, 107), (469, 498, 602, 107), (499, 549, 602, 107), (550, 565, 602, 107)]) (hC : CW s) (L : LF dC dI cI cV A s) (I0 : IV NP NJ NV w vv R) (G0 : GS dC dI cI cV P F G T za zb fa ia vd ra rb xa ya xb yb A s [] w NP NJ NV ck vv R H locs) (hRm : 9 ≤ R0.frames ∧ 250 ≤ R0.locals) (hRc : 3 ≤ R0.cells ∧ 18 ≤ R0.slots) {x cst : Int32} {j v : Nat} (hcst : cst = costF NP NJ NV w ck vv R) (hj : j < max 1 NJ) (hv : v < max 1 NV) (hl : lv_has ls 10 [(4, .int cst), (3, .int (nI v)), (2, .int (nI j)), (1, .int x), (0, .ref P)]) : W p l e R0 s m args below meth c H locs 0 0 (QA dC dI cI cV P F G T za zb fa ia vd ra rb xa ya xb yb A s args below) (F0 m 431 ls []) := by
  obtain ⟨hx, hb, hml, hown, hts⟩ := id CF
  have hXs : XW s := L.2.2.1
  refine lv_aload_n hx hb dL_act_431 rfl (lv_at hl 4 rfl) ?_
  refine lv_iconst (v := 1) hx hb dL_act_432 (by decide) ?_
  refine lv_iload_n hx hb dL_act_433 rfl (lv_at hl 3 rfl) ?_
  refine lv_iconst (v := 5) hx hb dL_act_434 (by decide) ?_
  refine lv_ishr hx hb dL_act_435 ?_
  refine lv_iconst (v := 4) hx hb dL_act_436 (by decide) ?_
  refine k_Ti [.int (x >>> (5 &&& 31)), .int (nI 4)] ⟨hx, hb, hml, hown, hts⟩ (c_L_below l (x >>> (5 &&& 31)) 4 (by omega) (by omega)) q_ml_L_40 q_st_L_below q_ini_L q_co_L_below (n := 2) (by decide +kernel) rfl ⟨rfl, rfl⟩ ⟨Nat.le_trans (Nat.le_of_ble_eq_true rfl) hRm.1, Nat.le_trans (Nat.le_of_ble_eq_true rfl) hRm.2⟩ hl.1 rfl (Nat.le_of_ble_eq_true rfl) dL_act_437 ⟨by omega, by omega⟩ (fun rk_1 hk_1 => ?_)
  obtain ⟨k_1, hk_1, rfl⟩ := hk_1
  refine lv_iadd hx hb dL_act_440 ?_
  refine g_improve hlT (Nat.le_of_ble_eq_true rfl) CF L I0 G0 hRm hl.1 dL_act_441 ⟨by omega, by omega⟩ (of4 hk_1) (fun r_2 a_2 b_2 H locs I_2 hz_2 hq_2 G_2 => ?_)
  refine lv_istore (lv' := [(7, .int r_2), (4, .int cst), (3, .int (nI v)), (2, .int (nI j)), (1, .int x), (0, .ref P)]) hx hb dL_act_444 hl (by decide) rfl (fun ls hl => ?_)
  refine lv_iload hx hb dL_act_446 (lv_at hl 0 rfl) ?_
  refine lv_if_lt (tgt := 467) hx hb dL_act_448 (by decide) (fun c_3 => ?_) (fun c_3 => ?_)
  · exact absurd c_3 hz_2
  · refine lv_aload_n hx hb dL_act_451 rfl (lv_at hl 5 rfl) ?_
    refine g_cost hlT (Nat.le_of_ble_eq_true rfl) CF L I_2 G_2 hRm hl.1 dL_act_452 ⟨by omega, by omega⟩ (fun r_4 H locs hq_4 G_4 => ?_)
    refine lv_iload hx hb dL_act_455 (lv_at hl 1 rfl) ?_
    refine lv_iload hx hb dL_act_457 (lv_at hl 0 rfl) ?_
    refine lv_isub hx hb dL_act_459 ?_
    refine lv_icmp_ne (tgt := 467) hx hb dL_act_460 (by decide) (fun c_5 => ?_) (fun c_5 => ?_)
    · exact absurd (by rw [hq_4, hq_2, hcst]) c_5
    · refine lv_iconst (v := 1) hx hb dL_act_463 (by decide) ?_
      refine lv_goto (tgt := 468) hx hb dL_act_464 (by decide) ?_
      exact ac_ret hlT CF hr hlocks L I_2 G_4 (by omega) (by omega) dL_act_468
set_option maxHeartbeats 4000000 in
set_option maxRecDepth 100000 in
theorem ac_469 (hlT : l.stackTraces = false) (CF : CallFix p m c cL_act 10 s args (c0 :: TB) RL) (hr : meth.sig.returnType = some .boolean) (hlocks : meth.locks = false) (ht9 : c.exceptionTable.toList = tableOf [(37, 225, 568, 103), (226, 298, 568, 103), (299, 361, 568, 103), (362, 468, 568, 103), (469, 498, 568, 103), (499, 549, 568, 103), (550, 565, 568, 103), (37, 225, 585, 105), (226, 298, 585, 105), (299, 361, 585, 105), (362, 468, 585, 105), (469, 498, 585, 105), (499, 549, 585, 105), (550, 565, 585, 105), (37, 225, 602, 107), (226, 298, 602, 107), (299, 361, 602, 107), (362, 468, 602, 107), (469, 498, 602, 107), (499, 549, 602, 107), (550, 565, 602, 107)]) (hC : CW s) (L : LF dC dI cI cV A s) (I0 : IV NP NJ NV w vv R) (G0 : GS dC dI cI cV P F G T za zb fa ia vd ra rb xa ya xb yb A s [] w NP NJ NV ck vv R H locs) (hRm : 9 ≤ R0.frames ∧ 250 ≤ R0.locals) (hRc : 3 ≤ R0.cells ∧ 18 ≤ R0.slots) {x cst : Int32} {j v : Nat} (hcst : cst = costF NP NJ NV w ck vv R) (hj : j < max 1 NJ) (hv : v < max 1 NV) (hl : lv_has ls 10 [(4, .int cst), (3, .int (nI v)), (2, .int (nI j)), (1, .int x), (0, .ref P)]) : W p l e R0 s m args below meth c H locs 0 0 (QA dC dI cI cV P F G T za zb fa ia vd ra rb xa ya xb yb A s args below) (F0 m 469 ls []) := by
  obtain ⟨hx, hb, hml, hown, hts⟩ := id CF
  have hXs : XW s := L.2.2.1
  refine lv_aload_n hx hb dL_act_469 rfl (lv_at hl 4 rfl) ?_
  refine lv_iload_n hx hb dL_act_470 rfl (lv_at hl 1 rfl) ?_
  refine g_repair hlT (Nat.le_of_ble_eq_true rfl) CF L I0 G0 hRm hl.1 dL_act_471 ⟨by omega, by omega⟩ (fun E ce q9 H locs hE G hc1 hc2 hc3 => ?_) (fun r_1 K_1 a_1 H locs hK_1 eK_1 hz_1 I_1 hq_1 G_1 => ?_)
  · rcases hE with rfl | rfl | rfl
    · refine vx_catch (name := "java/lang/IndexOutOfBoundsException") hown (tableOf [(37, 225, 568, 103), (226, 298, 568, 103), (299, 361, 568, 103), (362, 468, 568, 103)]) _ _ (ht9.trans rfl) (List.forall_mem_cons.mpr ⟨Or.inl (by decide), List.forall_mem_cons.mpr ⟨Or.inl (by decide), List.forall_mem_cons.mpr ⟨Or.inl (by decide), List.forall_mem_cons.mpr ⟨Or.inl (by decide), fun _ h => absurd h List.not_mem_nil⟩⟩⟩⟩) rfl (by decide) (hts _ (tb_in q_cl_L_103)) (va_Nw.use rfl hXs.1.2.2.2.2.2) hc1 hc2 hc3 ?_
      exact ac_568 hlT CF hr hlocks L I0 G hRm hRc hcst (by omega) (by omega) (lv_sub hl [4, 0] rfl)
    · refine vx_catch (name := "java/lang/IllegalArgumentException") hown (tableOf [(37, 225, 568, 103), (226, 298, 568, 103), (299, 361, 568, 103), (362, 468, 568, 103), (469, 498, 568, 103), (499, 549, 568, 103), (550, 565, 568, 103), (37, 225, 585, 105), (226, 298, 585, 105), (299, 361, 585, 105), (362, 468, 585, 105)]) _ _ (ht9.trans rfl) (List.forall_mem_cons.mpr ⟨Or.inl (by decide), List.forall_mem_cons.mpr ⟨Or.inl (by decide), List.forall_mem_cons.mpr ⟨Or.inl (by decide), List.forall_mem_cons.mpr ⟨Or.inl (by decide), List.forall_mem_cons.mpr ⟨Or.inr ⟨by decide, "java/lang/IndexOutOfBoundsException", hts _ (tb_in q_cl_L_103), hC.1⟩, List.forall_mem_cons.mpr ⟨Or.inl (by decide), List.forall_mem_cons.mpr ⟨Or.inl (by decide), List.forall_mem_cons.mpr ⟨Or.inl (by decide), List.forall_mem_cons.mpr ⟨Or.inl (by decide), List.forall_mem_cons.mpr ⟨Or.inl (by decide), List.forall_mem_cons.mpr ⟨Or.inl (by decide), fun _ h => absurd h List.not_mem_nil⟩⟩⟩⟩⟩⟩⟩⟩⟩⟩⟩) rfl (by decide) (hts _ (tb_in q_cl_L_105)) (va_Nw.use rfl hXs.1.2.2.2.1) hc1 hc2 hc3 ?_
      exact ac_585 hlT CF hr hlocks L I0 G hRm hRc hcst (by omega) (by omega) (lv_sub hl [4, 0] rfl)
    · refine vx_catch (name := "java/lang/IllegalStateException") hown (tableOf [(37, 225, 568, 103), (226, 298, 568, 103), (299, 361, 568, 103), (362, 468, 568, 103), (469, 498, 568, 103), (499, 549, 568, 103), (550, 565, 568, 103), (37, 225, 585, 105), (226, 298, 585, 105), (299, 361, 585, 105), (362, 468, 585, 105), (469, 498, 585, 105), (499, 549, 585, 105), (550, 565, 585, 105), (37, 225, 602, 107), (226, 298, 602, 107), (299, 361, 602, 107), (362, 468, 602, 107)]) _ _ (ht9.trans rfl) (List.forall_mem_cons.mpr ⟨Or.inl (by decide), List.forall_mem_cons.mpr ⟨Or.inl (by decide), List.forall_mem_cons.mpr ⟨Or.inl (by decide), List.forall_mem_cons.mpr ⟨Or.inl (by decide), List.forall_mem_cons.mpr ⟨Or.inr ⟨by decide, "java/lang/IndexOutOfBoundsException", hts _ (tb_in q_cl_L_103), hC.2.1⟩, List.forall_mem_cons.mpr ⟨Or.inl (by decide), List.forall_mem_cons.mpr ⟨Or.inl (by decide), List.forall_mem_cons.mpr ⟨Or.inl (by decide), List.forall_mem_cons.mpr ⟨Or.inl (by decide), List.forall_mem_cons.mpr ⟨Or.inl (by decide), List.forall_mem_cons.mpr ⟨Or.inl (by decide), List.forall_mem_cons.mpr ⟨Or.inr ⟨by decide, "java/lang/IllegalArgumentException", hts _ (tb_in q_cl_L_105), hC.2.2⟩, List.forall_mem_cons.mpr ⟨Or.inl (by decide), List.forall_mem_cons.mpr ⟨Or.inl (by decide), List.forall_mem_cons.mpr ⟨Or.inl (by decide), List.forall_mem_cons.mpr ⟨Or.inl (by decide), List.forall_mem_cons.mpr ⟨Or.inl (by decide), List.forall_mem_cons.mpr ⟨Or.inl (by decide), fun _ h => absurd h List.not_mem_nil⟩⟩⟩⟩⟩⟩⟩⟩⟩⟩⟩⟩⟩⟩⟩⟩⟩⟩) rfl (by decide) (hts _ (tb_in q_cl_L_107)) (va_Nw.use rfl hXs.1.2.2.2.2.1) hc1 hc2 hc3 ?_
      exact ac_602 hlT CF hr hlocks L I0 G hRm hRc hcst (by omega) (by omega) (lv_sub hl [4, 0] rfl)
  have hl : lv_has ls 10 [(4, .int cst), (3, .int (nI K_1)), (2, .int (nI j)), (1, .int x), (0, .ref P)] := by rw [eK_1] at hl; exact hl
  refine lv_if_lt (tgt := 497) hx hb dL_act_474 (by decide) (fun c_2 => ?_) (fun c_2 => ?_)
  · exact absurd c_2 hz_1
  · refine lv_aload_n hx hb dL_act_477 rfl (lv_at hl 4 rfl) ?_
    refine lv_iload_n hx hb dL_act_478 rfl (lv_at hl 1 rfl) ?_
    refine g_isRight hlT hK_1 (Nat.le_of_ble_eq_true rfl) CF L I_1 G_1 hRm hl.1 dL_act_479 ⟨by omega, by omega⟩ (fun r_3 H locs hq_3 G_3 => ?_)
    refine lv_if_ne (tgt := 493) hx hb dL_act_482 (by decide) (fun c_4 => ?_) (fun c_4 => ?_)
    · refine lv_iconst (v := 1) hx hb dL_act_493 (by decide) ?_
      refine lv_goto (tgt := 498) hx hb dL_act_494 (by decide) ?_
      exact ac_ret hlT CF hr hlocks L I_1 G_3 (by omega) (by omega) dL_act_498
    · refine lv_aload_n hx hb dL_act_485 rfl (lv_at hl 4 rfl) ?_
      refine lv_iload_n hx hb dL_act_486 rfl (lv_at hl 1 rfl) ?_
      refine g_setStops hlT hK_1 (Nat.le_of_ble_eq_true rfl) CF L I_1 G_3 hRm hl.1 dL_act_487 ⟨by omega, by omega⟩ (fun r_5 H locs hq_5 G_5 => ?_)
      refine lv_if_le (tgt := 497) hx hb dL_act_490 (by decide) (fun c_6 => ?_) (fun c_6 => ?_)
      · exact absurd c_6 (set_pos I_1 hq_1 hq_3 c_4 hq_5)
      · refine lv_iconst (v := 1) hx hb dL_act_493 (by decide) ?_
        refine lv_goto (tgt := 498) hx hb dL_act_494 (by decide) ?_
        exact ac_ret hlT CF hr hlocks L I_1 G_5 (by omega) (by omega) dL_act_498
set_option maxHeartbeats 4000000 in
set_option maxRecDepth 100000 in
theorem ac_499 (hlT : l.stackTraces = false) (CF : CallFix p m c cL_act 10 s args (c0 :: TB) RL) (hr : meth.sig.returnType = some .boolean) (hlocks : meth.locks = false) (ht9 : c.exceptionTable.toList = tableOf [(37, 225, 568, 103), (226, 298, 568, 103), (299, 361, 568, 103), (362, 468, 568, 103), (469, 498, 568, 103), (499, 549, 568, 103), (550, 565, 568, 103), (37, 225, 585, 105), (226, 298, 585, 105), (299, 361, 585, 105), (362, 468, 585, 105), (469, 498, 585, 105), (499, 549, 585, 105), (550, 565, 585, 105), (37, 225, 602, 107), (226, 298, 602, 107), (299, 361, 602, 107), (362, 468, 602, 107), (469, 498, 602, 107), (499, 549, 602, 107), (550, 565, 602, 107)]) (hC : CW s) (L : LF dC dI cI cV A s) (I0 : IV NP NJ NV w vv R) (G0 : GS dC dI cI cV P F G T za zb fa ia vd ra rb xa ya xb yb A s [] w NP NJ NV ck vv R H locs) (hRm : 9 ≤ R0.frames ∧ 250 ≤ R0.locals) (hRc : 3 ≤ R0.cells ∧ 18 ≤ R0.slots) {x cst : Int32} {j v : Nat} (hcst : cst = costF NP NJ NV w ck vv R) (hj : j < max 1 NJ) (hv : v < max 1 NV) (hl : lv_has ls 10 [(4, .int cst), (3, .int (nI v)), (2, .int (nI j)), (1, .int x), (0, .ref P)]) : W p l e R0 s m args below meth c H locs 0 0 (QA dC dI cI cV P F G T za zb fa ia vd ra rb xa ya xb yb A s args below) (F0 m 499 ls []) := by
  obtain ⟨hx, hb, hml, hown, hts⟩ := id CF
  have hXs : XW s := L.2.2.1
  refine lv_iload_n hx hb dL_act_499 rfl (lv_at hl 3 rfl) ?_
  refine lv_iconst (v := 5) hx hb dL_act_500 (by decide) ?_
  refine lv_ishr hx hb dL_act_501 ?_
  refine lv_iconst (v := 4) hx hb dL_act_502 (by decide) ?_
  refine k_Ti [.int (x >>> (5 &&& 31)), .int (nI 4)] ⟨hx, hb, hml, hown, hts⟩ (c_L_below l (x >>> (5 &&& 31)) 4 (by omega) (by omega)) q_ml_L_40 q_st_L_below q_ini_L q_co_L_below (n := 2) (by decide +kernel) rfl ⟨rfl, rfl⟩ ⟨Nat.le_trans (Nat.le_of_ble_eq_true rfl) hRm.1, Nat.le_trans (Nat.le_of_ble_eq_true rfl) hRm.2⟩ hl.1 rfl (Nat.le_of_ble_eq_true rfl) dL_act_503 ⟨by omega, by omega⟩ (fun rk_1 hk_1 => ?_)
  obtain ⟨k_1, hk_1, rfl⟩ := hk_1
  refine lv_istore (lv' := [(8, .int (nI k_1)), (4, .int cst), (3, .int (nI v)), (2, .int (nI j)), (1, .int x), (0, .ref P)]) hx hb dL_act_506 hl (by decide) rfl (fun ls hl => ?_)
  refine lv_aload_n hx hb dL_act_508 rfl (lv_at hl 5 rfl) ?_
  refine lv_iload hx hb dL_act_509 (lv_at hl 0 rfl) ?_
  refine g_gain hlT hk_1 (Nat.le_of_ble_eq_true rfl) CF L I0 G0 hRm hl.1 dL_act_511 ⟨by omega, by omega⟩ (fun r_2 a_2 H locs h7_2 hq_2 hg_2 hd_2 G_2 => ?_)
  have I_2 := iv_7 I0 h7_2
  refine lv_istore (lv' := [(9, .int r_2), (8, .int (nI k_1)), (4, .int cst), (3, .int (nI v)), (2, .int (nI j)), (1, .int x), (0, .ref P)]) hx hb dL_act_514 hl (by decide) rfl (fun ls hl => ?_)
  refine lv_aload_n hx hb dL_act_516 rfl (lv_at hl 6 rfl) ?_
  refine lv_iload hx hb dL_act_517 (lv_at hl 1 rfl) ?_
  refine g_change hlT hk_1 (Nat.le_of_ble_eq_true rfl) CF L I_2 G_2 hRm hl.1 dL_act_519 ⟨by omega, by omega⟩ (fun r_3 a_3 b_3 H locs I_3 hq_3 hz_3 G_3 => ?_)
  refine lv_iload hx hb dL_act_522 (lv_at hl 0 rfl) ?_
  refine lv_icmp_ne (tgt := 548) hx hb dL_act_524 (by decide) (fun c_4 => ?_) (fun c_4 => ?_)
  · exact absurd (by rw [hq_3, hg_2, hq_2]) c_4
  · refine lv_iload hx hb dL_act_527 (lv_at hl 0 rfl) ?_
    refine lv_if_lt (tgt := 548) hx hb dL_act_529 (by decide) (fun c_5 => ?_) (fun c_5 => ?_)
    · exact absurd c_5 (gain_neg I0 hq_2)
    · refine lv_aload_n hx hb dL_act_532 rfl (lv_at hl 6 rfl) ?_
      refine g_cost hlT (Nat.le_of_ble_eq_true rfl) CF L I_3 G_3 hRm hl.1 dL_act_533 ⟨by omega, by omega⟩ (fun r_6 H locs hq_6 G_6 => ?_)
      refine lv_iload hx hb dL_act_536 (lv_at hl 2 rfl) ?_
      refine lv_iload hx hb dL_act_538 (lv_at hl 0 rfl) ?_
      refine lv_isub hx hb dL_act_540 ?_
      refine lv_icmp_ne (tgt := 548) hx hb dL_act_541 (by decide) (fun c_7 => ?_) (fun c_7 => ?_)
      · exact absurd (by rw [hq_6, hz_3, iv_cost7 I0 h7_2, hg_2, ← hq_2, hcst]) c_7
      · refine lv_iconst (v := 1) hx hb dL_act_544 (by decide) ?_
        refine lv_goto (tgt := 549) hx hb dL_act_545 (by decide) ?_
        exact ac_ret hlT CF hr hlocks L I_3 G_6 (by omega) (by omega) dL_act_549
set_option maxHeartbeats 4000000 in
set_option maxRecDepth 100000 in
theorem ac_550 (hlT : l.stackTraces = false) (CF : CallFix p m c cL_act 10 s args (c0 :: TB) RL) (hr : meth.sig.returnType = some .boolean) (hlocks : meth.locks = false) (ht9 : c.exceptionTable.toList = tableOf [(37, 225, 568, 103), (226, 298, 568, 103), (299, 361, 568, 103), (362, 468, 568, 103), (469, 498, 568, 103), (499, 549, 568, 103), (550, 565, 568, 103), (37, 225, 585, 105), (226, 298, 585, 105), (299, 361, 585, 105), (362, 468, 585, 105), (469, 498, 585, 105), (499, 549, 585, 105), (550, 565, 585, 105), (37, 225, 602, 107), (226, 298, 602, 107), (299, 361, 602, 107), (362, 468, 602, 107), (469, 498, 602, 107), (499, 549, 602, 107), (550, 565, 602, 107)]) (hC : CW s) (L : LF dC dI cI cV A s) (I0 : IV NP NJ NV w vv R) (G0 : GS dC dI cI cV P F G T za zb fa ia vd ra rb xa ya xb yb A s [] w NP NJ NV ck vv R H locs) (hRm : 9 ≤ R0.frames ∧ 250 ≤ R0.locals) (hRc : 3 ≤ R0.cells ∧ 18 ≤ R0.slots) {x cst : Int32} {j v : Nat} (hcst : cst = costF NP NJ NV w ck vv R) (hj : j < max 1 NJ) (hv : v < max 1 NV) (hl : lv_has ls 10 [(4, .int cst), (3, .int (nI v)), (2, .int (nI j)), (1, .int x), (0, .ref P)]) : W p l e R0 s m args below meth c H locs 0 0 (QA dC dI cI cV P F G T za zb fa ia vd ra rb xa ya xb yb A s args below) (F0 m 550 ls []) := by
  obtain ⟨hx, hb, hml, hown, hts⟩ := id CF
  have hXs : XW s := L.2.2.1
  refine lv_aload_n hx hb dL_act_550 rfl (lv_at hl 4 rfl) ?_
  refine lv_iconst (v := 1) hx hb dL_act_551 (by decide) ?_
  refine lv_iload_n hx hb dL_act_552 rfl (lv_at hl 3 rfl) ?_
  refine lv_iconst (v := 5) hx hb dL_act_553 (by decide) ?_
  refine lv_ishr hx hb dL_act_554 ?_
  refine lv_bipush (v := 70) hx hb dL_act_555 (by decide) ?_
  refine k_Ti [.int (x >>> (5 &&& 31)), .int (nI 70)] ⟨hx, hb, hml, hown, hts⟩ (c_L_below l (x >>> (5 &&& 31)) 70 (by omega) (by omega)) q_ml_L_40 q_st_L_below q_ini_L q_co_L_below (n := 2) (by decide +kernel) rfl ⟨rfl, rfl⟩ ⟨Nat.le_trans (Nat.le_of_ble_eq_true rfl) hRm.1, Nat.le_trans (Nat.le_of_ble_eq_true rfl) hRm.2⟩ hl.1 rfl (Nat.le_of_ble_eq_true rfl) dL_act_557 ⟨by omega, by omega⟩ (fun rk_1 hk_1 => ?_)
  obtain ⟨k_1, hk_1, rfl⟩ := hk_1
  refine lv_iadd hx hb dL_act_560 ?_
  refine g_advance hlT (Nat.le_of_ble_eq_true rfl) CF L I0 G0 hRm hl.1 dL_act_561 ⟨by omega, by omega⟩ (fun E ce q9 H locs hE G hc1 hc2 hc3 => ?_) (fun r_2 a_2 b_2 H locs I_2 G_2 => ?_)
  · rcases hE with rfl | rfl | rfl
    · refine vx_catch (name := "java/lang/IndexOutOfBoundsException") hown (tableOf [(37, 225, 568, 103), (226, 298, 568, 103), (299, 361, 568, 103), (362, 468, 568, 103), (469, 498, 568, 103), (499, 549, 568, 103)]) _ _ (ht9.trans rfl) (List.forall_mem_cons.mpr ⟨Or.inl (by decide), List.forall_mem_cons.mpr ⟨Or.inl (by decide), List.forall_mem_cons.mpr ⟨Or.inl (by decide), List.forall_mem_cons.mpr ⟨Or.inl (by decide), List.forall_mem_cons.mpr ⟨Or.inl (by decide), List.forall_mem_cons.mpr ⟨Or.inl (by decide), fun _ h => absurd h List.not_mem_nil⟩⟩⟩⟩⟩⟩) rfl (by decide) (hts _ (tb_in q_cl_L_103)) (va_Nw.use rfl hXs.1.2.2.2.2.2) hc1 hc2 hc3 ?_
      exact ac_568 hlT CF hr hlocks L I0 G hRm hRc hcst (by omega) (by omega) (lv_sub hl [4, 0] rfl)
    · refine vx_catch (name := "java/lang/IllegalArgumentException") hown (tableOf [(37, 225, 568, 103), (226, 298, 568, 103), (299, 361, 568, 103), (362, 468, 568, 103), (469, 498, 568, 103), (499, 549, 568, 103), (550, 565, 568, 103), (37, 225, 585, 105), (226, 298, 585, 105), (299, 361, 585, 105), (362, 468, 585, 105), (469, 498, 585, 105), (499, 549, 585, 105)]) _ _ (ht9.trans rfl) (List.forall_mem_cons.mpr ⟨Or.inl (by decide), List.forall_mem_cons.mpr ⟨Or.inl (by decide), List.forall_mem_cons.mpr ⟨Or.inl (by decide), List.forall_mem_cons.mpr ⟨Or.inl (by decide), List.forall_mem_cons.mpr ⟨Or.inl (by decide), List.forall_mem_cons.mpr ⟨Or.inl (by decide), List.forall_mem_cons.mpr ⟨Or.inr ⟨by decide, "java/lang/IndexOutOfBoundsException", hts _ (tb_in q_cl_L_103), hC.1⟩, List.forall_mem_cons.mpr ⟨Or.inl (by decide), List.forall_mem_cons.mpr ⟨Or.inl (by decide), List.forall_mem_cons.mpr ⟨Or.inl (by decide), List.forall_mem_cons.mpr ⟨Or.inl (by decide), List.forall_mem_cons.mpr ⟨Or.inl (by decide), List.forall_mem_cons.mpr ⟨Or.inl (by decide), fun _ h => absurd h List.not_mem_nil⟩⟩⟩⟩⟩⟩⟩⟩⟩⟩⟩⟩⟩) rfl (by decide) (hts _ (tb_in q_cl_L_105)) (va_Nw.use rfl hXs.1.2.2.2.1) hc1 hc2 hc3 ?_
      exact ac_585 hlT CF hr hlocks L I0 G hRm hRc hcst (by omega) (by omega) (lv_sub hl [4, 0] rfl)
    · refine vx_catch (name := "java/lang/IllegalStateException") hown (tableOf [(37, 225, 568, 103), (226, 298, 568, 103), (299, 361, 568, 103), (362, 468, 568, 103), (469, 498, 568, 103), (499, 549, 568, 103), (550, 565, 568, 103), (37, 225, 585, 105), (226, 298, 585, 105), (299, 361, 585, 105), (362, 468, 585, 105), (469, 498, 585, 105), (499, 549, 585, 105), (550, 565, 585, 105), (37, 225, 602, 107), (226, 298, 602, 107), (299, 361, 602, 107), (362, 468, 602, 107), (469, 498, 602, 107), (499, 549, 602, 107)]) _ _ (ht9.trans rfl) (List.forall_mem_cons.mpr ⟨Or.inl (by decide), List.forall_mem_cons.mpr ⟨Or.inl (by decide), List.forall_mem_cons.mpr ⟨Or.inl (by decide), List.forall_mem_cons.mpr ⟨Or.inl (by decide), List.forall_mem_cons.mpr ⟨Or.inl (by decide), List.forall_mem_cons.mpr ⟨Or.inl (by decide), List.forall_mem_cons.mpr ⟨Or.inr ⟨by decide, "java/lang/IndexOutOfBoundsException", hts _ (tb_in q_cl_L_103), hC.2.1⟩, List.forall_mem_cons.mpr ⟨Or.inl (by decide), List.forall_mem_cons.mpr ⟨Or.inl (by decide), List.forall_mem_cons.mpr ⟨Or.inl (by decide), List.forall_mem_cons.mpr ⟨Or.inl (by decide), List.forall_mem_cons.mpr ⟨Or.inl (by decide), List.forall_mem_cons.mpr ⟨Or.inl (by decide), List.forall_mem_cons.mpr ⟨Or.inr ⟨by decide, "java/lang/IllegalArgumentException", hts _ (tb_in q_cl_L_105), hC.2.2⟩, List.forall_mem_cons.mpr ⟨Or.inl (by decide), List.forall_mem_cons.mpr ⟨Or.inl (by decide), List.forall_mem_cons.mpr ⟨Or.inl (by decide), List.forall_mem_cons.mpr ⟨Or.inl (by decide), List.forall_mem_cons.mpr ⟨Or.inl (by decide), List.forall_mem_cons.mpr ⟨Or.inl (by decide), fun _ h => absurd h List.not_mem_nil⟩⟩⟩⟩⟩⟩⟩⟩⟩⟩⟩⟩⟩⟩⟩⟩⟩⟩⟩⟩) rfl (by decide) (hts _ (tb_in q_cl_L_107)) (va_Nw.use rfl hXs.1.2.2.2.2.1) hc1 hc2 hc3 ?_
      exact ac_602 hlT CF hr hlocks L I0 G hRm hRc hcst (by omega) (by omega) (lv_sub hl [4, 0] rfl)
  refine lv_pop hx hb dL_act_564 rfl ?_
  exact ac_565 hlT CF hr hlocks L I_2 G_2 (by omega) (by omega)
end ActCases
